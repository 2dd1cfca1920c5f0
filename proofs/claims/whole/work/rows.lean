section
-- ===== PART A: goes FIRST, ahead of the names: the tables' words, and 'selects' of the private methods out of them =====
/-- a private method of a class that the tables say can be made, by its rows of tables_1 -/
def lw_okq (q : MethodName × Nat) : Prop := (q.1.cls ≠ "java/lang/invoke/MethodHandle" ∧ q.1.cls ≠ "java/lang/invoke/VarHandle") ∧ Cond.instantiable q.1.cls q.2 ∈ tables_1 ∧ Cond.privateMethod q.1 ∈ tables_1 ∧ Cond.instanceMethod q.1 ∈ tables_1
theorem lw_p0 : lw_okq (⟨"MapLumps$Reader", "passHead", "()V"⟩, 13) := ⟨⟨by decide +kernel, by decide +kernel⟩, List.mem_of_getElem? (i := 19) (by decide +kernel), List.mem_of_getElem? (i := 217) (by decide +kernel), List.mem_of_getElem? (i := 218) (by decide +kernel)⟩
theorem lw_p1 : lw_okq (⟨"MapLumps$Reader", "expect", "(II)V"⟩, 13) := ⟨⟨by decide +kernel, by decide +kernel⟩, List.mem_of_getElem? (i := 19) (by decide +kernel), List.mem_of_getElem? (i := 221) (by decide +kernel), List.mem_of_getElem? (i := 222) (by decide +kernel)⟩
theorem lw_p2 : lw_okq (⟨"MapLumps$Reader", "next", "()I"⟩, 13) := ⟨⟨by decide +kernel, by decide +kernel⟩, List.mem_of_getElem? (i := 19) (by decide +kernel), List.mem_of_getElem? (i := 225) (by decide +kernel), List.mem_of_getElem? (i := 226) (by decide +kernel)⟩
theorem lw_p3 : lw_okq (⟨"MapLumps$Reader", "fail", "(II)V"⟩, 13) := ⟨⟨by decide +kernel, by decide +kernel⟩, List.mem_of_getElem? (i := 19) (by decide +kernel), List.mem_of_getElem? (i := 233) (by decide +kernel), List.mem_of_getElem? (i := 234) (by decide +kernel)⟩
theorem lw_p4 : lw_okq (⟨"MapLumps$Reader", "small", "(II)I"⟩, 13) := ⟨⟨by decide +kernel, by decide +kernel⟩, List.mem_of_getElem? (i := 19) (by decide +kernel), List.mem_of_getElem? (i := 237) (by decide +kernel), List.mem_of_getElem? (i := 238) (by decide +kernel)⟩
theorem lw_p5 : lw_okq (⟨"MapLumps$Reader", "judged", "(IIII)I"⟩, 13) := ⟨⟨by decide +kernel, by decide +kernel⟩, List.mem_of_getElem? (i := 19) (by decide +kernel), List.mem_of_getElem? (i := 241) (by decide +kernel), List.mem_of_getElem? (i := 242) (by decide +kernel)⟩
theorem lw_p6 : lw_okq (⟨"MapLumps$Reader", "passVertices", "()V"⟩, 13) := ⟨⟨by decide +kernel, by decide +kernel⟩, List.mem_of_getElem? (i := 19) (by decide +kernel), List.mem_of_getElem? (i := 245) (by decide +kernel), List.mem_of_getElem? (i := 246) (by decide +kernel)⟩
theorem lw_p7 : lw_okq (⟨"MapLumps$Reader", "wide", "(II)I"⟩, 13) := ⟨⟨by decide +kernel, by decide +kernel⟩, List.mem_of_getElem? (i := 19) (by decide +kernel), List.mem_of_getElem? (i := 249) (by decide +kernel), List.mem_of_getElem? (i := 250) (by decide +kernel)⟩
theorem lw_p8 : lw_okq (⟨"MapLumps$Reader", "isTaken", "(I)Z"⟩, 13) := ⟨⟨by decide +kernel, by decide +kernel⟩, List.mem_of_getElem? (i := 19) (by decide +kernel), List.mem_of_getElem? (i := 254) (by decide +kernel), List.mem_of_getElem? (i := 255) (by decide +kernel)⟩
theorem lw_p9 : lw_okq (⟨"MapLumps$Reader", "passTextures", "()V"⟩, 13) := ⟨⟨by decide +kernel, by decide +kernel⟩, List.mem_of_getElem? (i := 19) (by decide +kernel), List.mem_of_getElem? (i := 258) (by decide +kernel), List.mem_of_getElem? (i := 259) (by decide +kernel)⟩
theorem lw_p10 : lw_okq (⟨"MapLumps$Reader", "passSectors", "()V"⟩, 13) := ⟨⟨by decide +kernel, by decide +kernel⟩, List.mem_of_getElem? (i := 19) (by decide +kernel), List.mem_of_getElem? (i := 262) (by decide +kernel), List.mem_of_getElem? (i := 263) (by decide +kernel)⟩
theorem lw_p11 : lw_okq (⟨"MapLumps$Reader", "smallOrAbsent", "(I)I"⟩, 13) := ⟨⟨by decide +kernel, by decide +kernel⟩, List.mem_of_getElem? (i := 19) (by decide +kernel), List.mem_of_getElem? (i := 266) (by decide +kernel), List.mem_of_getElem? (i := 267) (by decide +kernel)⟩
theorem lw_p12 : lw_okq (⟨"MapLumps$Reader", "passWalls", "()V"⟩, 13) := ⟨⟨by decide +kernel, by decide +kernel⟩, List.mem_of_getElem? (i := 19) (by decide +kernel), List.mem_of_getElem? (i := 270) (by decide +kernel), List.mem_of_getElem? (i := 271) (by decide +kernel)⟩
theorem lw_p13 : lw_okq (⟨"MapLumps$Reader", "passWallEnds", "(LMapLumps$Span;)V"⟩, 13) := ⟨⟨by decide +kernel, by decide +kernel⟩, List.mem_of_getElem? (i := 19) (by decide +kernel), List.mem_of_getElem? (i := 274) (by decide +kernel), List.mem_of_getElem? (i := 275) (by decide +kernel)⟩
theorem lw_p14 : lw_okq (⟨"MapLumps$Reader", "passWallTextures", "(I)V"⟩, 13) := ⟨⟨by decide +kernel, by decide +kernel⟩, List.mem_of_getElem? (i := 19) (by decide +kernel), List.mem_of_getElem? (i := 288) (by decide +kernel), List.mem_of_getElem? (i := 289) (by decide +kernel)⟩
theorem lw_p15 : lw_okq (⟨"MapLumps$Reader", "passStart", "()V"⟩, 13) := ⟨⟨by decide +kernel, by decide +kernel⟩, List.mem_of_getElem? (i := 19) (by decide +kernel), List.mem_of_getElem? (i := 292) (by decide +kernel), List.mem_of_getElem? (i := 293) (by decide +kernel)⟩
def lw_privs_1 : List (MethodName × Nat) := [(⟨"MapLumps$Reader", "passHead", "()V"⟩, 13), (⟨"MapLumps$Reader", "expect", "(II)V"⟩, 13), (⟨"MapLumps$Reader", "next", "()I"⟩, 13), (⟨"MapLumps$Reader", "fail", "(II)V"⟩, 13), (⟨"MapLumps$Reader", "small", "(II)I"⟩, 13), (⟨"MapLumps$Reader", "judged", "(IIII)I"⟩, 13), (⟨"MapLumps$Reader", "passVertices", "()V"⟩, 13), (⟨"MapLumps$Reader", "wide", "(II)I"⟩, 13), (⟨"MapLumps$Reader", "isTaken", "(I)Z"⟩, 13), (⟨"MapLumps$Reader", "passTextures", "()V"⟩, 13), (⟨"MapLumps$Reader", "passSectors", "()V"⟩, 13), (⟨"MapLumps$Reader", "smallOrAbsent", "(I)I"⟩, 13), (⟨"MapLumps$Reader", "passWalls", "()V"⟩, 13), (⟨"MapLumps$Reader", "passWallEnds", "(LMapLumps$Span;)V"⟩, 13), (⟨"MapLumps$Reader", "passWallTextures", "(I)V"⟩, 13), (⟨"MapLumps$Reader", "passStart", "()V"⟩, 13)]
theorem lw_r1 : ∀ q ∈ lw_privs_1, lw_okq q := List.forall_mem_cons.mpr ⟨lw_p0, List.forall_mem_cons.mpr ⟨lw_p1, List.forall_mem_cons.mpr ⟨lw_p2, List.forall_mem_cons.mpr ⟨lw_p3, List.forall_mem_cons.mpr ⟨lw_p4, List.forall_mem_cons.mpr ⟨lw_p5, List.forall_mem_cons.mpr ⟨lw_p6, List.forall_mem_cons.mpr ⟨lw_p7, List.forall_mem_cons.mpr ⟨lw_p8, List.forall_mem_cons.mpr ⟨lw_p9, List.forall_mem_cons.mpr ⟨lw_p10, List.forall_mem_cons.mpr ⟨lw_p11, List.forall_mem_cons.mpr ⟨lw_p12, List.forall_mem_cons.mpr ⟨lw_p13, List.forall_mem_cons.mpr ⟨lw_p14, List.forall_mem_cons.mpr ⟨lw_p15, fun _ h => absurd h List.not_mem_nil⟩⟩⟩⟩⟩⟩⟩⟩⟩⟩⟩⟩⟩⟩⟩⟩
theorem lw_p16 : lw_okq (⟨"MapLumps$Reader", "passEnd", "()V"⟩, 13) := ⟨⟨by decide +kernel, by decide +kernel⟩, List.mem_of_getElem? (i := 19) (by decide +kernel), List.mem_of_getElem? (i := 296) (by decide +kernel), List.mem_of_getElem? (i := 297) (by decide +kernel)⟩
theorem lw_p17 : lw_okq (⟨"MapLumps$Reader", "seekMeeting", "()V"⟩, 13) := ⟨⟨by decide +kernel, by decide +kernel⟩, List.mem_of_getElem? (i := 19) (by decide +kernel), List.mem_of_getElem? (i := 304) (by decide +kernel), List.mem_of_getElem? (i := 305) (by decide +kernel)⟩
theorem lw_p18 : lw_okq (⟨"MapLumps$Span", "boxesApart", "(LMapLumps$Span;)Z"⟩, 8) := ⟨⟨by decide +kernel, by decide +kernel⟩, List.mem_of_getElem? (i := 42) (by decide +kernel), List.mem_of_getElem? (i := 312) (by decide +kernel), List.mem_of_getElem? (i := 313) (by decide +kernel)⟩
theorem lw_p19 : lw_okq (⟨"MapLumps$Span", "lineParts", "(LMapLumps$Span;)Z"⟩, 8) := ⟨⟨by decide +kernel, by decide +kernel⟩, List.mem_of_getElem? (i := 42) (by decide +kernel), List.mem_of_getElem? (i := 322) (by decide +kernel), List.mem_of_getElem? (i := 323) (by decide +kernel)⟩
theorem lw_p20 : lw_okq (⟨"MapLumps$Span", "side", "(II)I"⟩, 8) := ⟨⟨by decide +kernel, by decide +kernel⟩, List.mem_of_getElem? (i := 42) (by decide +kernel), List.mem_of_getElem? (i := 326) (by decide +kernel), List.mem_of_getElem? (i := 327) (by decide +kernel)⟩
theorem lw_p21 : lw_okq (⟨"MapLumps$RoomMap", "textureAt", "(I)I"⟩, 10) := ⟨⟨by decide +kernel, by decide +kernel⟩, List.mem_of_getElem? (i := 120) (by decide +kernel), List.mem_of_getElem? (i := 349) (by decide +kernel), List.mem_of_getElem? (i := 350) (by decide +kernel)⟩
theorem lw_p22 : lw_okq (⟨"MapLumpsModel", "add", "(I)V"⟩, 13) := ⟨⟨by decide +kernel, by decide +kernel⟩, List.mem_of_getElem? (i := 413) (by decide +kernel), List.mem_of_getElem? (i := 475) (by decide +kernel), List.mem_of_getElem? (i := 476) (by decide +kernel)⟩
theorem lw_p23 : lw_okq (⟨"MapLumpsModel", "readAll", "()V"⟩, 13) := ⟨⟨by decide +kernel, by decide +kernel⟩, List.mem_of_getElem? (i := 413) (by decide +kernel), List.mem_of_getElem? (i := 483) (by decide +kernel), List.mem_of_getElem? (i := 484) (by decide +kernel)⟩
theorem lw_p24 : lw_okq (⟨"MapLumpsModel", "next", "(II)I"⟩, 13) := ⟨⟨by decide +kernel, by decide +kernel⟩, List.mem_of_getElem? (i := 413) (by decide +kernel), List.mem_of_getElem? (i := 487) (by decide +kernel), List.mem_of_getElem? (i := 488) (by decide +kernel)⟩
theorem lw_p25 : lw_okq (⟨"MapLumpsModel", "wrong", "(II)V"⟩, 13) := ⟨⟨by decide +kernel, by decide +kernel⟩, List.mem_of_getElem? (i := 413) (by decide +kernel), List.mem_of_getElem? (i := 491) (by decide +kernel), List.mem_of_getElem? (i := 492) (by decide +kernel)⟩
theorem lw_p26 : lw_okq (⟨"MapLumpsModel", "readVertex", "(I)V"⟩, 13) := ⟨⟨by decide +kernel, by decide +kernel⟩, List.mem_of_getElem? (i := 413) (by decide +kernel), List.mem_of_getElem? (i := 495) (by decide +kernel), List.mem_of_getElem? (i := 496) (by decide +kernel)⟩
theorem lw_p27 : lw_okq (⟨"MapLumpsModel", "nextTwo", "(II)I"⟩, 13) := ⟨⟨by decide +kernel, by decide +kernel⟩, List.mem_of_getElem? (i := 413) (by decide +kernel), List.mem_of_getElem? (i := 499) (by decide +kernel), List.mem_of_getElem? (i := 500) (by decide +kernel)⟩
theorem lw_p28 : lw_okq (⟨"MapLumpsModel", "readTexture", "()V"⟩, 13) := ⟨⟨by decide +kernel, by decide +kernel⟩, List.mem_of_getElem? (i := 413) (by decide +kernel), List.mem_of_getElem? (i := 507) (by decide +kernel), List.mem_of_getElem? (i := 508) (by decide +kernel)⟩
theorem lw_p29 : lw_okq (⟨"MapLumpsModel", "readSector", "(I)V"⟩, 13) := ⟨⟨by decide +kernel, by decide +kernel⟩, List.mem_of_getElem? (i := 413) (by decide +kernel), List.mem_of_getElem? (i := 511) (by decide +kernel), List.mem_of_getElem? (i := 512) (by decide +kernel)⟩
theorem lw_p30 : lw_okq (⟨"MapLumpsModel", "nextOr", "(I)I"⟩, 13) := ⟨⟨by decide +kernel, by decide +kernel⟩, List.mem_of_getElem? (i := 413) (by decide +kernel), List.mem_of_getElem? (i := 515) (by decide +kernel), List.mem_of_getElem? (i := 516) (by decide +kernel)⟩
theorem lw_p31 : lw_okq (⟨"MapLumpsModel", "readWall", "(III)V"⟩, 13) := ⟨⟨by decide +kernel, by decide +kernel⟩, List.mem_of_getElem? (i := 413) (by decide +kernel), List.mem_of_getElem? (i := 519) (by decide +kernel), List.mem_of_getElem? (i := 520) (by decide +kernel)⟩
def lw_privs_2 : List (MethodName × Nat) := [(⟨"MapLumps$Reader", "passEnd", "()V"⟩, 13), (⟨"MapLumps$Reader", "seekMeeting", "()V"⟩, 13), (⟨"MapLumps$Span", "boxesApart", "(LMapLumps$Span;)Z"⟩, 8), (⟨"MapLumps$Span", "lineParts", "(LMapLumps$Span;)Z"⟩, 8), (⟨"MapLumps$Span", "side", "(II)I"⟩, 8), (⟨"MapLumps$RoomMap", "textureAt", "(I)I"⟩, 10), (⟨"MapLumpsModel", "add", "(I)V"⟩, 13), (⟨"MapLumpsModel", "readAll", "()V"⟩, 13), (⟨"MapLumpsModel", "next", "(II)I"⟩, 13), (⟨"MapLumpsModel", "wrong", "(II)V"⟩, 13), (⟨"MapLumpsModel", "readVertex", "(I)V"⟩, 13), (⟨"MapLumpsModel", "nextTwo", "(II)I"⟩, 13), (⟨"MapLumpsModel", "readTexture", "()V"⟩, 13), (⟨"MapLumpsModel", "readSector", "(I)V"⟩, 13), (⟨"MapLumpsModel", "nextOr", "(I)I"⟩, 13), (⟨"MapLumpsModel", "readWall", "(III)V"⟩, 13)]
theorem lw_r2 : ∀ q ∈ lw_privs_2, lw_okq q := List.forall_mem_cons.mpr ⟨lw_p16, List.forall_mem_cons.mpr ⟨lw_p17, List.forall_mem_cons.mpr ⟨lw_p18, List.forall_mem_cons.mpr ⟨lw_p19, List.forall_mem_cons.mpr ⟨lw_p20, List.forall_mem_cons.mpr ⟨lw_p21, List.forall_mem_cons.mpr ⟨lw_p22, List.forall_mem_cons.mpr ⟨lw_p23, List.forall_mem_cons.mpr ⟨lw_p24, List.forall_mem_cons.mpr ⟨lw_p25, List.forall_mem_cons.mpr ⟨lw_p26, List.forall_mem_cons.mpr ⟨lw_p27, List.forall_mem_cons.mpr ⟨lw_p28, List.forall_mem_cons.mpr ⟨lw_p29, List.forall_mem_cons.mpr ⟨lw_p30, List.forall_mem_cons.mpr ⟨lw_p31, fun _ h => absurd h List.not_mem_nil⟩⟩⟩⟩⟩⟩⟩⟩⟩⟩⟩⟩⟩⟩⟩⟩
theorem lw_p32 : lw_okq (⟨"MapLumpsModel", "readCheck", "(I)V"⟩, 13) := ⟨⟨by decide +kernel, by decide +kernel⟩, List.mem_of_getElem? (i := 413) (by decide +kernel), List.mem_of_getElem? (i := 523) (by decide +kernel), List.mem_of_getElem? (i := 524) (by decide +kernel)⟩
theorem lw_p33 : lw_okq (⟨"MapLumpsModel", "touch", "(II)Z"⟩, 13) := ⟨⟨by decide +kernel, by decide +kernel⟩, List.mem_of_getElem? (i := 413) (by decide +kernel), List.mem_of_getElem? (i := 527) (by decide +kernel), List.mem_of_getElem? (i := 528) (by decide +kernel)⟩
theorem lw_p34 : lw_okq (⟨"MapLumpsModel", "vertexOf", "(II)I"⟩, 13) := ⟨⟨by decide +kernel, by decide +kernel⟩, List.mem_of_getElem? (i := 413) (by decide +kernel), List.mem_of_getElem? (i := 531) (by decide +kernel), List.mem_of_getElem? (i := 532) (by decide +kernel)⟩
theorem lw_p35 : lw_okq (⟨"MapLumpsModel", "side", "(II)I"⟩, 13) := ⟨⟨by decide +kernel, by decide +kernel⟩, List.mem_of_getElem? (i := 413) (by decide +kernel), List.mem_of_getElem? (i := 535) (by decide +kernel), List.mem_of_getElem? (i := 536) (by decide +kernel)⟩
theorem lw_p36 : lw_okq (⟨"MapLumpsModel", "lies", "(II)Z"⟩, 13) := ⟨⟨by decide +kernel, by decide +kernel⟩, List.mem_of_getElem? (i := 413) (by decide +kernel), List.mem_of_getElem? (i := 542) (by decide +kernel), List.mem_of_getElem? (i := 543) (by decide +kernel)⟩
theorem lw_p37 : lw_okq (⟨"MapLumpsModel", "has", "(II)Z"⟩, 13) := ⟨⟨by decide +kernel, by decide +kernel⟩, List.mem_of_getElem? (i := 413) (by decide +kernel), List.mem_of_getElem? (i := 558) (by decide +kernel), List.mem_of_getElem? (i := 559) (by decide +kernel)⟩
theorem lw_p38 : lw_okq (⟨"MapLumpsModel", "many", "(I)I"⟩, 13) := ⟨⟨by decide +kernel, by decide +kernel⟩, List.mem_of_getElem? (i := 413) (by decide +kernel), List.mem_of_getElem? (i := 562) (by decide +kernel), List.mem_of_getElem? (i := 563) (by decide +kernel)⟩
theorem lw_p39 : lw_okq (⟨"MapLumpsModel", "textureAt", "(I)I"⟩, 13) := ⟨⟨by decide +kernel, by decide +kernel⟩, List.mem_of_getElem? (i := 413) (by decide +kernel), List.mem_of_getElem? (i := 571) (by decide +kernel), List.mem_of_getElem? (i := 572) (by decide +kernel)⟩
theorem lw_p40 : lw_okq (⟨"MapLumpsModel", "sectorAt", "(I)I"⟩, 13) := ⟨⟨by decide +kernel, by decide +kernel⟩, List.mem_of_getElem? (i := 413) (by decide +kernel), List.mem_of_getElem? (i := 579) (by decide +kernel), List.mem_of_getElem? (i := 580) (by decide +kernel)⟩
theorem lw_p41 : lw_okq (⟨"MapLumpsModel", "wallAt", "(I)I"⟩, 13) := ⟨⟨by decide +kernel, by decide +kernel⟩, List.mem_of_getElem? (i := 413) (by decide +kernel), List.mem_of_getElem? (i := 587) (by decide +kernel), List.mem_of_getElem? (i := 588) (by decide +kernel)⟩
def lw_privs_3 : List (MethodName × Nat) := [(⟨"MapLumpsModel", "readCheck", "(I)V"⟩, 13), (⟨"MapLumpsModel", "touch", "(II)Z"⟩, 13), (⟨"MapLumpsModel", "vertexOf", "(II)I"⟩, 13), (⟨"MapLumpsModel", "side", "(II)I"⟩, 13), (⟨"MapLumpsModel", "lies", "(II)Z"⟩, 13), (⟨"MapLumpsModel", "has", "(II)Z"⟩, 13), (⟨"MapLumpsModel", "many", "(I)I"⟩, 13), (⟨"MapLumpsModel", "textureAt", "(I)I"⟩, 13), (⟨"MapLumpsModel", "sectorAt", "(I)I"⟩, 13), (⟨"MapLumpsModel", "wallAt", "(I)I"⟩, 13)]
theorem lw_r3 : ∀ q ∈ lw_privs_3, lw_okq q := List.forall_mem_cons.mpr ⟨lw_p32, List.forall_mem_cons.mpr ⟨lw_p33, List.forall_mem_cons.mpr ⟨lw_p34, List.forall_mem_cons.mpr ⟨lw_p35, List.forall_mem_cons.mpr ⟨lw_p36, List.forall_mem_cons.mpr ⟨lw_p37, List.forall_mem_cons.mpr ⟨lw_p38, List.forall_mem_cons.mpr ⟨lw_p39, List.forall_mem_cons.mpr ⟨lw_p40, List.forall_mem_cons.mpr ⟨lw_p41, fun _ h => absurd h List.not_mem_nil⟩⟩⟩⟩⟩⟩⟩⟩⟩⟩
def lw_privs : List (MethodName × Nat) := lw_privs_1 ++ (lw_privs_2 ++ (lw_privs_3))
def lw_tbl : List Cond := k2_sels lw_privs ++ tables_1
theorem lw_privs_ok : ∀ q ∈ lw_privs, lw_okq q := by
  show ∀ q ∈ lw_privs_1 ++ (lw_privs_2 ++ (lw_privs_3)), lw_okq q
  exact List.forall_mem_append.mpr ⟨lw_r1, List.forall_mem_append.mpr ⟨lw_r2, lw_r3⟩⟩
end
section
def R_Lu : String := "MapLumps"
def T_Lu : u_T := fun k => match k with
  | 0 => ("MapLumps", "reader", "LMapLumps$Reader;", true)
  | 1 => ("MapLumps", "input", "LMapLumps$Row;", true)
  | 2 => ("MapLumps", "output", "LMapLumps$Row;", true)
  | _ => ("MapLumps", "map", "LMapLumps$RoomMap;", true)
def ty_Lu : Nat → FieldType := fun k => match k with
  | 0 => .object "MapLumps$Reader"
  | 1 => .object "MapLumps$Row"
  | 2 => .object "MapLumps$Row"
  | _ => .object "MapLumps$RoomMap"
theorem nm_Lu : ∀ a, a < 4 → ∀ b, b < 4 → a ≠ b → (T_Lu a).2.1 ≠ (T_Lu b).2.1 := by decide +kernel
theorem tyok_Lu : ∀ k, k < 4 → parseFieldDescriptor (T_Lu k).2.2.1 = some (ty_Lu k) := by decide +kernel
def R_Rd : String := "MapLumps$Reader"
def T_Rd : u_T := fun k => match k with
  | 0 => ("MapLumps$Reader", "source", "LMapLumps$Row;", true)
  | 1 => ("MapLumps$Reader", "xs", "[I", true)
  | 2 => ("MapLumps$Reader", "ys", "[I", true)
  | 3 => ("MapLumps$Reader", "spans", "[LMapLumps$Span;", true)
  | 4 => ("MapLumps$Reader", "vertices", "I", false)
  | 5 => ("MapLumps$Reader", "textures", "I", false)
  | 6 => ("MapLumps$Reader", "sectors", "I", false)
  | 7 => ("MapLumps$Reader", "walls", "I", false)
  | 8 => ("MapLumps$Reader", "wallsAt", "I", false)
  | 9 => ("MapLumps$Reader", "place", "I", false)
  | 10 => ("MapLumps$Reader", "fault", "I", false)
  | 11 => ("MapLumps$Reader", "faultPlace", "I", false)
  | _ => ("MapLumps$Reader", "faultWall", "I", false)
def ty_Rd : Nat → FieldType := fun k => match k with
  | 0 => .object "MapLumps$Row"
  | 1 => .array .int
  | 2 => .array .int
  | 3 => .array (.object "MapLumps$Span")
  | 4 => .int
  | 5 => .int
  | 6 => .int
  | 7 => .int
  | 8 => .int
  | 9 => .int
  | 10 => .int
  | 11 => .int
  | _ => .int
theorem nm_Rd : ∀ a, a < 13 → ∀ b, b < 13 → a ≠ b → (T_Rd a).2.1 ≠ (T_Rd b).2.1 := by decide +kernel
theorem tyok_Rd : ∀ k, k < 13 → parseFieldDescriptor (T_Rd k).2.2.1 = some (ty_Rd k) := by decide +kernel
def R_Mp : String := "MapLumps$RoomMap"
def T_Mp : u_T := fun k => match k with
  | 0 => ("MapLumps$RoomMap", "row", "LMapLumps$Row;", true)
  | 1 => ("MapLumps$RoomMap", "texturesAt", "[I", true)
  | 2 => ("MapLumps$RoomMap", "present", "Z", false)
  | 3 => ("MapLumps$RoomMap", "vertices", "I", false)
  | 4 => ("MapLumps$RoomMap", "textures", "I", false)
  | 5 => ("MapLumps$RoomMap", "sectors", "I", false)
  | 6 => ("MapLumps$RoomMap", "walls", "I", false)
  | 7 => ("MapLumps$RoomMap", "sectorsAt", "I", false)
  | 8 => ("MapLumps$RoomMap", "wallsAt", "I", false)
  | _ => ("MapLumps$RoomMap", "startAt", "I", false)
def ty_Mp : Nat → FieldType := fun k => match k with
  | 0 => .object "MapLumps$Row"
  | 1 => .array .int
  | 2 => .boolean
  | 3 => .int
  | 4 => .int
  | 5 => .int
  | 6 => .int
  | 7 => .int
  | 8 => .int
  | _ => .int
theorem nm_Mp : ∀ a, a < 10 → ∀ b, b < 10 → a ≠ b → (T_Mp a).2.1 ≠ (T_Mp b).2.1 := by decide +kernel
theorem tyok_Mp : ∀ k, k < 10 → parseFieldDescriptor (T_Mp k).2.2.1 = some (ty_Mp k) := by decide +kernel
def R_Rw : String := "MapLumps$Row"
def T_Rw : u_T := fun k => match k with
  | 0 => ("MapLumps$Row", "cells", "[B", true)
  | _ => ("MapLumps$Row", "size", "I", false)
def ty_Rw : Nat → FieldType := fun k => match k with
  | 0 => .array .byte
  | _ => .int
theorem nm_Rw : ∀ a, a < 2 → ∀ b, b < 2 → a ≠ b → (T_Rw a).2.1 ≠ (T_Rw b).2.1 := by decide +kernel
theorem tyok_Rw : ∀ k, k < 2 → parseFieldDescriptor (T_Rw k).2.2.1 = some (ty_Rw k) := by decide +kernel
def R_Sp : String := "MapLumps$Span"
def T_Sp : u_T := fun k => match k with
  | 0 => ("MapLumps$Span", "ax", "I", false)
  | 1 => ("MapLumps$Span", "ay", "I", false)
  | 2 => ("MapLumps$Span", "bx", "I", false)
  | 3 => ("MapLumps$Span", "by", "I", false)
  | 4 => ("MapLumps$Span", "left", "I", false)
  | 5 => ("MapLumps$Span", "right", "I", false)
  | 6 => ("MapLumps$Span", "bottom", "I", false)
  | _ => ("MapLumps$Span", "top", "I", false)
def ty_Sp : Nat → FieldType := fun k => match k with
  | 0 => .int
  | 1 => .int
  | 2 => .int
  | 3 => .int
  | 4 => .int
  | 5 => .int
  | 6 => .int
  | _ => .int
theorem nm_Sp : ∀ a, a < 8 → ∀ b, b < 8 → a ≠ b → (T_Sp a).2.1 ≠ (T_Sp b).2.1 := by decide +kernel
theorem tyok_Sp : ∀ k, k < 8 → parseFieldDescriptor (T_Sp k).2.2.1 = some (ty_Sp k) := by decide +kernel
def R_Mo : String := "MapLumpsModel"
def T_Mo : u_T := fun k => match k with
  | 0 => ("MapLumpsModel", "thrown", "I", false)
  | 1 => ("MapLumpsModel", "input", "[B", true)
  | 2 => ("MapLumpsModel", "size", "I", false)
  | 3 => ("MapLumpsModel", "map", "[B", true)
  | 4 => ("MapLumpsModel", "mapSize", "I", false)
  | 5 => ("MapLumpsModel", "output", "[B", true)
  | 6 => ("MapLumpsModel", "written", "I", false)
  | 7 => ("MapLumpsModel", "fault", "I", false)
  | 8 => ("MapLumpsModel", "place", "I", false)
  | 9 => ("MapLumpsModel", "clash", "I", false)
  | 10 => ("MapLumpsModel", "p", "I", false)
  | 11 => ("MapLumpsModel", "one", "I", false)
  | _ => ("MapLumpsModel", "two", "I", false)
def ty_Mo : Nat → FieldType := fun k => match k with
  | 0 => .int
  | 1 => .array .byte
  | 2 => .int
  | 3 => .array .byte
  | 4 => .int
  | 5 => .array .byte
  | 6 => .int
  | 7 => .int
  | 8 => .int
  | 9 => .int
  | 10 => .int
  | 11 => .int
  | _ => .int
theorem nm_Mo : ∀ a, a < 13 → ∀ b, b < 13 → a ≠ b → (T_Mo a).2.1 ≠ (T_Mo b).2.1 := by decide +kernel
theorem tyok_Mo : ∀ k, k < 13 → parseFieldDescriptor (T_Mo k).2.2.1 = some (ty_Mo k) := by decide +kernel
/-- the classes whose objects the worlds hold -/
abbrev cls : List vw_C := [(R_Lu, T_Lu, 4), (R_Rd, T_Rd, 13), (R_Mp, T_Mp, 10), (R_Rw, T_Rw, 2), (R_Sp, T_Sp, 8), (R_Mo, T_Mo, 13)]
def R_Lw : String := "MapLumpsLaw"
abbrev b_Lu_init : ByteArray := prog_1_method_1_code
abbrev y_Lu_init : MethodName := ⟨"MapLumps", "<init>", "()V"⟩
abbrev b_Lu_give : ByteArray := prog_1_method_2_code
abbrev y_Lu_give : MethodName := ⟨"MapLumps", "give", "(JI)Z"⟩
abbrev b_Lu_cut : ByteArray := prog_1_method_3_code
abbrev y_Lu_cut : MethodName := ⟨"MapLumps", "cut", "(I)Z"⟩
abbrev b_Lu_poke : ByteArray := prog_1_method_4_code
abbrev y_Lu_poke : MethodName := ⟨"MapLumps", "poke", "(II)Z"⟩
abbrev b_Lu_read : ByteArray := prog_1_method_5_code
abbrev y_Lu_read : MethodName := ⟨"MapLumps", "read", "()I"⟩
abbrev b_Lu_write : ByteArray := prog_1_method_6_code
abbrev y_Lu_write : MethodName := ⟨"MapLumps", "write", "()I"⟩
abbrev b_Lu_check : ByteArray := prog_1_method_7_code
abbrev y_Lu_check : MethodName := ⟨"MapLumps", "check", "()Z"⟩
abbrev b_Lu_byteAt : ByteArray := prog_1_method_8_code
abbrev y_Lu_byteAt : MethodName := ⟨"MapLumps", "byteAt", "(IZ)I"⟩
abbrev b_Lu_vertex : ByteArray := prog_1_method_9_code
abbrev y_Lu_vertex : MethodName := ⟨"MapLumps", "vertex", "(IZ)I"⟩
abbrev b_Lu_texture : ByteArray := prog_1_method_10_code
abbrev y_Lu_texture : MethodName := ⟨"MapLumps", "texture", "(II)I"⟩
abbrev b_Lu_sector : ByteArray := prog_1_method_11_code
abbrev y_Lu_sector : MethodName := ⟨"MapLumps", "sector", "(II)I"⟩
abbrev b_Lu_wall : ByteArray := prog_1_method_12_code
abbrev y_Lu_wall : MethodName := ⟨"MapLumps", "wall", "(II)I"⟩
abbrev b_Lu_start : ByteArray := prog_1_method_13_code
abbrev y_Lu_start : MethodName := ⟨"MapLumps", "start", "(I)I"⟩
abbrev b_Lu_look : ByteArray := prog_1_method_14_code
abbrev y_Lu_look : MethodName := ⟨"MapLumps", "look", "(I)I"⟩
abbrev b_Mo_init : ByteArray := prog_7_method_1_code
abbrev y_Mo_init : MethodName := ⟨"MapLumpsModel", "<init>", "()V"⟩
abbrev b_Mo_give : ByteArray := prog_7_method_3_code
abbrev y_Mo_give : MethodName := ⟨"MapLumpsModel", "give", "(JI)Z"⟩
abbrev b_Mo_cut : ByteArray := prog_7_method_4_code
abbrev y_Mo_cut : MethodName := ⟨"MapLumpsModel", "cut", "(I)Z"⟩
abbrev b_Mo_poke : ByteArray := prog_7_method_5_code
abbrev y_Mo_poke : MethodName := ⟨"MapLumpsModel", "poke", "(II)Z"⟩
abbrev b_Mo_check : ByteArray := prog_7_method_6_code
abbrev y_Mo_check : MethodName := ⟨"MapLumpsModel", "check", "()Z"⟩
abbrev b_Mo_wrong : ByteArray := prog_7_method_7_code
abbrev y_Mo_wrong : MethodName := ⟨"MapLumpsModel", "wrong", "(II)V"⟩
abbrev b_Mo_add : ByteArray := prog_7_method_8_code
abbrev y_Mo_add : MethodName := ⟨"MapLumpsModel", "add", "(I)V"⟩
abbrev b_Mo_next : ByteArray := prog_7_method_9_code
abbrev y_Mo_next : MethodName := ⟨"MapLumpsModel", "next", "(II)I"⟩
abbrev b_Mo_nextOr : ByteArray := prog_7_method_10_code
abbrev y_Mo_nextOr : MethodName := ⟨"MapLumpsModel", "nextOr", "(I)I"⟩
abbrev b_Mo_nextTwo : ByteArray := prog_7_method_11_code
abbrev y_Mo_nextTwo : MethodName := ⟨"MapLumpsModel", "nextTwo", "(II)I"⟩
abbrev b_Mo_pair : ByteArray := prog_7_method_12_code
abbrev y_Mo_pair : MethodName := ⟨"MapLumpsModel", "pair", "([BI)I"⟩
abbrev b_Mo_readVertex : ByteArray := prog_7_method_13_code
abbrev y_Mo_readVertex : MethodName := ⟨"MapLumpsModel", "readVertex", "(I)V"⟩
abbrev b_Mo_readTexture : ByteArray := prog_7_method_14_code
abbrev y_Mo_readTexture : MethodName := ⟨"MapLumpsModel", "readTexture", "()V"⟩
abbrev b_Mo_readSector : ByteArray := prog_7_method_15_code
abbrev y_Mo_readSector : MethodName := ⟨"MapLumpsModel", "readSector", "(I)V"⟩
abbrev b_Mo_readWall : ByteArray := prog_7_method_16_code
abbrev y_Mo_readWall : MethodName := ⟨"MapLumpsModel", "readWall", "(III)V"⟩
abbrev b_Mo_readAll : ByteArray := prog_7_method_17_code
abbrev y_Mo_readAll : MethodName := ⟨"MapLumpsModel", "readAll", "()V"⟩
abbrev b_Mo_readCheck : ByteArray := prog_7_method_18_code
abbrev y_Mo_readCheck : MethodName := ⟨"MapLumpsModel", "readCheck", "(I)V"⟩
abbrev b_Mo_vertexOf : ByteArray := prog_7_method_19_code
abbrev y_Mo_vertexOf : MethodName := ⟨"MapLumpsModel", "vertexOf", "(II)I"⟩
abbrev b_Mo_cross : ByteArray := prog_7_method_20_code
abbrev y_Mo_cross : MethodName := ⟨"MapLumpsModel", "cross", "(JJJJ)J"⟩
abbrev b_Mo_side : ByteArray := prog_7_method_21_code
abbrev y_Mo_side : MethodName := ⟨"MapLumpsModel", "side", "(II)I"⟩
abbrev b_Mo_lies : ByteArray := prog_7_method_22_code
abbrev y_Mo_lies : MethodName := ⟨"MapLumpsModel", "lies", "(II)Z"⟩
abbrev b_Mo_touch : ByteArray := prog_7_method_23_code
abbrev y_Mo_touch : MethodName := ⟨"MapLumpsModel", "touch", "(II)Z"⟩
abbrev b_Mo_read : ByteArray := prog_7_method_24_code
abbrev y_Mo_read : MethodName := ⟨"MapLumpsModel", "read", "()I"⟩
abbrev b_Mo_write : ByteArray := prog_7_method_25_code
abbrev y_Mo_write : MethodName := ⟨"MapLumpsModel", "write", "()I"⟩
abbrev b_Mo_byteAt : ByteArray := prog_7_method_26_code
abbrev y_Mo_byteAt : MethodName := ⟨"MapLumpsModel", "byteAt", "(IZ)I"⟩
abbrev b_Mo_many : ByteArray := prog_7_method_27_code
abbrev y_Mo_many : MethodName := ⟨"MapLumpsModel", "many", "(I)I"⟩
abbrev b_Mo_textureAt : ByteArray := prog_7_method_28_code
abbrev y_Mo_textureAt : MethodName := ⟨"MapLumpsModel", "textureAt", "(I)I"⟩
abbrev b_Mo_sectorAt : ByteArray := prog_7_method_29_code
abbrev y_Mo_sectorAt : MethodName := ⟨"MapLumpsModel", "sectorAt", "(I)I"⟩
abbrev b_Mo_wallAt : ByteArray := prog_7_method_30_code
abbrev y_Mo_wallAt : MethodName := ⟨"MapLumpsModel", "wallAt", "(I)I"⟩
abbrev b_Mo_has : ByteArray := prog_7_method_31_code
abbrev y_Mo_has : MethodName := ⟨"MapLumpsModel", "has", "(II)Z"⟩
abbrev b_Mo_vertex : ByteArray := prog_7_method_32_code
abbrev y_Mo_vertex : MethodName := ⟨"MapLumpsModel", "vertex", "(IZ)I"⟩
abbrev b_Mo_texture : ByteArray := prog_7_method_33_code
abbrev y_Mo_texture : MethodName := ⟨"MapLumpsModel", "texture", "(II)I"⟩
abbrev b_Mo_sector : ByteArray := prog_7_method_34_code
abbrev y_Mo_sector : MethodName := ⟨"MapLumpsModel", "sector", "(II)I"⟩
abbrev b_Mo_wall : ByteArray := prog_7_method_35_code
abbrev y_Mo_wall : MethodName := ⟨"MapLumpsModel", "wall", "(II)I"⟩
abbrev b_Mo_start : ByteArray := prog_7_method_36_code
abbrev y_Mo_start : MethodName := ⟨"MapLumpsModel", "start", "(I)I"⟩
abbrev b_Mo_look : ByteArray := prog_7_method_37_code
abbrev y_Mo_look : MethodName := ⟨"MapLumpsModel", "look", "(I)I"⟩
abbrev b_Rd_init : ByteArray := prog_2_method_1_code
abbrev y_Rd_init : MethodName := ⟨"MapLumps$Reader", "<init>", "()V"⟩
abbrev b_Rd_judge : ByteArray := prog_2_method_2_code
abbrev y_Rd_judge : MethodName := ⟨"MapLumps$Reader", "judge", "()I"⟩
abbrev b_Rd_passHead : ByteArray := prog_2_method_3_code
abbrev y_Rd_passHead : MethodName := ⟨"MapLumps$Reader", "passHead", "()V"⟩
abbrev b_Rd_passVertices : ByteArray := prog_2_method_4_code
abbrev y_Rd_passVertices : MethodName := ⟨"MapLumps$Reader", "passVertices", "()V"⟩
abbrev b_Rd_isTaken : ByteArray := prog_2_method_5_code
abbrev y_Rd_isTaken : MethodName := ⟨"MapLumps$Reader", "isTaken", "(I)Z"⟩
abbrev b_Rd_passTextures : ByteArray := prog_2_method_6_code
abbrev y_Rd_passTextures : MethodName := ⟨"MapLumps$Reader", "passTextures", "()V"⟩
abbrev b_Rd_passSectors : ByteArray := prog_2_method_7_code
abbrev y_Rd_passSectors : MethodName := ⟨"MapLumps$Reader", "passSectors", "()V"⟩
abbrev b_Rd_passWalls : ByteArray := prog_2_method_8_code
abbrev y_Rd_passWalls : MethodName := ⟨"MapLumps$Reader", "passWalls", "()V"⟩
abbrev b_Rd_passWallEnds : ByteArray := prog_2_method_9_code
abbrev y_Rd_passWallEnds : MethodName := ⟨"MapLumps$Reader", "passWallEnds", "(LMapLumps$Span;)V"⟩
abbrev b_Rd_passWallTextures : ByteArray := prog_2_method_10_code
abbrev y_Rd_passWallTextures : MethodName := ⟨"MapLumps$Reader", "passWallTextures", "(I)V"⟩
abbrev b_Rd_passStart : ByteArray := prog_2_method_11_code
abbrev y_Rd_passStart : MethodName := ⟨"MapLumps$Reader", "passStart", "()V"⟩
abbrev b_Rd_passEnd : ByteArray := prog_2_method_12_code
abbrev y_Rd_passEnd : MethodName := ⟨"MapLumps$Reader", "passEnd", "()V"⟩
abbrev b_Rd_seekMeeting : ByteArray := prog_2_method_13_code
abbrev y_Rd_seekMeeting : MethodName := ⟨"MapLumps$Reader", "seekMeeting", "()V"⟩
abbrev b_Rd_next : ByteArray := prog_2_method_14_code
abbrev y_Rd_next : MethodName := ⟨"MapLumps$Reader", "next", "()I"⟩
abbrev b_Rd_expect : ByteArray := prog_2_method_15_code
abbrev y_Rd_expect : MethodName := ⟨"MapLumps$Reader", "expect", "(II)V"⟩
abbrev b_Rd_small : ByteArray := prog_2_method_16_code
abbrev y_Rd_small : MethodName := ⟨"MapLumps$Reader", "small", "(II)I"⟩
abbrev b_Rd_smallOrAbsent : ByteArray := prog_2_method_17_code
abbrev y_Rd_smallOrAbsent : MethodName := ⟨"MapLumps$Reader", "smallOrAbsent", "(I)I"⟩
abbrev b_Rd_wide : ByteArray := prog_2_method_18_code
abbrev y_Rd_wide : MethodName := ⟨"MapLumps$Reader", "wide", "(II)I"⟩
abbrev b_Rd_judged : ByteArray := prog_2_method_19_code
abbrev y_Rd_judged : MethodName := ⟨"MapLumps$Reader", "judged", "(IIII)I"⟩
abbrev b_Rd_fail : ByteArray := prog_2_method_20_code
abbrev y_Rd_fail : MethodName := ⟨"MapLumps$Reader", "fail", "(II)V"⟩
abbrev b_Mp_init : ByteArray := prog_3_method_1_code
abbrev y_Mp_init : MethodName := ⟨"MapLumps$RoomMap", "<init>", "()V"⟩
abbrev b_Mp_take : ByteArray := prog_3_method_2_code
abbrev y_Mp_take : MethodName := ⟨"MapLumps$RoomMap", "take", "(LMapLumps$Row;)V"⟩
abbrev b_Mp_counted : ByteArray := prog_3_method_3_code
abbrev y_Mp_counted : MethodName := ⟨"MapLumps$RoomMap", "counted", "(I)I"⟩
abbrev b_Mp_width : ByteArray := prog_3_method_4_code
abbrev y_Mp_width : MethodName := ⟨"MapLumps$RoomMap", "width", "(I)I"⟩
abbrev b_Mp_height : ByteArray := prog_3_method_5_code
abbrev y_Mp_height : MethodName := ⟨"MapLumps$RoomMap", "height", "(I)I"⟩
abbrev b_Mp_texel : ByteArray := prog_3_method_6_code
abbrev y_Mp_texel : MethodName := ⟨"MapLumps$RoomMap", "texel", "(III)I"⟩
abbrev b_Mp_textureAt : ByteArray := prog_3_method_7_code
abbrev y_Mp_textureAt : MethodName := ⟨"MapLumps$RoomMap", "textureAt", "(I)I"⟩
abbrev b_Rw_init : ByteArray := prog_4_method_1_code
abbrev y_Rw_init : MethodName := ⟨"MapLumps$Row", "<init>", "()V"⟩
abbrev b_Rw_free : ByteArray := prog_4_method_2_code
abbrev y_Rw_free : MethodName := ⟨"MapLumps$Row", "free", "()I"⟩
abbrev b_Rw_get : ByteArray := prog_4_method_3_code
abbrev y_Rw_get : MethodName := ⟨"MapLumps$Row", "get", "(I)I"⟩
abbrev b_Rw_put : ByteArray := prog_4_method_4_code
abbrev y_Rw_put : MethodName := ⟨"MapLumps$Row", "put", "(II)Z"⟩
abbrev b_Rw_append : ByteArray := prog_4_method_5_code
abbrev y_Rw_append : MethodName := ⟨"MapLumps$Row", "append", "(I)V"⟩
abbrev b_Rw_shorten : ByteArray := prog_4_method_6_code
abbrev y_Rw_shorten : MethodName := ⟨"MapLumps$Row", "shorten", "(I)Z"⟩
abbrev b_Rw_copy : ByteArray := prog_4_method_7_code
abbrev y_Rw_copy : MethodName := ⟨"MapLumps$Row", "copy", "(LMapLumps$Row;)V"⟩
abbrev b_Rw_signed : ByteArray := prog_4_method_8_code
abbrev y_Rw_signed : MethodName := ⟨"MapLumps$Row", "signed", "(I)I"⟩
abbrev b_Rw_sums : ByteArray := prog_4_method_9_code
abbrev y_Rw_sums : MethodName := ⟨"MapLumps$Row", "sums", "(I)I"⟩
abbrev b_Sp_init : ByteArray := prog_5_method_1_code
abbrev y_Sp_init : MethodName := ⟨"MapLumps$Span", "<init>", "()V"⟩
abbrev b_Sp_lay : ByteArray := prog_5_method_2_code
abbrev y_Sp_lay : MethodName := ⟨"MapLumps$Span", "lay", "(IIII)V"⟩
abbrev b_Sp_meets : ByteArray := prog_5_method_3_code
abbrev y_Sp_meets : MethodName := ⟨"MapLumps$Span", "meets", "(LMapLumps$Span;)Z"⟩
abbrev b_Sp_boxesApart : ByteArray := prog_5_method_4_code
abbrev y_Sp_boxesApart : MethodName := ⟨"MapLumps$Span", "boxesApart", "(LMapLumps$Span;)Z"⟩
abbrev b_Sp_lineParts : ByteArray := prog_5_method_5_code
abbrev y_Sp_lineParts : MethodName := ⟨"MapLumps$Span", "lineParts", "(LMapLumps$Span;)Z"⟩
abbrev b_Sp_side : ByteArray := prog_5_method_6_code
abbrev y_Sp_side : MethodName := ⟨"MapLumps$Span", "side", "(II)I"⟩
abbrev b_Sp_sameWay : ByteArray := prog_5_method_7_code
abbrev y_Sp_sameWay : MethodName := ⟨"MapLumps$Span", "sameWay", "(IIIIII)Z"⟩
abbrev b_Sp_turn : ByteArray := prog_5_method_8_code
abbrev y_Sp_turn : MethodName := ⟨"MapLumps$Span", "turn", "(IIIIII)J"⟩
abbrev b_Jo_init : ByteArray := object_method_1_code
abbrev y_Jo_init : MethodName := ⟨"java/lang/Object", "<init>", "()V"⟩
abbrev b_Jl_signum : ByteArray := prog_8_method_57_code
abbrev y_Jl_signum : MethodName := ⟨"java/lang/Long", "signum", "(J)I"⟩
abbrev b_Jm_max : ByteArray := prog_9_method_65_code
abbrev y_Jm_max : MethodName := ⟨"java/lang/Math", "max", "(II)I"⟩
abbrev b_Jm_min : ByteArray := prog_9_method_69_code
abbrev y_Jm_min : MethodName := ⟨"java/lang/Math", "min", "(II)I"⟩
/-- the words that stay true under all that a run resolves -/
def gw : List Cond := lw_tbl.filter goodWord
theorem gw_in1 {w : Cond} (i : Nat) (h : tables_1_1[i]? = some w) (g : goodWord w = true) : w ∈ gw := List.mem_filter.mpr ⟨List.mem_append_right _ (List.mem_append_left _ (List.mem_of_getElem? h)), g⟩
theorem gw_in2 {w : Cond} (i : Nat) (h : tables_1_2[i]? = some w) (g : goodWord w = true) : w ∈ gw := List.mem_filter.mpr ⟨List.mem_append_right _ (List.mem_append_right _ (List.mem_append_left _ (List.mem_of_getElem? h))), g⟩
theorem gw_in3 {w : Cond} (i : Nat) (h : tables_1_3[i]? = some w) (g : goodWord w = true) : w ∈ gw := List.mem_filter.mpr ⟨List.mem_append_right _ (List.mem_append_right _ (List.mem_append_right _ (List.mem_of_getElem? h))), g⟩
theorem gw_sel {q : MethodName × Nat} (h : q ∈ lw_privs) : Cond.selects q.1.cls q.1 q.1 ∈ gw := List.mem_filter.mpr ⟨List.mem_append_left _ (List.mem_map.mpr ⟨q, h, rfl⟩), rfl⟩
theorem gw_tbl {w : Cond} (h : w ∈ gw) : w ∈ lw_tbl := (List.mem_filter.mp h).1
theorem gw_good : GoodIn gw gw := fun _ h => ⟨h, good_of_word (List.mem_filter.mp h).2⟩
end
section
theorem w_0 : (Jvm.Cond.initialized "MapLumpsLaw") ∈ gw := gw_in1 0 rfl rfl
theorem w_1 : (Jvm.Cond.initialized "MapLumps") ∈ gw := gw_in1 1 rfl rfl
theorem w_2 : (Jvm.Cond.initialized "MapLumps$Reader") ∈ gw := gw_in1 2 rfl rfl
theorem w_3 : (Jvm.Cond.initialized "MapLumps$Row") ∈ gw := gw_in1 3 rfl rfl
theorem w_4 : (Jvm.Cond.initialized "MapLumps$Span") ∈ gw := gw_in1 4 rfl rfl
theorem w_5 : (Jvm.Cond.initialized "MapLumps$RoomMap") ∈ gw := gw_in1 5 rfl rfl
theorem w_6 : (Jvm.Cond.initialized "MapLumpsModel") ∈ gw := gw_in1 6 rfl rfl
theorem w_7 : (Jvm.Cond.initialized "java/lang/Math") ∈ gw := gw_in1 7 rfl rfl
theorem w_8 : (Jvm.Cond.initialized "java/lang/Long") ∈ gw := gw_in1 8 rfl rfl
theorem w_9 : (Jvm.Cond.initialized "java/lang/System") ∈ gw := gw_in1 9 rfl rfl
theorem w_10 : (Jvm.Cond.classLink "MapLumpsLaw" (7 : Nat) "MapLumps") ∈ gw := gw_in1 10 rfl rfl
theorem w_11 : (Jvm.Cond.instantiable "MapLumps" (4 : Nat)) ∈ gw := gw_in1 11 rfl rfl
theorem w_12 : (Jvm.Cond.methodLink "MapLumpsLaw" (9 : Nat) ({ cls := "MapLumps", name := "<init>", desc := "()V" } : Jvm.MethodName)) ∈ gw := gw_in1 12 rfl rfl
theorem w_13 : (Jvm.Cond.instanceMethod ({ cls := "MapLumps", name := "<init>", desc := "()V" } : Jvm.MethodName)) ∈ gw := gw_in1 13 rfl rfl
theorem w_14 : (Jvm.Cond.code ({ cls := "MapLumps", name := "<init>", desc := "()V" } : Jvm.MethodName) prog_1_method_1_code (1 : Nat) (Option.none : Option Jvm.ClassFile.FieldType)) ∈ gw := gw_in1 14 rfl rfl
theorem w_15 : (Jvm.Cond.methodLink "MapLumps" (1 : Nat) ({ cls := "java/lang/Object", name := "<init>", desc := "()V" } : Jvm.MethodName)) ∈ gw := gw_in1 15 rfl rfl
theorem w_16 : (Jvm.Cond.instanceMethod ({ cls := "java/lang/Object", name := "<init>", desc := "()V" } : Jvm.MethodName)) ∈ gw := gw_in1 16 rfl rfl
theorem w_17 : (Jvm.Cond.code ({ cls := "java/lang/Object", name := "<init>", desc := "()V" } : Jvm.MethodName) object_method_1_code (1 : Nat) (Option.none : Option Jvm.ClassFile.FieldType)) ∈ gw := gw_in1 17 rfl rfl
theorem w_18 : (Jvm.Cond.classLink "MapLumps" (7 : Nat) "MapLumps$Reader") ∈ gw := gw_in1 18 rfl rfl
theorem w_19 : (Jvm.Cond.instantiable "MapLumps$Reader" (13 : Nat)) ∈ gw := gw_in1 19 rfl rfl
theorem w_20 : (Jvm.Cond.methodLink "MapLumps" (9 : Nat) ({ cls := "MapLumps$Reader", name := "<init>", desc := "()V" } : Jvm.MethodName)) ∈ gw := gw_in1 20 rfl rfl
theorem w_21 : (Jvm.Cond.instanceMethod ({ cls := "MapLumps$Reader", name := "<init>", desc := "()V" } : Jvm.MethodName)) ∈ gw := gw_in1 21 rfl rfl
theorem w_22 : (Jvm.Cond.code ({ cls := "MapLumps$Reader", name := "<init>", desc := "()V" } : Jvm.MethodName) prog_2_method_1_code (2 : Nat) (Option.none : Option Jvm.ClassFile.FieldType)) ∈ gw := gw_in1 22 rfl rfl
theorem w_23 : (Jvm.Cond.methodLink "MapLumps$Reader" (3 : Nat) ({ cls := "java/lang/Object", name := "<init>", desc := "()V" } : Jvm.MethodName)) ∈ gw := gw_in1 23 rfl rfl
theorem w_24 : (Jvm.Cond.classLink "MapLumps$Reader" (9 : Nat) "MapLumps$Row") ∈ gw := gw_in1 24 rfl rfl
theorem w_25 : (Jvm.Cond.instantiable "MapLumps$Row" (2 : Nat)) ∈ gw := gw_in1 25 rfl rfl
theorem w_27 : (Jvm.Cond.instanceMethod ({ cls := "MapLumps$Row", name := "<init>", desc := "()V" } : Jvm.MethodName)) ∈ gw := gw_in1 27 rfl rfl
theorem w_28 : (Jvm.Cond.code ({ cls := "MapLumps$Row", name := "<init>", desc := "()V" } : Jvm.MethodName) prog_4_method_1_code (1 : Nat) (Option.none : Option Jvm.ClassFile.FieldType)) ∈ gw := gw_in1 28 rfl rfl
theorem w_29 : (Jvm.Cond.methodLink "MapLumps$Row" (3 : Nat) ({ cls := "java/lang/Object", name := "<init>", desc := "()V" } : Jvm.MethodName)) ∈ gw := gw_in1 29 rfl rfl
theorem w_30 : (Jvm.Cond.fieldLink "MapLumps$Row" (9 : Nat) "MapLumps$Row" "cells" "[B") ∈ gw := gw_in1 30 rfl rfl
theorem w_31 : (Jvm.Cond.fieldLink "MapLumps$Row" (15 : Nat) "MapLumps$Row" "size" "I") ∈ gw := gw_in1 31 rfl rfl
theorem w_34 : (Jvm.Cond.laysFinal "MapLumps$Row" "MapLumps$Row" "cells" "[B") ∈ gw := gw_in1 34 rfl rfl
theorem w_36 : (Jvm.Cond.lays "MapLumps$Row" "MapLumps$Row" "size" "I") ∈ gw := gw_in1 36 rfl rfl
theorem w_39 : (Jvm.Cond.arrayClass Jvm.ClassFile.FieldType.byte) ∈ gw := gw_in1 39 rfl rfl
theorem w_40 : (Jvm.Cond.classLink "MapLumps$Reader" (25 : Nat) "MapLumps$Span") ∈ gw := gw_in1 40 rfl rfl
theorem w_42 : (Jvm.Cond.instantiable "MapLumps$Span" (8 : Nat)) ∈ gw := gw_in1 42 rfl rfl
theorem w_44 : (Jvm.Cond.instanceMethod ({ cls := "MapLumps$Span", name := "<init>", desc := "()V" } : Jvm.MethodName)) ∈ gw := gw_in1 44 rfl rfl
theorem w_45 : (Jvm.Cond.code ({ cls := "MapLumps$Span", name := "<init>", desc := "()V" } : Jvm.MethodName) prog_5_method_1_code (1 : Nat) (Option.none : Option Jvm.ClassFile.FieldType)) ∈ gw := gw_in1 45 rfl rfl
theorem w_46 : (Jvm.Cond.methodLink "MapLumps$Span" (1 : Nat) ({ cls := "java/lang/Object", name := "<init>", desc := "()V" } : Jvm.MethodName)) ∈ gw := gw_in1 46 rfl rfl
theorem w_47 : (Jvm.Cond.fieldLink "MapLumps$Span" (7 : Nat) "MapLumps$Span" "ax" "I") ∈ gw := gw_in1 47 rfl rfl
theorem w_48 : (Jvm.Cond.fieldLink "MapLumps$Span" (13 : Nat) "MapLumps$Span" "ay" "I") ∈ gw := gw_in1 48 rfl rfl
theorem w_49 : (Jvm.Cond.fieldLink "MapLumps$Span" (16 : Nat) "MapLumps$Span" "bx" "I") ∈ gw := gw_in1 49 rfl rfl
theorem w_50 : (Jvm.Cond.fieldLink "MapLumps$Span" (19 : Nat) "MapLumps$Span" "by" "I") ∈ gw := gw_in1 50 rfl rfl
theorem w_51 : (Jvm.Cond.fieldLink "MapLumps$Span" (28 : Nat) "MapLumps$Span" "left" "I") ∈ gw := gw_in1 51 rfl rfl
theorem w_52 : (Jvm.Cond.fieldLink "MapLumps$Span" (34 : Nat) "MapLumps$Span" "right" "I") ∈ gw := gw_in1 52 rfl rfl
theorem w_53 : (Jvm.Cond.fieldLink "MapLumps$Span" (37 : Nat) "MapLumps$Span" "bottom" "I") ∈ gw := gw_in1 53 rfl rfl
theorem w_54 : (Jvm.Cond.fieldLink "MapLumps$Span" (40 : Nat) "MapLumps$Span" "top" "I") ∈ gw := gw_in1 54 rfl rfl
theorem w_55 : (Jvm.Cond.lays "MapLumps$Span" "MapLumps$Span" "ax" "I") ∈ gw := gw_in1 55 rfl rfl
theorem w_57 : (Jvm.Cond.lays "MapLumps$Span" "MapLumps$Span" "ay" "I") ∈ gw := gw_in1 57 rfl rfl
theorem w_59 : (Jvm.Cond.lays "MapLumps$Span" "MapLumps$Span" "bx" "I") ∈ gw := gw_in1 59 rfl rfl
theorem w_61 : (Jvm.Cond.lays "MapLumps$Span" "MapLumps$Span" "by" "I") ∈ gw := gw_in1 61 rfl rfl
theorem w_63 : (Jvm.Cond.lays "MapLumps$Span" "MapLumps$Span" "left" "I") ∈ gw := gw_in1 63 rfl rfl
theorem w_65 : (Jvm.Cond.lays "MapLumps$Span" "MapLumps$Span" "right" "I") ∈ gw := gw_in1 65 rfl rfl
theorem w_67 : (Jvm.Cond.lays "MapLumps$Span" "MapLumps$Span" "bottom" "I") ∈ gw := gw_in1 67 rfl rfl
theorem w_69 : (Jvm.Cond.lays "MapLumps$Span" "MapLumps$Span" "top" "I") ∈ gw := gw_in1 69 rfl rfl
theorem w_72 : (Jvm.Cond.arrayClass Jvm.ClassFile.FieldType.int) ∈ gw := gw_in1 72 rfl rfl
theorem w_73 : (Jvm.Cond.fieldLink "MapLumps$Reader" (12 : Nat) "MapLumps$Reader" "source" "LMapLumps$Row;") ∈ gw := gw_in1 73 rfl rfl
theorem w_75 : (Jvm.Cond.fieldLink "MapLumps$Reader" (18 : Nat) "MapLumps$Reader" "xs" "[I") ∈ gw := gw_in1 75 rfl rfl
theorem w_76 : (Jvm.Cond.fieldLink "MapLumps$Reader" (22 : Nat) "MapLumps$Reader" "ys" "[I") ∈ gw := gw_in1 76 rfl rfl
theorem w_77 : (Jvm.Cond.fieldLink "MapLumps$Reader" (27 : Nat) "MapLumps$Reader" "spans" "[LMapLumps$Span;") ∈ gw := gw_in1 77 rfl rfl
theorem w_78 : (Jvm.Cond.fieldLink "MapLumps$Reader" (77 : Nat) "MapLumps$Reader" "vertices" "I") ∈ gw := gw_in1 78 rfl rfl
theorem w_79 : (Jvm.Cond.fieldLink "MapLumps$Reader" (80 : Nat) "MapLumps$Reader" "textures" "I") ∈ gw := gw_in1 79 rfl rfl
theorem w_80 : (Jvm.Cond.fieldLink "MapLumps$Reader" (83 : Nat) "MapLumps$Reader" "sectors" "I") ∈ gw := gw_in1 80 rfl rfl
theorem w_81 : (Jvm.Cond.fieldLink "MapLumps$Reader" (86 : Nat) "MapLumps$Reader" "walls" "I") ∈ gw := gw_in1 81 rfl rfl
theorem w_82 : (Jvm.Cond.fieldLink "MapLumps$Reader" (103 : Nat) "MapLumps$Reader" "wallsAt" "I") ∈ gw := gw_in1 82 rfl rfl
theorem w_83 : (Jvm.Cond.fieldLink "MapLumps$Reader" (39 : Nat) "MapLumps$Reader" "place" "I") ∈ gw := gw_in1 83 rfl rfl
theorem w_84 : (Jvm.Cond.fieldLink "MapLumps$Reader" (42 : Nat) "MapLumps$Reader" "fault" "I") ∈ gw := gw_in1 84 rfl rfl
theorem w_86 : (Jvm.Cond.fieldLink "MapLumps$Reader" (31 : Nat) "MapLumps$Reader" "faultPlace" "I") ∈ gw := gw_in1 86 rfl rfl
theorem w_88 : (Jvm.Cond.fieldLink "MapLumps$Reader" (35 : Nat) "MapLumps$Reader" "faultWall" "I") ∈ gw := gw_in1 88 rfl rfl
theorem w_90 : (Jvm.Cond.laysFinal "MapLumps$Reader" "MapLumps$Reader" "source" "LMapLumps$Row;") ∈ gw := gw_in1 90 rfl rfl
theorem w_92 : (Jvm.Cond.laysFinal "MapLumps$Reader" "MapLumps$Reader" "xs" "[I") ∈ gw := gw_in1 92 rfl rfl
theorem w_94 : (Jvm.Cond.laysFinal "MapLumps$Reader" "MapLumps$Reader" "ys" "[I") ∈ gw := gw_in1 94 rfl rfl
theorem w_96 : (Jvm.Cond.laysFinal "MapLumps$Reader" "MapLumps$Reader" "spans" "[LMapLumps$Span;") ∈ gw := gw_in1 96 rfl rfl
theorem w_98 : (Jvm.Cond.lays "MapLumps$Reader" "MapLumps$Reader" "vertices" "I") ∈ gw := gw_in1 98 rfl rfl
theorem w_100 : (Jvm.Cond.lays "MapLumps$Reader" "MapLumps$Reader" "textures" "I") ∈ gw := gw_in1 100 rfl rfl
theorem w_102 : (Jvm.Cond.lays "MapLumps$Reader" "MapLumps$Reader" "sectors" "I") ∈ gw := gw_in1 102 rfl rfl
theorem w_104 : (Jvm.Cond.lays "MapLumps$Reader" "MapLumps$Reader" "walls" "I") ∈ gw := gw_in1 104 rfl rfl
theorem w_106 : (Jvm.Cond.lays "MapLumps$Reader" "MapLumps$Reader" "wallsAt" "I") ∈ gw := gw_in1 106 rfl rfl
theorem w_108 : (Jvm.Cond.lays "MapLumps$Reader" "MapLumps$Reader" "place" "I") ∈ gw := gw_in1 108 rfl rfl
theorem w_110 : (Jvm.Cond.lays "MapLumps$Reader" "MapLumps$Reader" "fault" "I") ∈ gw := gw_in1 110 rfl rfl
theorem w_112 : (Jvm.Cond.lays "MapLumps$Reader" "MapLumps$Reader" "faultPlace" "I") ∈ gw := gw_in1 112 rfl rfl
theorem w_114 : (Jvm.Cond.lays "MapLumps$Reader" "MapLumps$Reader" "faultWall" "I") ∈ gw := gw_in1 114 rfl rfl
theorem w_117 : (Jvm.Cond.classLink "MapLumps" (23 : Nat) "MapLumps$Row") ∈ gw := gw_in1 117 rfl rfl
theorem w_119 : (Jvm.Cond.classLink "MapLumps" (29 : Nat) "MapLumps$RoomMap") ∈ gw := gw_in1 119 rfl rfl
theorem w_120 : (Jvm.Cond.instantiable "MapLumps$RoomMap" (10 : Nat)) ∈ gw := gw_in1 120 rfl rfl
theorem w_122 : (Jvm.Cond.instanceMethod ({ cls := "MapLumps$RoomMap", name := "<init>", desc := "()V" } : Jvm.MethodName)) ∈ gw := gw_in1 122 rfl rfl
theorem w_123 : (Jvm.Cond.code ({ cls := "MapLumps$RoomMap", name := "<init>", desc := "()V" } : Jvm.MethodName) prog_3_method_1_code (1 : Nat) (Option.none : Option Jvm.ClassFile.FieldType)) ∈ gw := gw_in1 123 rfl rfl
theorem w_124 : (Jvm.Cond.methodLink "MapLumps$RoomMap" (3 : Nat) ({ cls := "java/lang/Object", name := "<init>", desc := "()V" } : Jvm.MethodName)) ∈ gw := gw_in1 124 rfl rfl
theorem w_125 : (Jvm.Cond.classLink "MapLumps$RoomMap" (9 : Nat) "MapLumps$Row") ∈ gw := gw_in1 125 rfl rfl
theorem w_127 : (Jvm.Cond.fieldLink "MapLumps$RoomMap" (12 : Nat) "MapLumps$RoomMap" "row" "LMapLumps$Row;") ∈ gw := gw_in1 127 rfl rfl
theorem w_129 : (Jvm.Cond.fieldLink "MapLumps$RoomMap" (18 : Nat) "MapLumps$RoomMap" "texturesAt" "[I") ∈ gw := gw_in1 129 rfl rfl
theorem w_130 : (Jvm.Cond.fieldLink "MapLumps$RoomMap" (26 : Nat) "MapLumps$RoomMap" "present" "Z") ∈ gw := gw_in1 130 rfl rfl
theorem w_132 : (Jvm.Cond.fieldLink "MapLumps$RoomMap" (34 : Nat) "MapLumps$RoomMap" "vertices" "I") ∈ gw := gw_in1 132 rfl rfl
theorem w_134 : (Jvm.Cond.fieldLink "MapLumps$RoomMap" (38 : Nat) "MapLumps$RoomMap" "textures" "I") ∈ gw := gw_in1 134 rfl rfl
theorem w_136 : (Jvm.Cond.fieldLink "MapLumps$RoomMap" (41 : Nat) "MapLumps$RoomMap" "sectors" "I") ∈ gw := gw_in1 136 rfl rfl
theorem w_138 : (Jvm.Cond.fieldLink "MapLumps$RoomMap" (44 : Nat) "MapLumps$RoomMap" "walls" "I") ∈ gw := gw_in1 138 rfl rfl
theorem w_140 : (Jvm.Cond.fieldLink "MapLumps$RoomMap" (53 : Nat) "MapLumps$RoomMap" "sectorsAt" "I") ∈ gw := gw_in1 140 rfl rfl
theorem w_142 : (Jvm.Cond.fieldLink "MapLumps$RoomMap" (56 : Nat) "MapLumps$RoomMap" "wallsAt" "I") ∈ gw := gw_in1 142 rfl rfl
theorem w_144 : (Jvm.Cond.fieldLink "MapLumps$RoomMap" (59 : Nat) "MapLumps$RoomMap" "startAt" "I") ∈ gw := gw_in1 144 rfl rfl
theorem w_146 : (Jvm.Cond.laysFinal "MapLumps$RoomMap" "MapLumps$RoomMap" "row" "LMapLumps$Row;") ∈ gw := gw_in1 146 rfl rfl
theorem w_148 : (Jvm.Cond.laysFinal "MapLumps$RoomMap" "MapLumps$RoomMap" "texturesAt" "[I") ∈ gw := gw_in1 148 rfl rfl
theorem w_150 : (Jvm.Cond.lays "MapLumps$RoomMap" "MapLumps$RoomMap" "present" "Z") ∈ gw := gw_in1 150 rfl rfl
theorem w_152 : (Jvm.Cond.lays "MapLumps$RoomMap" "MapLumps$RoomMap" "vertices" "I") ∈ gw := gw_in1 152 rfl rfl
theorem w_154 : (Jvm.Cond.lays "MapLumps$RoomMap" "MapLumps$RoomMap" "textures" "I") ∈ gw := gw_in1 154 rfl rfl
theorem w_156 : (Jvm.Cond.lays "MapLumps$RoomMap" "MapLumps$RoomMap" "sectors" "I") ∈ gw := gw_in1 156 rfl rfl
theorem w_158 : (Jvm.Cond.lays "MapLumps$RoomMap" "MapLumps$RoomMap" "walls" "I") ∈ gw := gw_in1 158 rfl rfl
theorem w_160 : (Jvm.Cond.lays "MapLumps$RoomMap" "MapLumps$RoomMap" "sectorsAt" "I") ∈ gw := gw_in1 160 rfl rfl
theorem w_162 : (Jvm.Cond.lays "MapLumps$RoomMap" "MapLumps$RoomMap" "wallsAt" "I") ∈ gw := gw_in1 162 rfl rfl
theorem w_164 : (Jvm.Cond.lays "MapLumps$RoomMap" "MapLumps$RoomMap" "startAt" "I") ∈ gw := gw_in1 164 rfl rfl
theorem w_167 : (Jvm.Cond.fieldLink "MapLumps" (10 : Nat) "MapLumps" "reader" "LMapLumps$Reader;") ∈ gw := gw_in1 167 rfl rfl
theorem w_168 : (Jvm.Cond.fieldLink "MapLumps" (20 : Nat) "MapLumps" "input" "LMapLumps$Row;") ∈ gw := gw_in1 168 rfl rfl
theorem w_169 : (Jvm.Cond.fieldLink "MapLumps" (26 : Nat) "MapLumps" "output" "LMapLumps$Row;") ∈ gw := gw_in1 169 rfl rfl
theorem w_170 : (Jvm.Cond.fieldLink "MapLumps" (32 : Nat) "MapLumps" "map" "LMapLumps$RoomMap;") ∈ gw := gw_in1 170 rfl rfl
theorem w_171 : (Jvm.Cond.laysFinal "MapLumps" "MapLumps" "reader" "LMapLumps$Reader;") ∈ gw := gw_in1 171 rfl rfl
theorem w_173 : (Jvm.Cond.laysFinal "MapLumps" "MapLumps" "input" "LMapLumps$Row;") ∈ gw := gw_in1 173 rfl rfl
theorem w_175 : (Jvm.Cond.laysFinal "MapLumps" "MapLumps" "output" "LMapLumps$Row;") ∈ gw := gw_in1 175 rfl rfl
theorem w_177 : (Jvm.Cond.laysFinal "MapLumps" "MapLumps" "map" "LMapLumps$RoomMap;") ∈ gw := gw_in1 177 rfl rfl
theorem w_180 : (Jvm.Cond.methodLink "MapLumpsLaw" (15 : Nat) ({ cls := "MapLumps", name := "give", desc := "(JI)Z" } : Jvm.MethodName)) ∈ gw := gw_in1 180 rfl rfl
theorem w_181 : (Jvm.Cond.instanceMethod ({ cls := "MapLumps", name := "give", desc := "(JI)Z" } : Jvm.MethodName)) ∈ gw := gw_in1 181 rfl rfl
theorem w_182 : (Jvm.Cond.selects "MapLumps" ({ cls := "MapLumps", name := "give", desc := "(JI)Z" } : Jvm.MethodName) ({ cls := "MapLumps", name := "give", desc := "(JI)Z" } : Jvm.MethodName)) ∈ gw := gw_in1 182 rfl rfl
theorem w_183 : (Jvm.Cond.code ({ cls := "MapLumps", name := "give", desc := "(JI)Z" } : Jvm.MethodName) prog_1_method_2_code (5 : Nat) (Option.some Jvm.ClassFile.FieldType.boolean)) ∈ gw := gw_in1 183 rfl rfl
theorem w_184 : (Jvm.Cond.methodLink "MapLumps" (36 : Nat) ({ cls := "MapLumps$Row", name := "free", desc := "()I" } : Jvm.MethodName)) ∈ gw := gw_in1 184 rfl rfl
theorem w_185 : (Jvm.Cond.instanceMethod ({ cls := "MapLumps$Row", name := "free", desc := "()I" } : Jvm.MethodName)) ∈ gw := gw_in1 185 rfl rfl
theorem w_186 : (Jvm.Cond.selects "MapLumps$Row" ({ cls := "MapLumps$Row", name := "free", desc := "()I" } : Jvm.MethodName) ({ cls := "MapLumps$Row", name := "free", desc := "()I" } : Jvm.MethodName)) ∈ gw := gw_in1 186 rfl rfl
theorem w_187 : (Jvm.Cond.code ({ cls := "MapLumps$Row", name := "free", desc := "()I" } : Jvm.MethodName) prog_4_method_2_code (1 : Nat) (Option.some Jvm.ClassFile.FieldType.int)) ∈ gw := gw_in1 187 rfl rfl
theorem w_188 : (Jvm.Cond.methodLink "MapLumps" (40 : Nat) ({ cls := "MapLumps$Row", name := "append", desc := "(I)V" } : Jvm.MethodName)) ∈ gw := gw_in1 188 rfl rfl
theorem w_189 : (Jvm.Cond.instanceMethod ({ cls := "MapLumps$Row", name := "append", desc := "(I)V" } : Jvm.MethodName)) ∈ gw := gw_in1 189 rfl rfl
theorem w_190 : (Jvm.Cond.selects "MapLumps$Row" ({ cls := "MapLumps$Row", name := "append", desc := "(I)V" } : Jvm.MethodName) ({ cls := "MapLumps$Row", name := "append", desc := "(I)V" } : Jvm.MethodName)) ∈ gw := gw_in1 190 rfl rfl
theorem w_191 : (Jvm.Cond.code ({ cls := "MapLumps$Row", name := "append", desc := "(I)V" } : Jvm.MethodName) prog_4_method_5_code (2 : Nat) (Option.none : Option Jvm.ClassFile.FieldType)) ∈ gw := gw_in1 191 rfl rfl
theorem w_192 : (Jvm.Cond.methodLink "MapLumpsLaw" (20 : Nat) ({ cls := "MapLumps", name := "cut", desc := "(I)Z" } : Jvm.MethodName)) ∈ gw := gw_in1 192 rfl rfl
theorem w_193 : (Jvm.Cond.instanceMethod ({ cls := "MapLumps", name := "cut", desc := "(I)Z" } : Jvm.MethodName)) ∈ gw := gw_in1 193 rfl rfl
theorem w_194 : (Jvm.Cond.selects "MapLumps" ({ cls := "MapLumps", name := "cut", desc := "(I)Z" } : Jvm.MethodName) ({ cls := "MapLumps", name := "cut", desc := "(I)Z" } : Jvm.MethodName)) ∈ gw := gw_in1 194 rfl rfl
theorem w_195 : (Jvm.Cond.code ({ cls := "MapLumps", name := "cut", desc := "(I)Z" } : Jvm.MethodName) prog_1_method_3_code (2 : Nat) (Option.some Jvm.ClassFile.FieldType.boolean)) ∈ gw := gw_in1 195 rfl rfl
theorem w_196 : (Jvm.Cond.methodLink "MapLumps" (44 : Nat) ({ cls := "MapLumps$Row", name := "shorten", desc := "(I)Z" } : Jvm.MethodName)) ∈ gw := gw_in1 196 rfl rfl
theorem w_197 : (Jvm.Cond.instanceMethod ({ cls := "MapLumps$Row", name := "shorten", desc := "(I)Z" } : Jvm.MethodName)) ∈ gw := gw_in1 197 rfl rfl
theorem w_198 : (Jvm.Cond.selects "MapLumps$Row" ({ cls := "MapLumps$Row", name := "shorten", desc := "(I)Z" } : Jvm.MethodName) ({ cls := "MapLumps$Row", name := "shorten", desc := "(I)Z" } : Jvm.MethodName)) ∈ gw := gw_in1 198 rfl rfl
theorem w_199 : (Jvm.Cond.code ({ cls := "MapLumps$Row", name := "shorten", desc := "(I)Z" } : Jvm.MethodName) prog_4_method_6_code (2 : Nat) (Option.some Jvm.ClassFile.FieldType.boolean)) ∈ gw := gw_in1 199 rfl rfl
theorem w_200 : (Jvm.Cond.methodLink "MapLumpsLaw" (25 : Nat) ({ cls := "MapLumps", name := "poke", desc := "(II)Z" } : Jvm.MethodName)) ∈ gw := gw_in1 200 rfl rfl
theorem w_201 : (Jvm.Cond.instanceMethod ({ cls := "MapLumps", name := "poke", desc := "(II)Z" } : Jvm.MethodName)) ∈ gw := gw_in1 201 rfl rfl
theorem w_202 : (Jvm.Cond.selects "MapLumps" ({ cls := "MapLumps", name := "poke", desc := "(II)Z" } : Jvm.MethodName) ({ cls := "MapLumps", name := "poke", desc := "(II)Z" } : Jvm.MethodName)) ∈ gw := gw_in1 202 rfl rfl
theorem w_203 : (Jvm.Cond.code ({ cls := "MapLumps", name := "poke", desc := "(II)Z" } : Jvm.MethodName) prog_1_method_4_code (3 : Nat) (Option.some Jvm.ClassFile.FieldType.boolean)) ∈ gw := gw_in1 203 rfl rfl
theorem w_204 : (Jvm.Cond.methodLink "MapLumps" (48 : Nat) ({ cls := "MapLumps$Row", name := "put", desc := "(II)Z" } : Jvm.MethodName)) ∈ gw := gw_in1 204 rfl rfl
theorem w_205 : (Jvm.Cond.instanceMethod ({ cls := "MapLumps$Row", name := "put", desc := "(II)Z" } : Jvm.MethodName)) ∈ gw := gw_in1 205 rfl rfl
theorem w_206 : (Jvm.Cond.selects "MapLumps$Row" ({ cls := "MapLumps$Row", name := "put", desc := "(II)Z" } : Jvm.MethodName) ({ cls := "MapLumps$Row", name := "put", desc := "(II)Z" } : Jvm.MethodName)) ∈ gw := gw_in1 206 rfl rfl
theorem w_207 : (Jvm.Cond.code ({ cls := "MapLumps$Row", name := "put", desc := "(II)Z" } : Jvm.MethodName) prog_4_method_4_code (3 : Nat) (Option.some Jvm.ClassFile.FieldType.boolean)) ∈ gw := gw_in1 207 rfl rfl
theorem w_208 : (Jvm.Cond.methodLink "MapLumpsLaw" (30 : Nat) ({ cls := "MapLumps", name := "read", desc := "()I" } : Jvm.MethodName)) ∈ gw := gw_in1 208 rfl rfl
theorem w_209 : (Jvm.Cond.instanceMethod ({ cls := "MapLumps", name := "read", desc := "()I" } : Jvm.MethodName)) ∈ gw := gw_in1 209 rfl rfl
theorem w_210 : (Jvm.Cond.selects "MapLumps" ({ cls := "MapLumps", name := "read", desc := "()I" } : Jvm.MethodName) ({ cls := "MapLumps", name := "read", desc := "()I" } : Jvm.MethodName)) ∈ gw := gw_in1 210 rfl rfl
theorem w_211 : (Jvm.Cond.code ({ cls := "MapLumps", name := "read", desc := "()I" } : Jvm.MethodName) prog_1_method_5_code (2 : Nat) (Option.some Jvm.ClassFile.FieldType.int)) ∈ gw := gw_in1 211 rfl rfl
theorem w_212 : (Jvm.Cond.methodLink "MapLumps" (52 : Nat) ({ cls := "MapLumps$Reader", name := "judge", desc := "()I" } : Jvm.MethodName)) ∈ gw := gw_in1 212 rfl rfl
theorem w_213 : (Jvm.Cond.instanceMethod ({ cls := "MapLumps$Reader", name := "judge", desc := "()I" } : Jvm.MethodName)) ∈ gw := gw_in1 213 rfl rfl
theorem w_214 : (Jvm.Cond.selects "MapLumps$Reader" ({ cls := "MapLumps$Reader", name := "judge", desc := "()I" } : Jvm.MethodName) ({ cls := "MapLumps$Reader", name := "judge", desc := "()I" } : Jvm.MethodName)) ∈ gw := gw_in1 214 rfl rfl
theorem w_215 : (Jvm.Cond.code ({ cls := "MapLumps$Reader", name := "judge", desc := "()I" } : Jvm.MethodName) prog_2_method_2_code (1 : Nat) (Option.some Jvm.ClassFile.FieldType.int)) ∈ gw := gw_in1 215 rfl rfl
theorem w_216 : (Jvm.Cond.methodLink "MapLumps$Reader" (45 : Nat) ({ cls := "MapLumps$Reader", name := "passHead", desc := "()V" } : Jvm.MethodName)) ∈ gw := gw_in1 216 rfl rfl
theorem w_218 : (Jvm.Cond.instanceMethod ({ cls := "MapLumps$Reader", name := "passHead", desc := "()V" } : Jvm.MethodName)) ∈ gw := gw_in1 218 rfl rfl
theorem w_219 : (Jvm.Cond.code ({ cls := "MapLumps$Reader", name := "passHead", desc := "()V" } : Jvm.MethodName) prog_2_method_3_code (1 : Nat) (Option.none : Option Jvm.ClassFile.FieldType)) ∈ gw := gw_in1 219 rfl rfl
theorem w_220 : (Jvm.Cond.methodLink "MapLumps$Reader" (69 : Nat) ({ cls := "MapLumps$Reader", name := "expect", desc := "(II)V" } : Jvm.MethodName)) ∈ gw := gw_in1 220 rfl rfl
theorem w_222 : (Jvm.Cond.instanceMethod ({ cls := "MapLumps$Reader", name := "expect", desc := "(II)V" } : Jvm.MethodName)) ∈ gw := gw_in1 222 rfl rfl
theorem w_223 : (Jvm.Cond.code ({ cls := "MapLumps$Reader", name := "expect", desc := "(II)V" } : Jvm.MethodName) prog_2_method_15_code (4 : Nat) (Option.none : Option Jvm.ClassFile.FieldType)) ∈ gw := gw_in1 223 rfl rfl
theorem w_224 : (Jvm.Cond.methodLink "MapLumps$Reader" (131 : Nat) ({ cls := "MapLumps$Reader", name := "next", desc := "()I" } : Jvm.MethodName)) ∈ gw := gw_in1 224 rfl rfl
theorem w_226 : (Jvm.Cond.instanceMethod ({ cls := "MapLumps$Reader", name := "next", desc := "()I" } : Jvm.MethodName)) ∈ gw := gw_in1 226 rfl rfl
theorem w_227 : (Jvm.Cond.code ({ cls := "MapLumps$Reader", name := "next", desc := "()I" } : Jvm.MethodName) prog_2_method_14_code (2 : Nat) (Option.some Jvm.ClassFile.FieldType.int)) ∈ gw := gw_in1 227 rfl rfl
theorem w_228 : (Jvm.Cond.methodLink "MapLumps$Reader" (128 : Nat) ({ cls := "MapLumps$Row", name := "get", desc := "(I)I" } : Jvm.MethodName)) ∈ gw := gw_in1 228 rfl rfl
theorem w_229 : (Jvm.Cond.instanceMethod ({ cls := "MapLumps$Row", name := "get", desc := "(I)I" } : Jvm.MethodName)) ∈ gw := gw_in1 229 rfl rfl
theorem w_230 : (Jvm.Cond.selects "MapLumps$Row" ({ cls := "MapLumps$Row", name := "get", desc := "(I)I" } : Jvm.MethodName) ({ cls := "MapLumps$Row", name := "get", desc := "(I)I" } : Jvm.MethodName)) ∈ gw := gw_in1 230 rfl rfl
theorem w_231 : (Jvm.Cond.code ({ cls := "MapLumps$Row", name := "get", desc := "(I)I" } : Jvm.MethodName) prog_4_method_3_code (2 : Nat) (Option.some Jvm.ClassFile.FieldType.int)) ∈ gw := gw_in1 231 rfl rfl
theorem w_232 : (Jvm.Cond.methodLink "MapLumps$Reader" (96 : Nat) ({ cls := "MapLumps$Reader", name := "fail", desc := "(II)V" } : Jvm.MethodName)) ∈ gw := gw_in1 232 rfl rfl
theorem w_234 : (Jvm.Cond.instanceMethod ({ cls := "MapLumps$Reader", name := "fail", desc := "(II)V" } : Jvm.MethodName)) ∈ gw := gw_in1 234 rfl rfl
theorem w_235 : (Jvm.Cond.code ({ cls := "MapLumps$Reader", name := "fail", desc := "(II)V" } : Jvm.MethodName) prog_2_method_20_code (3 : Nat) (Option.none : Option Jvm.ClassFile.FieldType)) ∈ gw := gw_in1 235 rfl rfl
theorem w_236 : (Jvm.Cond.methodLink "MapLumps$Reader" (73 : Nat) ({ cls := "MapLumps$Reader", name := "small", desc := "(II)I" } : Jvm.MethodName)) ∈ gw := gw_in1 236 rfl rfl
theorem w_238 : (Jvm.Cond.instanceMethod ({ cls := "MapLumps$Reader", name := "small", desc := "(II)I" } : Jvm.MethodName)) ∈ gw := gw_in1 238 rfl rfl
theorem w_239 : (Jvm.Cond.code ({ cls := "MapLumps$Reader", name := "small", desc := "(II)I" } : Jvm.MethodName) prog_2_method_16_code (4 : Nat) (Option.some Jvm.ClassFile.FieldType.int)) ∈ gw := gw_in1 239 rfl rfl
theorem w_240 : (Jvm.Cond.methodLink "MapLumps$Reader" (135 : Nat) ({ cls := "MapLumps$Reader", name := "judged", desc := "(IIII)I" } : Jvm.MethodName)) ∈ gw := gw_in2 0 rfl rfl
theorem w_242 : (Jvm.Cond.instanceMethod ({ cls := "MapLumps$Reader", name := "judged", desc := "(IIII)I" } : Jvm.MethodName)) ∈ gw := gw_in2 2 rfl rfl
theorem w_243 : (Jvm.Cond.code ({ cls := "MapLumps$Reader", name := "judged", desc := "(IIII)I" } : Jvm.MethodName) prog_2_method_19_code (5 : Nat) (Option.some Jvm.ClassFile.FieldType.int)) ∈ gw := gw_in2 3 rfl rfl
theorem w_244 : (Jvm.Cond.methodLink "MapLumps$Reader" (48 : Nat) ({ cls := "MapLumps$Reader", name := "passVertices", desc := "()V" } : Jvm.MethodName)) ∈ gw := gw_in2 4 rfl rfl
theorem w_246 : (Jvm.Cond.instanceMethod ({ cls := "MapLumps$Reader", name := "passVertices", desc := "()V" } : Jvm.MethodName)) ∈ gw := gw_in2 6 rfl rfl
theorem w_247 : (Jvm.Cond.code ({ cls := "MapLumps$Reader", name := "passVertices", desc := "()V" } : Jvm.MethodName) prog_2_method_4_code (3 : Nat) (Option.none : Option Jvm.ClassFile.FieldType)) ∈ gw := gw_in2 7 rfl rfl
theorem w_248 : (Jvm.Cond.methodLink "MapLumps$Reader" (89 : Nat) ({ cls := "MapLumps$Reader", name := "wide", desc := "(II)I" } : Jvm.MethodName)) ∈ gw := gw_in2 8 rfl rfl
theorem w_250 : (Jvm.Cond.instanceMethod ({ cls := "MapLumps$Reader", name := "wide", desc := "(II)I" } : Jvm.MethodName)) ∈ gw := gw_in2 10 rfl rfl
theorem w_251 : (Jvm.Cond.code ({ cls := "MapLumps$Reader", name := "wide", desc := "(II)I" } : Jvm.MethodName) prog_2_method_18_code (6 : Nat) (Option.some Jvm.ClassFile.FieldType.int)) ∈ gw := gw_in2 11 rfl rfl
theorem w_252 : (Jvm.Cond.constant "MapLumps$Reader" (139 : Nat) (65536 : Int32)) ∈ gw := gw_in2 12 rfl rfl
theorem w_253 : (Jvm.Cond.methodLink "MapLumps$Reader" (92 : Nat) ({ cls := "MapLumps$Reader", name := "isTaken", desc := "(I)Z" } : Jvm.MethodName)) ∈ gw := gw_in2 13 rfl rfl
theorem w_255 : (Jvm.Cond.instanceMethod ({ cls := "MapLumps$Reader", name := "isTaken", desc := "(I)Z" } : Jvm.MethodName)) ∈ gw := gw_in2 15 rfl rfl
theorem w_256 : (Jvm.Cond.code ({ cls := "MapLumps$Reader", name := "isTaken", desc := "(I)Z" } : Jvm.MethodName) prog_2_method_5_code (3 : Nat) (Option.some Jvm.ClassFile.FieldType.boolean)) ∈ gw := gw_in2 16 rfl rfl
theorem w_257 : (Jvm.Cond.methodLink "MapLumps$Reader" (51 : Nat) ({ cls := "MapLumps$Reader", name := "passTextures", desc := "()V" } : Jvm.MethodName)) ∈ gw := gw_in2 17 rfl rfl
theorem w_259 : (Jvm.Cond.instanceMethod ({ cls := "MapLumps$Reader", name := "passTextures", desc := "()V" } : Jvm.MethodName)) ∈ gw := gw_in2 19 rfl rfl
theorem w_260 : (Jvm.Cond.code ({ cls := "MapLumps$Reader", name := "passTextures", desc := "()V" } : Jvm.MethodName) prog_2_method_6_code (5 : Nat) (Option.none : Option Jvm.ClassFile.FieldType)) ∈ gw := gw_in2 20 rfl rfl
theorem w_261 : (Jvm.Cond.methodLink "MapLumps$Reader" (54 : Nat) ({ cls := "MapLumps$Reader", name := "passSectors", desc := "()V" } : Jvm.MethodName)) ∈ gw := gw_in2 21 rfl rfl
theorem w_263 : (Jvm.Cond.instanceMethod ({ cls := "MapLumps$Reader", name := "passSectors", desc := "()V" } : Jvm.MethodName)) ∈ gw := gw_in2 23 rfl rfl
theorem w_264 : (Jvm.Cond.code ({ cls := "MapLumps$Reader", name := "passSectors", desc := "()V" } : Jvm.MethodName) prog_2_method_7_code (3 : Nat) (Option.none : Option Jvm.ClassFile.FieldType)) ∈ gw := gw_in2 24 rfl rfl
theorem w_265 : (Jvm.Cond.methodLink "MapLumps$Reader" (99 : Nat) ({ cls := "MapLumps$Reader", name := "smallOrAbsent", desc := "(I)I" } : Jvm.MethodName)) ∈ gw := gw_in2 25 rfl rfl
theorem w_267 : (Jvm.Cond.instanceMethod ({ cls := "MapLumps$Reader", name := "smallOrAbsent", desc := "(I)I" } : Jvm.MethodName)) ∈ gw := gw_in2 27 rfl rfl
theorem w_268 : (Jvm.Cond.code ({ cls := "MapLumps$Reader", name := "smallOrAbsent", desc := "(I)I" } : Jvm.MethodName) prog_2_method_17_code (4 : Nat) (Option.some Jvm.ClassFile.FieldType.int)) ∈ gw := gw_in2 28 rfl rfl
theorem w_269 : (Jvm.Cond.methodLink "MapLumps$Reader" (57 : Nat) ({ cls := "MapLumps$Reader", name := "passWalls", desc := "()V" } : Jvm.MethodName)) ∈ gw := gw_in2 29 rfl rfl
theorem w_271 : (Jvm.Cond.instanceMethod ({ cls := "MapLumps$Reader", name := "passWalls", desc := "()V" } : Jvm.MethodName)) ∈ gw := gw_in2 31 rfl rfl
theorem w_272 : (Jvm.Cond.code ({ cls := "MapLumps$Reader", name := "passWalls", desc := "()V" } : Jvm.MethodName) prog_2_method_8_code (3 : Nat) (Option.none : Option Jvm.ClassFile.FieldType)) ∈ gw := gw_in2 32 rfl rfl
theorem w_273 : (Jvm.Cond.methodLink "MapLumps$Reader" (106 : Nat) ({ cls := "MapLumps$Reader", name := "passWallEnds", desc := "(LMapLumps$Span;)V" } : Jvm.MethodName)) ∈ gw := gw_in2 33 rfl rfl
theorem w_275 : (Jvm.Cond.instanceMethod ({ cls := "MapLumps$Reader", name := "passWallEnds", desc := "(LMapLumps$Span;)V" } : Jvm.MethodName)) ∈ gw := gw_in2 35 rfl rfl
theorem w_276 : (Jvm.Cond.code ({ cls := "MapLumps$Reader", name := "passWallEnds", desc := "(LMapLumps$Span;)V" } : Jvm.MethodName) prog_2_method_9_code (5 : Nat) (Option.none : Option Jvm.ClassFile.FieldType)) ∈ gw := gw_in2 36 rfl rfl
theorem w_277 : (Jvm.Cond.methodLink "MapLumps$Reader" (114 : Nat) ({ cls := "MapLumps$Span", name := "lay", desc := "(IIII)V" } : Jvm.MethodName)) ∈ gw := gw_in2 37 rfl rfl
theorem w_278 : (Jvm.Cond.instanceMethod ({ cls := "MapLumps$Span", name := "lay", desc := "(IIII)V" } : Jvm.MethodName)) ∈ gw := gw_in2 38 rfl rfl
theorem w_279 : (Jvm.Cond.selects "MapLumps$Span" ({ cls := "MapLumps$Span", name := "lay", desc := "(IIII)V" } : Jvm.MethodName) ({ cls := "MapLumps$Span", name := "lay", desc := "(IIII)V" } : Jvm.MethodName)) ∈ gw := gw_in2 39 rfl rfl
theorem w_280 : (Jvm.Cond.code ({ cls := "MapLumps$Span", name := "lay", desc := "(IIII)V" } : Jvm.MethodName) prog_5_method_2_code (5 : Nat) (Option.none : Option Jvm.ClassFile.FieldType)) ∈ gw := gw_in2 40 rfl rfl
theorem w_281 : (Jvm.Cond.methodLink "MapLumps$Span" (22 : Nat) ({ cls := "java/lang/Math", name := "min", desc := "(II)I" } : Jvm.MethodName)) ∈ gw := gw_in2 41 rfl rfl
theorem w_282 : (Jvm.Cond.static ({ cls := "java/lang/Math", name := "min", desc := "(II)I" } : Jvm.MethodName)) ∈ gw := gw_in2 42 rfl rfl
theorem w_283 : (Jvm.Cond.code ({ cls := "java/lang/Math", name := "min", desc := "(II)I" } : Jvm.MethodName) prog_9_method_69_code (2 : Nat) (Option.some Jvm.ClassFile.FieldType.int)) ∈ gw := gw_in2 43 rfl rfl
theorem w_284 : (Jvm.Cond.methodLink "MapLumps$Span" (31 : Nat) ({ cls := "java/lang/Math", name := "max", desc := "(II)I" } : Jvm.MethodName)) ∈ gw := gw_in2 44 rfl rfl
theorem w_285 : (Jvm.Cond.static ({ cls := "java/lang/Math", name := "max", desc := "(II)I" } : Jvm.MethodName)) ∈ gw := gw_in2 45 rfl rfl
theorem w_286 : (Jvm.Cond.code ({ cls := "java/lang/Math", name := "max", desc := "(II)I" } : Jvm.MethodName) prog_9_method_65_code (2 : Nat) (Option.some Jvm.ClassFile.FieldType.int)) ∈ gw := gw_in2 46 rfl rfl
theorem w_287 : (Jvm.Cond.methodLink "MapLumps$Reader" (110 : Nat) ({ cls := "MapLumps$Reader", name := "passWallTextures", desc := "(I)V" } : Jvm.MethodName)) ∈ gw := gw_in2 47 rfl rfl
theorem w_289 : (Jvm.Cond.instanceMethod ({ cls := "MapLumps$Reader", name := "passWallTextures", desc := "(I)V" } : Jvm.MethodName)) ∈ gw := gw_in2 49 rfl rfl
theorem w_290 : (Jvm.Cond.code ({ cls := "MapLumps$Reader", name := "passWallTextures", desc := "(I)V" } : Jvm.MethodName) prog_2_method_10_code (3 : Nat) (Option.none : Option Jvm.ClassFile.FieldType)) ∈ gw := gw_in2 50 rfl rfl
theorem w_291 : (Jvm.Cond.methodLink "MapLumps$Reader" (60 : Nat) ({ cls := "MapLumps$Reader", name := "passStart", desc := "()V" } : Jvm.MethodName)) ∈ gw := gw_in2 51 rfl rfl
theorem w_293 : (Jvm.Cond.instanceMethod ({ cls := "MapLumps$Reader", name := "passStart", desc := "()V" } : Jvm.MethodName)) ∈ gw := gw_in2 53 rfl rfl
theorem w_294 : (Jvm.Cond.code ({ cls := "MapLumps$Reader", name := "passStart", desc := "()V" } : Jvm.MethodName) prog_2_method_11_code (1 : Nat) (Option.none : Option Jvm.ClassFile.FieldType)) ∈ gw := gw_in2 54 rfl rfl
theorem w_295 : (Jvm.Cond.methodLink "MapLumps$Reader" (63 : Nat) ({ cls := "MapLumps$Reader", name := "passEnd", desc := "()V" } : Jvm.MethodName)) ∈ gw := gw_in2 55 rfl rfl
theorem w_297 : (Jvm.Cond.instanceMethod ({ cls := "MapLumps$Reader", name := "passEnd", desc := "()V" } : Jvm.MethodName)) ∈ gw := gw_in2 57 rfl rfl
theorem w_298 : (Jvm.Cond.code ({ cls := "MapLumps$Reader", name := "passEnd", desc := "()V" } : Jvm.MethodName) prog_2_method_12_code (2 : Nat) (Option.none : Option Jvm.ClassFile.FieldType)) ∈ gw := gw_in2 58 rfl rfl
theorem w_299 : (Jvm.Cond.methodLink "MapLumps$Reader" (118 : Nat) ({ cls := "MapLumps$Row", name := "sums", desc := "(I)I" } : Jvm.MethodName)) ∈ gw := gw_in2 59 rfl rfl
theorem w_300 : (Jvm.Cond.instanceMethod ({ cls := "MapLumps$Row", name := "sums", desc := "(I)I" } : Jvm.MethodName)) ∈ gw := gw_in2 60 rfl rfl
theorem w_301 : (Jvm.Cond.selects "MapLumps$Row" ({ cls := "MapLumps$Row", name := "sums", desc := "(I)I" } : Jvm.MethodName) ({ cls := "MapLumps$Row", name := "sums", desc := "(I)I" } : Jvm.MethodName)) ∈ gw := gw_in2 61 rfl rfl
theorem w_302 : (Jvm.Cond.code ({ cls := "MapLumps$Row", name := "sums", desc := "(I)I" } : Jvm.MethodName) prog_4_method_9_code (5 : Nat) (Option.some Jvm.ClassFile.FieldType.int)) ∈ gw := gw_in2 62 rfl rfl
theorem w_303 : (Jvm.Cond.methodLink "MapLumps$Reader" (66 : Nat) ({ cls := "MapLumps$Reader", name := "seekMeeting", desc := "()V" } : Jvm.MethodName)) ∈ gw := gw_in2 63 rfl rfl
theorem w_305 : (Jvm.Cond.instanceMethod ({ cls := "MapLumps$Reader", name := "seekMeeting", desc := "()V" } : Jvm.MethodName)) ∈ gw := gw_in2 65 rfl rfl
theorem w_306 : (Jvm.Cond.code ({ cls := "MapLumps$Reader", name := "seekMeeting", desc := "()V" } : Jvm.MethodName) prog_2_method_13_code (3 : Nat) (Option.none : Option Jvm.ClassFile.FieldType)) ∈ gw := gw_in2 66 rfl rfl
theorem w_307 : (Jvm.Cond.methodLink "MapLumps$Reader" (124 : Nat) ({ cls := "MapLumps$Span", name := "meets", desc := "(LMapLumps$Span;)Z" } : Jvm.MethodName)) ∈ gw := gw_in2 67 rfl rfl
theorem w_308 : (Jvm.Cond.instanceMethod ({ cls := "MapLumps$Span", name := "meets", desc := "(LMapLumps$Span;)Z" } : Jvm.MethodName)) ∈ gw := gw_in2 68 rfl rfl
theorem w_309 : (Jvm.Cond.selects "MapLumps$Span" ({ cls := "MapLumps$Span", name := "meets", desc := "(LMapLumps$Span;)Z" } : Jvm.MethodName) ({ cls := "MapLumps$Span", name := "meets", desc := "(LMapLumps$Span;)Z" } : Jvm.MethodName)) ∈ gw := gw_in2 69 rfl rfl
theorem w_310 : (Jvm.Cond.code ({ cls := "MapLumps$Span", name := "meets", desc := "(LMapLumps$Span;)Z" } : Jvm.MethodName) prog_5_method_3_code (2 : Nat) (Option.some Jvm.ClassFile.FieldType.boolean)) ∈ gw := gw_in2 70 rfl rfl
theorem w_311 : (Jvm.Cond.methodLink "MapLumps$Span" (43 : Nat) ({ cls := "MapLumps$Span", name := "boxesApart", desc := "(LMapLumps$Span;)Z" } : Jvm.MethodName)) ∈ gw := gw_in2 71 rfl rfl
theorem w_313 : (Jvm.Cond.instanceMethod ({ cls := "MapLumps$Span", name := "boxesApart", desc := "(LMapLumps$Span;)Z" } : Jvm.MethodName)) ∈ gw := gw_in2 73 rfl rfl
theorem w_314 : (Jvm.Cond.code ({ cls := "MapLumps$Span", name := "boxesApart", desc := "(LMapLumps$Span;)Z" } : Jvm.MethodName) prog_5_method_4_code (2 : Nat) (Option.some Jvm.ClassFile.FieldType.boolean)) ∈ gw := gw_in2 74 rfl rfl
theorem w_315 : (Jvm.Cond.methodLink "MapLumps$Span" (47 : Nat) ({ cls := "MapLumps$Span", name := "sameWay", desc := "(IIIIII)Z" } : Jvm.MethodName)) ∈ gw := gw_in2 75 rfl rfl
theorem w_316 : (Jvm.Cond.static ({ cls := "MapLumps$Span", name := "sameWay", desc := "(IIIIII)Z" } : Jvm.MethodName)) ∈ gw := gw_in2 76 rfl rfl
theorem w_317 : (Jvm.Cond.code ({ cls := "MapLumps$Span", name := "sameWay", desc := "(IIIIII)Z" } : Jvm.MethodName) prog_5_method_7_code (8 : Nat) (Option.some Jvm.ClassFile.FieldType.boolean)) ∈ gw := gw_in2 77 rfl rfl
theorem w_318 : (Jvm.Cond.methodLink "MapLumps$Span" (57 : Nat) ({ cls := "MapLumps$Span", name := "turn", desc := "(IIIIII)J" } : Jvm.MethodName)) ∈ gw := gw_in2 78 rfl rfl
theorem w_319 : (Jvm.Cond.static ({ cls := "MapLumps$Span", name := "turn", desc := "(IIIIII)J" } : Jvm.MethodName)) ∈ gw := gw_in2 79 rfl rfl
theorem w_320 : (Jvm.Cond.code ({ cls := "MapLumps$Span", name := "turn", desc := "(IIIIII)J" } : Jvm.MethodName) prog_5_method_8_code (6 : Nat) (Option.some Jvm.ClassFile.FieldType.long)) ∈ gw := gw_in2 80 rfl rfl
theorem w_321 : (Jvm.Cond.methodLink "MapLumps$Span" (51 : Nat) ({ cls := "MapLumps$Span", name := "lineParts", desc := "(LMapLumps$Span;)Z" } : Jvm.MethodName)) ∈ gw := gw_in2 81 rfl rfl
theorem w_323 : (Jvm.Cond.instanceMethod ({ cls := "MapLumps$Span", name := "lineParts", desc := "(LMapLumps$Span;)Z" } : Jvm.MethodName)) ∈ gw := gw_in2 83 rfl rfl
theorem w_324 : (Jvm.Cond.code ({ cls := "MapLumps$Span", name := "lineParts", desc := "(LMapLumps$Span;)Z" } : Jvm.MethodName) prog_5_method_5_code (2 : Nat) (Option.some Jvm.ClassFile.FieldType.boolean)) ∈ gw := gw_in2 84 rfl rfl
theorem w_325 : (Jvm.Cond.methodLink "MapLumps$Span" (54 : Nat) ({ cls := "MapLumps$Span", name := "side", desc := "(II)I" } : Jvm.MethodName)) ∈ gw := gw_in2 85 rfl rfl
theorem w_327 : (Jvm.Cond.instanceMethod ({ cls := "MapLumps$Span", name := "side", desc := "(II)I" } : Jvm.MethodName)) ∈ gw := gw_in2 87 rfl rfl
theorem w_328 : (Jvm.Cond.code ({ cls := "MapLumps$Span", name := "side", desc := "(II)I" } : Jvm.MethodName) prog_5_method_6_code (3 : Nat) (Option.some Jvm.ClassFile.FieldType.int)) ∈ gw := gw_in2 88 rfl rfl
theorem w_329 : (Jvm.Cond.methodLink "MapLumps$Span" (61 : Nat) ({ cls := "java/lang/Long", name := "signum", desc := "(J)I" } : Jvm.MethodName)) ∈ gw := gw_in2 89 rfl rfl
theorem w_330 : (Jvm.Cond.static ({ cls := "java/lang/Long", name := "signum", desc := "(J)I" } : Jvm.MethodName)) ∈ gw := gw_in2 90 rfl rfl
theorem w_331 : (Jvm.Cond.code ({ cls := "java/lang/Long", name := "signum", desc := "(J)I" } : Jvm.MethodName) prog_8_method_57_code (2 : Nat) (Option.some Jvm.ClassFile.FieldType.int)) ∈ gw := gw_in2 91 rfl rfl
theorem w_332 : (Jvm.Cond.methodLink "MapLumps" (55 : Nat) ({ cls := "MapLumps$RoomMap", name := "take", desc := "(LMapLumps$Row;)V" } : Jvm.MethodName)) ∈ gw := gw_in2 92 rfl rfl
theorem w_333 : (Jvm.Cond.instanceMethod ({ cls := "MapLumps$RoomMap", name := "take", desc := "(LMapLumps$Row;)V" } : Jvm.MethodName)) ∈ gw := gw_in2 93 rfl rfl
theorem w_334 : (Jvm.Cond.selects "MapLumps$RoomMap" ({ cls := "MapLumps$RoomMap", name := "take", desc := "(LMapLumps$Row;)V" } : Jvm.MethodName) ({ cls := "MapLumps$RoomMap", name := "take", desc := "(LMapLumps$Row;)V" } : Jvm.MethodName)) ∈ gw := gw_in2 94 rfl rfl
theorem w_335 : (Jvm.Cond.code ({ cls := "MapLumps$RoomMap", name := "take", desc := "(LMapLumps$Row;)V" } : Jvm.MethodName) prog_3_method_2_code (4 : Nat) (Option.none : Option Jvm.ClassFile.FieldType)) ∈ gw := gw_in2 95 rfl rfl
theorem w_336 : (Jvm.Cond.methodLink "MapLumps$RoomMap" (22 : Nat) ({ cls := "MapLumps$Row", name := "copy", desc := "(LMapLumps$Row;)V" } : Jvm.MethodName)) ∈ gw := gw_in2 96 rfl rfl
theorem w_337 : (Jvm.Cond.instanceMethod ({ cls := "MapLumps$Row", name := "copy", desc := "(LMapLumps$Row;)V" } : Jvm.MethodName)) ∈ gw := gw_in2 97 rfl rfl
theorem w_338 : (Jvm.Cond.selects "MapLumps$Row" ({ cls := "MapLumps$Row", name := "copy", desc := "(LMapLumps$Row;)V" } : Jvm.MethodName) ({ cls := "MapLumps$Row", name := "copy", desc := "(LMapLumps$Row;)V" } : Jvm.MethodName)) ∈ gw := gw_in2 98 rfl rfl
theorem w_339 : (Jvm.Cond.code ({ cls := "MapLumps$Row", name := "copy", desc := "(LMapLumps$Row;)V" } : Jvm.MethodName) prog_4_method_7_code (2 : Nat) (Option.none : Option Jvm.ClassFile.FieldType)) ∈ gw := gw_in2 99 rfl rfl
theorem w_340 : (Jvm.Cond.methodLink "MapLumps$Row" (19 : Nat) ({ cls := "java/lang/System", name := "arraycopy", desc := "(Ljava/lang/Object;ILjava/lang/Object;II)V" } : Jvm.MethodName)) ∈ gw := gw_in2 100 rfl rfl
theorem w_341 : (Jvm.Cond.static ({ cls := "java/lang/System", name := "arraycopy", desc := "(Ljava/lang/Object;ILjava/lang/Object;II)V" } : Jvm.MethodName)) ∈ gw := gw_in2 101 rfl rfl
theorem w_342 : (Jvm.Cond.native ({ cls := "java/lang/System", name := "arraycopy", desc := "(Ljava/lang/Object;ILjava/lang/Object;II)V" } : Jvm.MethodName)) ∈ gw := gw_in2 102 rfl rfl
theorem w_343 : (Jvm.Cond.methodLink "MapLumps$RoomMap" (30 : Nat) ({ cls := "MapLumps$Row", name := "get", desc := "(I)I" } : Jvm.MethodName)) ∈ gw := gw_in2 103 rfl rfl
theorem w_344 : (Jvm.Cond.methodLink "MapLumps$RoomMap" (47 : Nat) ({ cls := "MapLumps$RoomMap", name := "width", desc := "(I)I" } : Jvm.MethodName)) ∈ gw := gw_in2 104 rfl rfl
theorem w_345 : (Jvm.Cond.instanceMethod ({ cls := "MapLumps$RoomMap", name := "width", desc := "(I)I" } : Jvm.MethodName)) ∈ gw := gw_in2 105 rfl rfl
theorem w_346 : (Jvm.Cond.selects "MapLumps$RoomMap" ({ cls := "MapLumps$RoomMap", name := "width", desc := "(I)I" } : Jvm.MethodName) ({ cls := "MapLumps$RoomMap", name := "width", desc := "(I)I" } : Jvm.MethodName)) ∈ gw := gw_in2 106 rfl rfl
theorem w_347 : (Jvm.Cond.code ({ cls := "MapLumps$RoomMap", name := "width", desc := "(I)I" } : Jvm.MethodName) prog_3_method_4_code (2 : Nat) (Option.some Jvm.ClassFile.FieldType.int)) ∈ gw := gw_in2 107 rfl rfl
theorem w_348 : (Jvm.Cond.methodLink "MapLumps$RoomMap" (62 : Nat) ({ cls := "MapLumps$RoomMap", name := "textureAt", desc := "(I)I" } : Jvm.MethodName)) ∈ gw := gw_in2 108 rfl rfl
theorem w_350 : (Jvm.Cond.instanceMethod ({ cls := "MapLumps$RoomMap", name := "textureAt", desc := "(I)I" } : Jvm.MethodName)) ∈ gw := gw_in2 110 rfl rfl
theorem w_351 : (Jvm.Cond.code ({ cls := "MapLumps$RoomMap", name := "textureAt", desc := "(I)I" } : Jvm.MethodName) prog_3_method_7_code (2 : Nat) (Option.some Jvm.ClassFile.FieldType.int)) ∈ gw := gw_in2 111 rfl rfl
theorem w_352 : (Jvm.Cond.methodLink "MapLumps$RoomMap" (50 : Nat) ({ cls := "MapLumps$RoomMap", name := "height", desc := "(I)I" } : Jvm.MethodName)) ∈ gw := gw_in2 112 rfl rfl
theorem w_353 : (Jvm.Cond.instanceMethod ({ cls := "MapLumps$RoomMap", name := "height", desc := "(I)I" } : Jvm.MethodName)) ∈ gw := gw_in2 113 rfl rfl
theorem w_354 : (Jvm.Cond.selects "MapLumps$RoomMap" ({ cls := "MapLumps$RoomMap", name := "height", desc := "(I)I" } : Jvm.MethodName) ({ cls := "MapLumps$RoomMap", name := "height", desc := "(I)I" } : Jvm.MethodName)) ∈ gw := gw_in2 114 rfl rfl
theorem w_355 : (Jvm.Cond.code ({ cls := "MapLumps$RoomMap", name := "height", desc := "(I)I" } : Jvm.MethodName) prog_3_method_5_code (2 : Nat) (Option.some Jvm.ClassFile.FieldType.int)) ∈ gw := gw_in2 115 rfl rfl
theorem w_356 : (Jvm.Cond.methodLink "MapLumpsLaw" (35 : Nat) ({ cls := "MapLumps", name := "write", desc := "()I" } : Jvm.MethodName)) ∈ gw := gw_in2 116 rfl rfl
theorem w_357 : (Jvm.Cond.instanceMethod ({ cls := "MapLumps", name := "write", desc := "()I" } : Jvm.MethodName)) ∈ gw := gw_in2 117 rfl rfl
theorem w_358 : (Jvm.Cond.selects "MapLumps" ({ cls := "MapLumps", name := "write", desc := "()I" } : Jvm.MethodName) ({ cls := "MapLumps", name := "write", desc := "()I" } : Jvm.MethodName)) ∈ gw := gw_in2 118 rfl rfl
theorem w_359 : (Jvm.Cond.code ({ cls := "MapLumps", name := "write", desc := "()I" } : Jvm.MethodName) prog_1_method_6_code (1 : Nat) (Option.some Jvm.ClassFile.FieldType.int)) ∈ gw := gw_in2 119 rfl rfl
theorem w_360 : (Jvm.Cond.methodLink "MapLumps" (66 : Nat) ({ cls := "MapLumps$Row", name := "copy", desc := "(LMapLumps$Row;)V" } : Jvm.MethodName)) ∈ gw := gw_in2 120 rfl rfl
theorem w_361 : (Jvm.Cond.methodLink "MapLumpsLaw" (39 : Nat) ({ cls := "MapLumps", name := "check", desc := "()Z" } : Jvm.MethodName)) ∈ gw := gw_in2 121 rfl rfl
theorem w_362 : (Jvm.Cond.instanceMethod ({ cls := "MapLumps", name := "check", desc := "()Z" } : Jvm.MethodName)) ∈ gw := gw_in2 122 rfl rfl
theorem w_363 : (Jvm.Cond.selects "MapLumps" ({ cls := "MapLumps", name := "check", desc := "()Z" } : Jvm.MethodName) ({ cls := "MapLumps", name := "check", desc := "()Z" } : Jvm.MethodName)) ∈ gw := gw_in2 123 rfl rfl
theorem w_364 : (Jvm.Cond.code ({ cls := "MapLumps", name := "check", desc := "()Z" } : Jvm.MethodName) prog_1_method_7_code (3 : Nat) (Option.some Jvm.ClassFile.FieldType.boolean)) ∈ gw := gw_in2 124 rfl rfl
theorem w_365 : (Jvm.Cond.methodLink "MapLumps" (73 : Nat) ({ cls := "MapLumps$Row", name := "sums", desc := "(I)I" } : Jvm.MethodName)) ∈ gw := gw_in2 125 rfl rfl
theorem w_366 : (Jvm.Cond.methodLink "MapLumpsLaw" (44 : Nat) ({ cls := "MapLumps", name := "byteAt", desc := "(IZ)I" } : Jvm.MethodName)) ∈ gw := gw_in2 126 rfl rfl
theorem w_367 : (Jvm.Cond.instanceMethod ({ cls := "MapLumps", name := "byteAt", desc := "(IZ)I" } : Jvm.MethodName)) ∈ gw := gw_in2 127 rfl rfl
theorem w_368 : (Jvm.Cond.selects "MapLumps" ({ cls := "MapLumps", name := "byteAt", desc := "(IZ)I" } : Jvm.MethodName) ({ cls := "MapLumps", name := "byteAt", desc := "(IZ)I" } : Jvm.MethodName)) ∈ gw := gw_in2 128 rfl rfl
theorem w_369 : (Jvm.Cond.code ({ cls := "MapLumps", name := "byteAt", desc := "(IZ)I" } : Jvm.MethodName) prog_1_method_8_code (3 : Nat) (Option.some Jvm.ClassFile.FieldType.int)) ∈ gw := gw_in2 129 rfl rfl
theorem w_370 : (Jvm.Cond.methodLink "MapLumps" (77 : Nat) ({ cls := "MapLumps$Row", name := "get", desc := "(I)I" } : Jvm.MethodName)) ∈ gw := gw_in2 130 rfl rfl
theorem w_371 : (Jvm.Cond.methodLink "MapLumpsLaw" (49 : Nat) ({ cls := "MapLumps", name := "vertex", desc := "(IZ)I" } : Jvm.MethodName)) ∈ gw := gw_in2 131 rfl rfl
theorem w_372 : (Jvm.Cond.instanceMethod ({ cls := "MapLumps", name := "vertex", desc := "(IZ)I" } : Jvm.MethodName)) ∈ gw := gw_in2 132 rfl rfl
theorem w_373 : (Jvm.Cond.selects "MapLumps" ({ cls := "MapLumps", name := "vertex", desc := "(IZ)I" } : Jvm.MethodName) ({ cls := "MapLumps", name := "vertex", desc := "(IZ)I" } : Jvm.MethodName)) ∈ gw := gw_in2 133 rfl rfl
theorem w_374 : (Jvm.Cond.code ({ cls := "MapLumps", name := "vertex", desc := "(IZ)I" } : Jvm.MethodName) prog_1_method_9_code (3 : Nat) (Option.some Jvm.ClassFile.FieldType.int)) ∈ gw := gw_in2 134 rfl rfl
theorem w_375 : (Jvm.Cond.constant "MapLumps" (83 : Nat) (100000 : Int32)) ∈ gw := gw_in2 135 rfl rfl
theorem w_376 : (Jvm.Cond.methodLink "MapLumps" (84 : Nat) ({ cls := "MapLumps$Row", name := "signed", desc := "(I)I" } : Jvm.MethodName)) ∈ gw := gw_in2 136 rfl rfl
theorem w_377 : (Jvm.Cond.instanceMethod ({ cls := "MapLumps$Row", name := "signed", desc := "(I)I" } : Jvm.MethodName)) ∈ gw := gw_in2 137 rfl rfl
theorem w_378 : (Jvm.Cond.selects "MapLumps$Row" ({ cls := "MapLumps$Row", name := "signed", desc := "(I)I" } : Jvm.MethodName) ({ cls := "MapLumps$Row", name := "signed", desc := "(I)I" } : Jvm.MethodName)) ∈ gw := gw_in2 138 rfl rfl
theorem w_379 : (Jvm.Cond.code ({ cls := "MapLumps$Row", name := "signed", desc := "(I)I" } : Jvm.MethodName) prog_4_method_8_code (3 : Nat) (Option.some Jvm.ClassFile.FieldType.int)) ∈ gw := gw_in2 139 rfl rfl
theorem w_380 : (Jvm.Cond.methodLink "MapLumps$Row" (25 : Nat) ({ cls := "MapLumps$Row", name := "get", desc := "(I)I" } : Jvm.MethodName)) ∈ gw := gw_in2 140 rfl rfl
theorem w_381 : (Jvm.Cond.constant "MapLumps$Row" (29 : Nat) (65536 : Int32)) ∈ gw := gw_in2 141 rfl rfl
theorem w_382 : (Jvm.Cond.methodLink "MapLumpsLaw" (53 : Nat) ({ cls := "MapLumps", name := "texture", desc := "(II)I" } : Jvm.MethodName)) ∈ gw := gw_in2 142 rfl rfl
theorem w_383 : (Jvm.Cond.instanceMethod ({ cls := "MapLumps", name := "texture", desc := "(II)I" } : Jvm.MethodName)) ∈ gw := gw_in2 143 rfl rfl
theorem w_384 : (Jvm.Cond.selects "MapLumps" ({ cls := "MapLumps", name := "texture", desc := "(II)I" } : Jvm.MethodName) ({ cls := "MapLumps", name := "texture", desc := "(II)I" } : Jvm.MethodName)) ∈ gw := gw_in2 144 rfl rfl
theorem w_385 : (Jvm.Cond.code ({ cls := "MapLumps", name := "texture", desc := "(II)I" } : Jvm.MethodName) prog_1_method_10_code (3 : Nat) (Option.some Jvm.ClassFile.FieldType.int)) ∈ gw := gw_in2 145 rfl rfl
theorem w_386 : (Jvm.Cond.methodLink "MapLumps" (90 : Nat) ({ cls := "MapLumps$RoomMap", name := "width", desc := "(I)I" } : Jvm.MethodName)) ∈ gw := gw_in2 146 rfl rfl
theorem w_387 : (Jvm.Cond.methodLink "MapLumps" (93 : Nat) ({ cls := "MapLumps$RoomMap", name := "height", desc := "(I)I" } : Jvm.MethodName)) ∈ gw := gw_in2 147 rfl rfl
theorem w_388 : (Jvm.Cond.methodLink "MapLumps" (96 : Nat) ({ cls := "MapLumps$RoomMap", name := "texel", desc := "(III)I" } : Jvm.MethodName)) ∈ gw := gw_in2 148 rfl rfl
theorem w_389 : (Jvm.Cond.instanceMethod ({ cls := "MapLumps$RoomMap", name := "texel", desc := "(III)I" } : Jvm.MethodName)) ∈ gw := gw_in2 149 rfl rfl
theorem w_390 : (Jvm.Cond.selects "MapLumps$RoomMap" ({ cls := "MapLumps$RoomMap", name := "texel", desc := "(III)I" } : Jvm.MethodName) ({ cls := "MapLumps$RoomMap", name := "texel", desc := "(III)I" } : Jvm.MethodName)) ∈ gw := gw_in2 150 rfl rfl
theorem w_391 : (Jvm.Cond.code ({ cls := "MapLumps$RoomMap", name := "texel", desc := "(III)I" } : Jvm.MethodName) prog_3_method_6_code (5 : Nat) (Option.some Jvm.ClassFile.FieldType.int)) ∈ gw := gw_in2 151 rfl rfl
theorem w_392 : (Jvm.Cond.methodLink "MapLumpsLaw" (58 : Nat) ({ cls := "MapLumps", name := "sector", desc := "(II)I" } : Jvm.MethodName)) ∈ gw := gw_in2 152 rfl rfl
theorem w_393 : (Jvm.Cond.instanceMethod ({ cls := "MapLumps", name := "sector", desc := "(II)I" } : Jvm.MethodName)) ∈ gw := gw_in2 153 rfl rfl
theorem w_394 : (Jvm.Cond.selects "MapLumps" ({ cls := "MapLumps", name := "sector", desc := "(II)I" } : Jvm.MethodName) ({ cls := "MapLumps", name := "sector", desc := "(II)I" } : Jvm.MethodName)) ∈ gw := gw_in2 154 rfl rfl
theorem w_395 : (Jvm.Cond.code ({ cls := "MapLumps", name := "sector", desc := "(II)I" } : Jvm.MethodName) prog_1_method_11_code (4 : Nat) (Option.some Jvm.ClassFile.FieldType.int)) ∈ gw := gw_in2 155 rfl rfl
theorem w_396 : (Jvm.Cond.methodLink "MapLumpsLaw" (62 : Nat) ({ cls := "MapLumps", name := "wall", desc := "(II)I" } : Jvm.MethodName)) ∈ gw := gw_in2 156 rfl rfl
theorem w_397 : (Jvm.Cond.instanceMethod ({ cls := "MapLumps", name := "wall", desc := "(II)I" } : Jvm.MethodName)) ∈ gw := gw_in2 157 rfl rfl
theorem w_398 : (Jvm.Cond.selects "MapLumps" ({ cls := "MapLumps", name := "wall", desc := "(II)I" } : Jvm.MethodName) ({ cls := "MapLumps", name := "wall", desc := "(II)I" } : Jvm.MethodName)) ∈ gw := gw_in2 158 rfl rfl
theorem w_399 : (Jvm.Cond.code ({ cls := "MapLumps", name := "wall", desc := "(II)I" } : Jvm.MethodName) prog_1_method_12_code (4 : Nat) (Option.some Jvm.ClassFile.FieldType.int)) ∈ gw := gw_in2 159 rfl rfl
theorem w_400 : (Jvm.Cond.methodLink "MapLumpsLaw" (66 : Nat) ({ cls := "MapLumps", name := "start", desc := "(I)I" } : Jvm.MethodName)) ∈ gw := gw_in2 160 rfl rfl
theorem w_401 : (Jvm.Cond.instanceMethod ({ cls := "MapLumps", name := "start", desc := "(I)I" } : Jvm.MethodName)) ∈ gw := gw_in2 161 rfl rfl
theorem w_402 : (Jvm.Cond.selects "MapLumps" ({ cls := "MapLumps", name := "start", desc := "(I)I" } : Jvm.MethodName) ({ cls := "MapLumps", name := "start", desc := "(I)I" } : Jvm.MethodName)) ∈ gw := gw_in2 162 rfl rfl
theorem w_403 : (Jvm.Cond.code ({ cls := "MapLumps", name := "start", desc := "(I)I" } : Jvm.MethodName) prog_1_method_13_code (2 : Nat) (Option.some Jvm.ClassFile.FieldType.int)) ∈ gw := gw_in2 163 rfl rfl
theorem w_404 : (Jvm.Cond.methodLink "MapLumpsLaw" (71 : Nat) ({ cls := "MapLumps", name := "look", desc := "(I)I" } : Jvm.MethodName)) ∈ gw := gw_in2 164 rfl rfl
theorem w_405 : (Jvm.Cond.instanceMethod ({ cls := "MapLumps", name := "look", desc := "(I)I" } : Jvm.MethodName)) ∈ gw := gw_in2 165 rfl rfl
theorem w_406 : (Jvm.Cond.selects "MapLumps" ({ cls := "MapLumps", name := "look", desc := "(I)I" } : Jvm.MethodName) ({ cls := "MapLumps", name := "look", desc := "(I)I" } : Jvm.MethodName)) ∈ gw := gw_in2 166 rfl rfl
theorem w_407 : (Jvm.Cond.code ({ cls := "MapLumps", name := "look", desc := "(I)I" } : Jvm.MethodName) prog_1_method_14_code (2 : Nat) (Option.some Jvm.ClassFile.FieldType.int)) ∈ gw := gw_in2 167 rfl rfl
theorem w_408 : (Jvm.Cond.methodLink "MapLumps" (115 : Nat) ({ cls := "MapLumps$RoomMap", name := "counted", desc := "(I)I" } : Jvm.MethodName)) ∈ gw := gw_in2 168 rfl rfl
theorem w_409 : (Jvm.Cond.instanceMethod ({ cls := "MapLumps$RoomMap", name := "counted", desc := "(I)I" } : Jvm.MethodName)) ∈ gw := gw_in2 169 rfl rfl
theorem w_410 : (Jvm.Cond.selects "MapLumps$RoomMap" ({ cls := "MapLumps$RoomMap", name := "counted", desc := "(I)I" } : Jvm.MethodName) ({ cls := "MapLumps$RoomMap", name := "counted", desc := "(I)I" } : Jvm.MethodName)) ∈ gw := gw_in2 170 rfl rfl
theorem w_411 : (Jvm.Cond.code ({ cls := "MapLumps$RoomMap", name := "counted", desc := "(I)I" } : Jvm.MethodName) prog_3_method_3_code (2 : Nat) (Option.some Jvm.ClassFile.FieldType.int)) ∈ gw := gw_in2 171 rfl rfl
theorem w_412 : (Jvm.Cond.classLink "MapLumpsLaw" (10 : Nat) "MapLumpsModel") ∈ gw := gw_in2 172 rfl rfl
theorem w_413 : (Jvm.Cond.instantiable "MapLumpsModel" (13 : Nat)) ∈ gw := gw_in2 173 rfl rfl
theorem w_414 : (Jvm.Cond.methodLink "MapLumpsLaw" (12 : Nat) ({ cls := "MapLumpsModel", name := "<init>", desc := "()V" } : Jvm.MethodName)) ∈ gw := gw_in2 174 rfl rfl
theorem w_415 : (Jvm.Cond.instanceMethod ({ cls := "MapLumpsModel", name := "<init>", desc := "()V" } : Jvm.MethodName)) ∈ gw := gw_in2 175 rfl rfl
theorem w_416 : (Jvm.Cond.code ({ cls := "MapLumpsModel", name := "<init>", desc := "()V" } : Jvm.MethodName) prog_7_method_1_code (1 : Nat) (Option.none : Option Jvm.ClassFile.FieldType)) ∈ gw := gw_in2 176 rfl rfl
theorem w_417 : (Jvm.Cond.methodLink "MapLumpsModel" (1 : Nat) ({ cls := "java/lang/Object", name := "<init>", desc := "()V" } : Jvm.MethodName)) ∈ gw := gw_in2 177 rfl rfl
theorem w_418 : (Jvm.Cond.fieldLink "MapLumpsModel" (26 : Nat) "MapLumpsModel" "thrown" "I") ∈ gw := gw_in2 178 rfl rfl
theorem w_419 : (Jvm.Cond.fieldLink "MapLumpsModel" (7 : Nat) "MapLumpsModel" "input" "[B") ∈ gw := gw_in2 179 rfl rfl
theorem w_420 : (Jvm.Cond.fieldLink "MapLumpsModel" (29 : Nat) "MapLumpsModel" "size" "I") ∈ gw := gw_in2 180 rfl rfl
theorem w_421 : (Jvm.Cond.fieldLink "MapLumpsModel" (13 : Nat) "MapLumpsModel" "map" "[B") ∈ gw := gw_in2 181 rfl rfl
theorem w_422 : (Jvm.Cond.fieldLink "MapLumpsModel" (104 : Nat) "MapLumpsModel" "mapSize" "I") ∈ gw := gw_in2 182 rfl rfl
theorem w_423 : (Jvm.Cond.fieldLink "MapLumpsModel" (16 : Nat) "MapLumpsModel" "output" "[B") ∈ gw := gw_in2 183 rfl rfl
theorem w_424 : (Jvm.Cond.fieldLink "MapLumpsModel" (107 : Nat) "MapLumpsModel" "written" "I") ∈ gw := gw_in2 184 rfl rfl
theorem w_425 : (Jvm.Cond.fieldLink "MapLumpsModel" (42 : Nat) "MapLumpsModel" "fault" "I") ∈ gw := gw_in2 185 rfl rfl
theorem w_426 : (Jvm.Cond.fieldLink "MapLumpsModel" (19 : Nat) "MapLumpsModel" "place" "I") ∈ gw := gw_in2 186 rfl rfl
theorem w_427 : (Jvm.Cond.fieldLink "MapLumpsModel" (23 : Nat) "MapLumpsModel" "clash" "I") ∈ gw := gw_in2 187 rfl rfl
theorem w_428 : (Jvm.Cond.fieldLink "MapLumpsModel" (45 : Nat) "MapLumpsModel" "p" "I") ∈ gw := gw_in2 188 rfl rfl
theorem w_429 : (Jvm.Cond.fieldLink "MapLumpsModel" (32 : Nat) "MapLumpsModel" "one" "I") ∈ gw := gw_in2 189 rfl rfl
theorem w_430 : (Jvm.Cond.fieldLink "MapLumpsModel" (35 : Nat) "MapLumpsModel" "two" "I") ∈ gw := gw_in2 190 rfl rfl
theorem w_431 : (Jvm.Cond.lays "MapLumpsModel" "MapLumpsModel" "thrown" "I") ∈ gw := gw_in2 191 rfl rfl
theorem w_433 : (Jvm.Cond.laysFinal "MapLumpsModel" "MapLumpsModel" "input" "[B") ∈ gw := gw_in2 193 rfl rfl
theorem w_435 : (Jvm.Cond.lays "MapLumpsModel" "MapLumpsModel" "size" "I") ∈ gw := gw_in2 195 rfl rfl
theorem w_437 : (Jvm.Cond.laysFinal "MapLumpsModel" "MapLumpsModel" "map" "[B") ∈ gw := gw_in2 197 rfl rfl
theorem w_439 : (Jvm.Cond.lays "MapLumpsModel" "MapLumpsModel" "mapSize" "I") ∈ gw := gw_in2 199 rfl rfl
theorem w_441 : (Jvm.Cond.laysFinal "MapLumpsModel" "MapLumpsModel" "output" "[B") ∈ gw := gw_in2 201 rfl rfl
theorem w_443 : (Jvm.Cond.lays "MapLumpsModel" "MapLumpsModel" "written" "I") ∈ gw := gw_in2 203 rfl rfl
theorem w_445 : (Jvm.Cond.lays "MapLumpsModel" "MapLumpsModel" "fault" "I") ∈ gw := gw_in2 205 rfl rfl
theorem w_447 : (Jvm.Cond.lays "MapLumpsModel" "MapLumpsModel" "place" "I") ∈ gw := gw_in2 207 rfl rfl
theorem w_449 : (Jvm.Cond.lays "MapLumpsModel" "MapLumpsModel" "clash" "I") ∈ gw := gw_in2 209 rfl rfl
theorem w_451 : (Jvm.Cond.lays "MapLumpsModel" "MapLumpsModel" "p" "I") ∈ gw := gw_in2 211 rfl rfl
theorem w_453 : (Jvm.Cond.lays "MapLumpsModel" "MapLumpsModel" "one" "I") ∈ gw := gw_in2 213 rfl rfl
theorem w_455 : (Jvm.Cond.lays "MapLumpsModel" "MapLumpsModel" "two" "I") ∈ gw := gw_in2 215 rfl rfl
theorem w_458 : (Jvm.Cond.methodLink "MapLumpsLaw" (19 : Nat) ({ cls := "MapLumpsModel", name := "give", desc := "(JI)Z" } : Jvm.MethodName)) ∈ gw := gw_in2 218 rfl rfl
theorem w_459 : (Jvm.Cond.instanceMethod ({ cls := "MapLumpsModel", name := "give", desc := "(JI)Z" } : Jvm.MethodName)) ∈ gw := gw_in2 219 rfl rfl
theorem w_460 : (Jvm.Cond.selects "MapLumpsModel" ({ cls := "MapLumpsModel", name := "give", desc := "(JI)Z" } : Jvm.MethodName) ({ cls := "MapLumpsModel", name := "give", desc := "(JI)Z" } : Jvm.MethodName)) ∈ gw := gw_in2 220 rfl rfl
theorem w_461 : (Jvm.Cond.code ({ cls := "MapLumpsModel", name := "give", desc := "(JI)Z" } : Jvm.MethodName) prog_7_method_3_code (5 : Nat) (Option.some Jvm.ClassFile.FieldType.boolean)) ∈ gw := gw_in2 221 rfl rfl
theorem w_462 : (Jvm.Cond.methodLink "MapLumpsLaw" (24 : Nat) ({ cls := "MapLumpsModel", name := "cut", desc := "(I)Z" } : Jvm.MethodName)) ∈ gw := gw_in2 222 rfl rfl
theorem w_463 : (Jvm.Cond.instanceMethod ({ cls := "MapLumpsModel", name := "cut", desc := "(I)Z" } : Jvm.MethodName)) ∈ gw := gw_in2 223 rfl rfl
theorem w_464 : (Jvm.Cond.selects "MapLumpsModel" ({ cls := "MapLumpsModel", name := "cut", desc := "(I)Z" } : Jvm.MethodName) ({ cls := "MapLumpsModel", name := "cut", desc := "(I)Z" } : Jvm.MethodName)) ∈ gw := gw_in2 224 rfl rfl
theorem w_465 : (Jvm.Cond.code ({ cls := "MapLumpsModel", name := "cut", desc := "(I)Z" } : Jvm.MethodName) prog_7_method_4_code (2 : Nat) (Option.some Jvm.ClassFile.FieldType.boolean)) ∈ gw := gw_in2 225 rfl rfl
theorem w_466 : (Jvm.Cond.methodLink "MapLumpsLaw" (29 : Nat) ({ cls := "MapLumpsModel", name := "poke", desc := "(II)Z" } : Jvm.MethodName)) ∈ gw := gw_in2 226 rfl rfl
theorem w_467 : (Jvm.Cond.instanceMethod ({ cls := "MapLumpsModel", name := "poke", desc := "(II)Z" } : Jvm.MethodName)) ∈ gw := gw_in2 227 rfl rfl
theorem w_468 : (Jvm.Cond.selects "MapLumpsModel" ({ cls := "MapLumpsModel", name := "poke", desc := "(II)Z" } : Jvm.MethodName) ({ cls := "MapLumpsModel", name := "poke", desc := "(II)Z" } : Jvm.MethodName)) ∈ gw := gw_in2 228 rfl rfl
theorem w_469 : (Jvm.Cond.code ({ cls := "MapLumpsModel", name := "poke", desc := "(II)Z" } : Jvm.MethodName) prog_7_method_5_code (3 : Nat) (Option.some Jvm.ClassFile.FieldType.boolean)) ∈ gw := gw_in2 229 rfl rfl
theorem w_470 : (Jvm.Cond.methodLink "MapLumpsLaw" (43 : Nat) ({ cls := "MapLumpsModel", name := "check", desc := "()Z" } : Jvm.MethodName)) ∈ gw := gw_in2 230 rfl rfl
theorem w_471 : (Jvm.Cond.instanceMethod ({ cls := "MapLumpsModel", name := "check", desc := "()Z" } : Jvm.MethodName)) ∈ gw := gw_in2 231 rfl rfl
theorem w_472 : (Jvm.Cond.selects "MapLumpsModel" ({ cls := "MapLumpsModel", name := "check", desc := "()Z" } : Jvm.MethodName) ({ cls := "MapLumpsModel", name := "check", desc := "()Z" } : Jvm.MethodName)) ∈ gw := gw_in2 232 rfl rfl
theorem w_473 : (Jvm.Cond.code ({ cls := "MapLumpsModel", name := "check", desc := "()Z" } : Jvm.MethodName) prog_7_method_6_code (2 : Nat) (Option.some Jvm.ClassFile.FieldType.boolean)) ∈ gw := gw_in2 233 rfl rfl
theorem w_474 : (Jvm.Cond.methodLink "MapLumpsModel" (38 : Nat) ({ cls := "MapLumpsModel", name := "add", desc := "(I)V" } : Jvm.MethodName)) ∈ gw := gw_in2 234 rfl rfl
theorem w_476 : (Jvm.Cond.instanceMethod ({ cls := "MapLumpsModel", name := "add", desc := "(I)V" } : Jvm.MethodName)) ∈ gw := gw_in2 236 rfl rfl
theorem w_477 : (Jvm.Cond.code ({ cls := "MapLumpsModel", name := "add", desc := "(I)V" } : Jvm.MethodName) prog_7_method_8_code (2 : Nat) (Option.none : Option Jvm.ClassFile.FieldType)) ∈ gw := gw_in2 237 rfl rfl
theorem w_478 : (Jvm.Cond.methodLink "MapLumpsLaw" (34 : Nat) ({ cls := "MapLumpsModel", name := "read", desc := "()I" } : Jvm.MethodName)) ∈ gw := gw_in2 238 rfl rfl
theorem w_479 : (Jvm.Cond.instanceMethod ({ cls := "MapLumpsModel", name := "read", desc := "()I" } : Jvm.MethodName)) ∈ gw := gw_in2 239 rfl rfl
theorem w_480 : (Jvm.Cond.selects "MapLumpsModel" ({ cls := "MapLumpsModel", name := "read", desc := "()I" } : Jvm.MethodName) ({ cls := "MapLumpsModel", name := "read", desc := "()I" } : Jvm.MethodName)) ∈ gw := gw_in3 0 rfl rfl
theorem w_481 : (Jvm.Cond.code ({ cls := "MapLumpsModel", name := "read", desc := "()I" } : Jvm.MethodName) prog_7_method_24_code (2 : Nat) (Option.some Jvm.ClassFile.FieldType.int)) ∈ gw := gw_in3 1 rfl rfl
theorem w_482 : (Jvm.Cond.methodLink "MapLumpsModel" (101 : Nat) ({ cls := "MapLumpsModel", name := "readAll", desc := "()V" } : Jvm.MethodName)) ∈ gw := gw_in3 2 rfl rfl
theorem w_484 : (Jvm.Cond.instanceMethod ({ cls := "MapLumpsModel", name := "readAll", desc := "()V" } : Jvm.MethodName)) ∈ gw := gw_in3 4 rfl rfl
theorem w_485 : (Jvm.Cond.code ({ cls := "MapLumpsModel", name := "readAll", desc := "()V" } : Jvm.MethodName) prog_7_method_17_code (14 : Nat) (Option.none : Option Jvm.ClassFile.FieldType)) ∈ gw := gw_in3 5 rfl rfl
theorem w_486 : (Jvm.Cond.methodLink "MapLumpsModel" (52 : Nat) ({ cls := "MapLumpsModel", name := "next", desc := "(II)I" } : Jvm.MethodName)) ∈ gw := gw_in3 6 rfl rfl
theorem w_488 : (Jvm.Cond.instanceMethod ({ cls := "MapLumpsModel", name := "next", desc := "(II)I" } : Jvm.MethodName)) ∈ gw := gw_in3 8 rfl rfl
theorem w_489 : (Jvm.Cond.code ({ cls := "MapLumpsModel", name := "next", desc := "(II)I" } : Jvm.MethodName) prog_7_method_9_code (4 : Nat) (Option.some Jvm.ClassFile.FieldType.int)) ∈ gw := gw_in3 9 rfl rfl
theorem w_490 : (Jvm.Cond.methodLink "MapLumpsModel" (48 : Nat) ({ cls := "MapLumpsModel", name := "wrong", desc := "(II)V" } : Jvm.MethodName)) ∈ gw := gw_in3 10 rfl rfl
theorem w_492 : (Jvm.Cond.instanceMethod ({ cls := "MapLumpsModel", name := "wrong", desc := "(II)V" } : Jvm.MethodName)) ∈ gw := gw_in3 12 rfl rfl
theorem w_493 : (Jvm.Cond.code ({ cls := "MapLumpsModel", name := "wrong", desc := "(II)V" } : Jvm.MethodName) prog_7_method_7_code (3 : Nat) (Option.none : Option Jvm.ClassFile.FieldType)) ∈ gw := gw_in3 13 rfl rfl
theorem w_494 : (Jvm.Cond.methodLink "MapLumpsModel" (68 : Nat) ({ cls := "MapLumpsModel", name := "readVertex", desc := "(I)V" } : Jvm.MethodName)) ∈ gw := gw_in3 14 rfl rfl
theorem w_496 : (Jvm.Cond.instanceMethod ({ cls := "MapLumpsModel", name := "readVertex", desc := "(I)V" } : Jvm.MethodName)) ∈ gw := gw_in3 16 rfl rfl
theorem w_497 : (Jvm.Cond.code ({ cls := "MapLumpsModel", name := "readVertex", desc := "(I)V" } : Jvm.MethodName) prog_7_method_13_code (6 : Nat) (Option.none : Option Jvm.ClassFile.FieldType)) ∈ gw := gw_in3 17 rfl rfl
theorem w_498 : (Jvm.Cond.methodLink "MapLumpsModel" (57 : Nat) ({ cls := "MapLumpsModel", name := "nextTwo", desc := "(II)I" } : Jvm.MethodName)) ∈ gw := gw_in3 18 rfl rfl
theorem w_500 : (Jvm.Cond.instanceMethod ({ cls := "MapLumpsModel", name := "nextTwo", desc := "(II)I" } : Jvm.MethodName)) ∈ gw := gw_in3 20 rfl rfl
theorem w_501 : (Jvm.Cond.code ({ cls := "MapLumpsModel", name := "nextTwo", desc := "(II)I" } : Jvm.MethodName) prog_7_method_11_code (5 : Nat) (Option.some Jvm.ClassFile.FieldType.int)) ∈ gw := gw_in3 21 rfl rfl
theorem w_502 : (Jvm.Cond.constant "MapLumpsModel" (56 : Nat) (65536 : Int32)) ∈ gw := gw_in3 22 rfl rfl
theorem w_503 : (Jvm.Cond.methodLink "MapLumpsModel" (60 : Nat) ({ cls := "MapLumpsModel", name := "pair", desc := "([BI)I" } : Jvm.MethodName)) ∈ gw := gw_in3 23 rfl rfl
theorem w_504 : (Jvm.Cond.static ({ cls := "MapLumpsModel", name := "pair", desc := "([BI)I" } : Jvm.MethodName)) ∈ gw := gw_in3 24 rfl rfl
theorem w_505 : (Jvm.Cond.code ({ cls := "MapLumpsModel", name := "pair", desc := "([BI)I" } : Jvm.MethodName) prog_7_method_12_code (3 : Nat) (Option.some Jvm.ClassFile.FieldType.int)) ∈ gw := gw_in3 25 rfl rfl
theorem w_506 : (Jvm.Cond.methodLink "MapLumpsModel" (71 : Nat) ({ cls := "MapLumpsModel", name := "readTexture", desc := "()V" } : Jvm.MethodName)) ∈ gw := gw_in3 26 rfl rfl
theorem w_508 : (Jvm.Cond.instanceMethod ({ cls := "MapLumpsModel", name := "readTexture", desc := "()V" } : Jvm.MethodName)) ∈ gw := gw_in3 28 rfl rfl
theorem w_509 : (Jvm.Cond.code ({ cls := "MapLumpsModel", name := "readTexture", desc := "()V" } : Jvm.MethodName) prog_7_method_14_code (5 : Nat) (Option.none : Option Jvm.ClassFile.FieldType)) ∈ gw := gw_in3 29 rfl rfl
theorem w_510 : (Jvm.Cond.methodLink "MapLumpsModel" (74 : Nat) ({ cls := "MapLumpsModel", name := "readSector", desc := "(I)V" } : Jvm.MethodName)) ∈ gw := gw_in3 30 rfl rfl
theorem w_512 : (Jvm.Cond.instanceMethod ({ cls := "MapLumpsModel", name := "readSector", desc := "(I)V" } : Jvm.MethodName)) ∈ gw := gw_in3 32 rfl rfl
theorem w_513 : (Jvm.Cond.code ({ cls := "MapLumpsModel", name := "readSector", desc := "(I)V" } : Jvm.MethodName) prog_7_method_15_code (10 : Nat) (Option.none : Option Jvm.ClassFile.FieldType)) ∈ gw := gw_in3 33 rfl rfl
theorem w_514 : (Jvm.Cond.methodLink "MapLumpsModel" (64 : Nat) ({ cls := "MapLumpsModel", name := "nextOr", desc := "(I)I" } : Jvm.MethodName)) ∈ gw := gw_in3 34 rfl rfl
theorem w_516 : (Jvm.Cond.instanceMethod ({ cls := "MapLumpsModel", name := "nextOr", desc := "(I)I" } : Jvm.MethodName)) ∈ gw := gw_in3 36 rfl rfl
theorem w_517 : (Jvm.Cond.code ({ cls := "MapLumpsModel", name := "nextOr", desc := "(I)I" } : Jvm.MethodName) prog_7_method_10_code (3 : Nat) (Option.some Jvm.ClassFile.FieldType.int)) ∈ gw := gw_in3 37 rfl rfl
theorem w_518 : (Jvm.Cond.methodLink "MapLumpsModel" (77 : Nat) ({ cls := "MapLumpsModel", name := "readWall", desc := "(III)V" } : Jvm.MethodName)) ∈ gw := gw_in3 38 rfl rfl
theorem w_520 : (Jvm.Cond.instanceMethod ({ cls := "MapLumpsModel", name := "readWall", desc := "(III)V" } : Jvm.MethodName)) ∈ gw := gw_in3 40 rfl rfl
theorem w_521 : (Jvm.Cond.code ({ cls := "MapLumpsModel", name := "readWall", desc := "(III)V" } : Jvm.MethodName) prog_7_method_16_code (12 : Nat) (Option.none : Option Jvm.ClassFile.FieldType)) ∈ gw := gw_in3 41 rfl rfl
theorem w_522 : (Jvm.Cond.methodLink "MapLumpsModel" (81 : Nat) ({ cls := "MapLumpsModel", name := "readCheck", desc := "(I)V" } : Jvm.MethodName)) ∈ gw := gw_in3 42 rfl rfl
theorem w_524 : (Jvm.Cond.instanceMethod ({ cls := "MapLumpsModel", name := "readCheck", desc := "(I)V" } : Jvm.MethodName)) ∈ gw := gw_in3 44 rfl rfl
theorem w_525 : (Jvm.Cond.code ({ cls := "MapLumpsModel", name := "readCheck", desc := "(I)V" } : Jvm.MethodName) prog_7_method_18_code (4 : Nat) (Option.none : Option Jvm.ClassFile.FieldType)) ∈ gw := gw_in3 45 rfl rfl
theorem w_526 : (Jvm.Cond.methodLink "MapLumpsModel" (84 : Nat) ({ cls := "MapLumpsModel", name := "touch", desc := "(II)Z" } : Jvm.MethodName)) ∈ gw := gw_in3 46 rfl rfl
theorem w_528 : (Jvm.Cond.instanceMethod ({ cls := "MapLumpsModel", name := "touch", desc := "(II)Z" } : Jvm.MethodName)) ∈ gw := gw_in3 48 rfl rfl
theorem w_529 : (Jvm.Cond.code ({ cls := "MapLumpsModel", name := "touch", desc := "(II)Z" } : Jvm.MethodName) prog_7_method_23_code (9 : Nat) (Option.some Jvm.ClassFile.FieldType.boolean)) ∈ gw := gw_in3 49 rfl rfl
theorem w_530 : (Jvm.Cond.methodLink "MapLumpsModel" (88 : Nat) ({ cls := "MapLumpsModel", name := "vertexOf", desc := "(II)I" } : Jvm.MethodName)) ∈ gw := gw_in3 50 rfl rfl
theorem w_532 : (Jvm.Cond.instanceMethod ({ cls := "MapLumpsModel", name := "vertexOf", desc := "(II)I" } : Jvm.MethodName)) ∈ gw := gw_in3 52 rfl rfl
theorem w_533 : (Jvm.Cond.code ({ cls := "MapLumpsModel", name := "vertexOf", desc := "(II)I" } : Jvm.MethodName) prog_7_method_19_code (3 : Nat) (Option.some Jvm.ClassFile.FieldType.int)) ∈ gw := gw_in3 53 rfl rfl
theorem w_534 : (Jvm.Cond.methodLink "MapLumpsModel" (95 : Nat) ({ cls := "MapLumpsModel", name := "side", desc := "(II)I" } : Jvm.MethodName)) ∈ gw := gw_in3 54 rfl rfl
theorem w_536 : (Jvm.Cond.instanceMethod ({ cls := "MapLumpsModel", name := "side", desc := "(II)I" } : Jvm.MethodName)) ∈ gw := gw_in3 56 rfl rfl
theorem w_537 : (Jvm.Cond.code ({ cls := "MapLumpsModel", name := "side", desc := "(II)I" } : Jvm.MethodName) prog_7_method_21_code (13 : Nat) (Option.some Jvm.ClassFile.FieldType.int)) ∈ gw := gw_in3 57 rfl rfl
theorem w_538 : (Jvm.Cond.methodLink "MapLumpsModel" (91 : Nat) ({ cls := "MapLumpsModel", name := "cross", desc := "(JJJJ)J" } : Jvm.MethodName)) ∈ gw := gw_in3 58 rfl rfl
theorem w_539 : (Jvm.Cond.static ({ cls := "MapLumpsModel", name := "cross", desc := "(JJJJ)J" } : Jvm.MethodName)) ∈ gw := gw_in3 59 rfl rfl
theorem w_540 : (Jvm.Cond.code ({ cls := "MapLumpsModel", name := "cross", desc := "(JJJJ)J" } : Jvm.MethodName) prog_7_method_20_code (8 : Nat) (Option.some Jvm.ClassFile.FieldType.long)) ∈ gw := gw_in3 60 rfl rfl
theorem w_541 : (Jvm.Cond.methodLink "MapLumpsModel" (98 : Nat) ({ cls := "MapLumpsModel", name := "lies", desc := "(II)Z" } : Jvm.MethodName)) ∈ gw := gw_in3 61 rfl rfl
theorem w_543 : (Jvm.Cond.instanceMethod ({ cls := "MapLumpsModel", name := "lies", desc := "(II)Z" } : Jvm.MethodName)) ∈ gw := gw_in3 63 rfl rfl
theorem w_544 : (Jvm.Cond.code ({ cls := "MapLumpsModel", name := "lies", desc := "(II)Z" } : Jvm.MethodName) prog_7_method_22_code (11 : Nat) (Option.some Jvm.ClassFile.FieldType.boolean)) ∈ gw := gw_in3 64 rfl rfl
theorem w_545 : (Jvm.Cond.methodLink "MapLumpsLaw" (38 : Nat) ({ cls := "MapLumpsModel", name := "write", desc := "()I" } : Jvm.MethodName)) ∈ gw := gw_in3 65 rfl rfl
theorem w_546 : (Jvm.Cond.instanceMethod ({ cls := "MapLumpsModel", name := "write", desc := "()I" } : Jvm.MethodName)) ∈ gw := gw_in3 66 rfl rfl
theorem w_547 : (Jvm.Cond.selects "MapLumpsModel" ({ cls := "MapLumpsModel", name := "write", desc := "()I" } : Jvm.MethodName) ({ cls := "MapLumpsModel", name := "write", desc := "()I" } : Jvm.MethodName)) ∈ gw := gw_in3 67 rfl rfl
theorem w_548 : (Jvm.Cond.code ({ cls := "MapLumpsModel", name := "write", desc := "()I" } : Jvm.MethodName) prog_7_method_25_code (2 : Nat) (Option.some Jvm.ClassFile.FieldType.int)) ∈ gw := gw_in3 68 rfl rfl
theorem w_549 : (Jvm.Cond.methodLink "MapLumpsLaw" (48 : Nat) ({ cls := "MapLumpsModel", name := "byteAt", desc := "(IZ)I" } : Jvm.MethodName)) ∈ gw := gw_in3 69 rfl rfl
theorem w_550 : (Jvm.Cond.instanceMethod ({ cls := "MapLumpsModel", name := "byteAt", desc := "(IZ)I" } : Jvm.MethodName)) ∈ gw := gw_in3 70 rfl rfl
theorem w_551 : (Jvm.Cond.selects "MapLumpsModel" ({ cls := "MapLumpsModel", name := "byteAt", desc := "(IZ)I" } : Jvm.MethodName) ({ cls := "MapLumpsModel", name := "byteAt", desc := "(IZ)I" } : Jvm.MethodName)) ∈ gw := gw_in3 71 rfl rfl
theorem w_552 : (Jvm.Cond.code ({ cls := "MapLumpsModel", name := "byteAt", desc := "(IZ)I" } : Jvm.MethodName) prog_7_method_26_code (3 : Nat) (Option.some Jvm.ClassFile.FieldType.int)) ∈ gw := gw_in3 72 rfl rfl
theorem w_553 : (Jvm.Cond.methodLink "MapLumpsLaw" (52 : Nat) ({ cls := "MapLumpsModel", name := "vertex", desc := "(IZ)I" } : Jvm.MethodName)) ∈ gw := gw_in3 73 rfl rfl
theorem w_554 : (Jvm.Cond.instanceMethod ({ cls := "MapLumpsModel", name := "vertex", desc := "(IZ)I" } : Jvm.MethodName)) ∈ gw := gw_in3 74 rfl rfl
theorem w_555 : (Jvm.Cond.selects "MapLumpsModel" ({ cls := "MapLumpsModel", name := "vertex", desc := "(IZ)I" } : Jvm.MethodName) ({ cls := "MapLumpsModel", name := "vertex", desc := "(IZ)I" } : Jvm.MethodName)) ∈ gw := gw_in3 75 rfl rfl
theorem w_556 : (Jvm.Cond.code ({ cls := "MapLumpsModel", name := "vertex", desc := "(IZ)I" } : Jvm.MethodName) prog_7_method_32_code (3 : Nat) (Option.some Jvm.ClassFile.FieldType.int)) ∈ gw := gw_in3 76 rfl rfl
theorem w_557 : (Jvm.Cond.methodLink "MapLumpsModel" (119 : Nat) ({ cls := "MapLumpsModel", name := "has", desc := "(II)Z" } : Jvm.MethodName)) ∈ gw := gw_in3 77 rfl rfl
theorem w_559 : (Jvm.Cond.instanceMethod ({ cls := "MapLumpsModel", name := "has", desc := "(II)Z" } : Jvm.MethodName)) ∈ gw := gw_in3 79 rfl rfl
theorem w_560 : (Jvm.Cond.code ({ cls := "MapLumpsModel", name := "has", desc := "(II)Z" } : Jvm.MethodName) prog_7_method_31_code (3 : Nat) (Option.some Jvm.ClassFile.FieldType.boolean)) ∈ gw := gw_in3 80 rfl rfl
theorem w_561 : (Jvm.Cond.methodLink "MapLumpsModel" (110 : Nat) ({ cls := "MapLumpsModel", name := "many", desc := "(I)I" } : Jvm.MethodName)) ∈ gw := gw_in3 81 rfl rfl
theorem w_563 : (Jvm.Cond.instanceMethod ({ cls := "MapLumpsModel", name := "many", desc := "(I)I" } : Jvm.MethodName)) ∈ gw := gw_in3 83 rfl rfl
theorem w_564 : (Jvm.Cond.code ({ cls := "MapLumpsModel", name := "many", desc := "(I)I" } : Jvm.MethodName) prog_7_method_27_code (2 : Nat) (Option.some Jvm.ClassFile.FieldType.int)) ∈ gw := gw_in3 84 rfl rfl
theorem w_565 : (Jvm.Cond.constant "MapLumpsModel" (122 : Nat) (100000 : Int32)) ∈ gw := gw_in3 85 rfl rfl
theorem w_566 : (Jvm.Cond.methodLink "MapLumpsLaw" (57 : Nat) ({ cls := "MapLumpsModel", name := "texture", desc := "(II)I" } : Jvm.MethodName)) ∈ gw := gw_in3 86 rfl rfl
theorem w_567 : (Jvm.Cond.instanceMethod ({ cls := "MapLumpsModel", name := "texture", desc := "(II)I" } : Jvm.MethodName)) ∈ gw := gw_in3 87 rfl rfl
theorem w_568 : (Jvm.Cond.selects "MapLumpsModel" ({ cls := "MapLumpsModel", name := "texture", desc := "(II)I" } : Jvm.MethodName) ({ cls := "MapLumpsModel", name := "texture", desc := "(II)I" } : Jvm.MethodName)) ∈ gw := gw_in3 88 rfl rfl
theorem w_569 : (Jvm.Cond.code ({ cls := "MapLumpsModel", name := "texture", desc := "(II)I" } : Jvm.MethodName) prog_7_method_33_code (8 : Nat) (Option.some Jvm.ClassFile.FieldType.int)) ∈ gw := gw_in3 89 rfl rfl
theorem w_570 : (Jvm.Cond.methodLink "MapLumpsModel" (113 : Nat) ({ cls := "MapLumpsModel", name := "textureAt", desc := "(I)I" } : Jvm.MethodName)) ∈ gw := gw_in3 90 rfl rfl
theorem w_572 : (Jvm.Cond.instanceMethod ({ cls := "MapLumpsModel", name := "textureAt", desc := "(I)I" } : Jvm.MethodName)) ∈ gw := gw_in3 92 rfl rfl
theorem w_573 : (Jvm.Cond.code ({ cls := "MapLumpsModel", name := "textureAt", desc := "(I)I" } : Jvm.MethodName) prog_7_method_28_code (4 : Nat) (Option.some Jvm.ClassFile.FieldType.int)) ∈ gw := gw_in3 93 rfl rfl
theorem w_574 : (Jvm.Cond.methodLink "MapLumpsLaw" (61 : Nat) ({ cls := "MapLumpsModel", name := "sector", desc := "(II)I" } : Jvm.MethodName)) ∈ gw := gw_in3 94 rfl rfl
theorem w_575 : (Jvm.Cond.instanceMethod ({ cls := "MapLumpsModel", name := "sector", desc := "(II)I" } : Jvm.MethodName)) ∈ gw := gw_in3 95 rfl rfl
theorem w_576 : (Jvm.Cond.selects "MapLumpsModel" ({ cls := "MapLumpsModel", name := "sector", desc := "(II)I" } : Jvm.MethodName) ({ cls := "MapLumpsModel", name := "sector", desc := "(II)I" } : Jvm.MethodName)) ∈ gw := gw_in3 96 rfl rfl
theorem w_577 : (Jvm.Cond.code ({ cls := "MapLumpsModel", name := "sector", desc := "(II)I" } : Jvm.MethodName) prog_7_method_34_code (4 : Nat) (Option.some Jvm.ClassFile.FieldType.int)) ∈ gw := gw_in3 97 rfl rfl
theorem w_578 : (Jvm.Cond.methodLink "MapLumpsModel" (116 : Nat) ({ cls := "MapLumpsModel", name := "sectorAt", desc := "(I)I" } : Jvm.MethodName)) ∈ gw := gw_in3 98 rfl rfl
theorem w_580 : (Jvm.Cond.instanceMethod ({ cls := "MapLumpsModel", name := "sectorAt", desc := "(I)I" } : Jvm.MethodName)) ∈ gw := gw_in3 100 rfl rfl
theorem w_581 : (Jvm.Cond.code ({ cls := "MapLumpsModel", name := "sectorAt", desc := "(I)I" } : Jvm.MethodName) prog_7_method_29_code (2 : Nat) (Option.some Jvm.ClassFile.FieldType.int)) ∈ gw := gw_in3 101 rfl rfl
theorem w_582 : (Jvm.Cond.methodLink "MapLumpsLaw" (65 : Nat) ({ cls := "MapLumpsModel", name := "wall", desc := "(II)I" } : Jvm.MethodName)) ∈ gw := gw_in3 102 rfl rfl
theorem w_583 : (Jvm.Cond.instanceMethod ({ cls := "MapLumpsModel", name := "wall", desc := "(II)I" } : Jvm.MethodName)) ∈ gw := gw_in3 103 rfl rfl
theorem w_584 : (Jvm.Cond.selects "MapLumpsModel" ({ cls := "MapLumpsModel", name := "wall", desc := "(II)I" } : Jvm.MethodName) ({ cls := "MapLumpsModel", name := "wall", desc := "(II)I" } : Jvm.MethodName)) ∈ gw := gw_in3 104 rfl rfl
theorem w_585 : (Jvm.Cond.code ({ cls := "MapLumpsModel", name := "wall", desc := "(II)I" } : Jvm.MethodName) prog_7_method_35_code (4 : Nat) (Option.some Jvm.ClassFile.FieldType.int)) ∈ gw := gw_in3 105 rfl rfl
theorem w_586 : (Jvm.Cond.methodLink "MapLumpsModel" (123 : Nat) ({ cls := "MapLumpsModel", name := "wallAt", desc := "(I)I" } : Jvm.MethodName)) ∈ gw := gw_in3 106 rfl rfl
theorem w_588 : (Jvm.Cond.instanceMethod ({ cls := "MapLumpsModel", name := "wallAt", desc := "(I)I" } : Jvm.MethodName)) ∈ gw := gw_in3 108 rfl rfl
theorem w_589 : (Jvm.Cond.code ({ cls := "MapLumpsModel", name := "wallAt", desc := "(I)I" } : Jvm.MethodName) prog_7_method_30_code (2 : Nat) (Option.some Jvm.ClassFile.FieldType.int)) ∈ gw := gw_in3 109 rfl rfl
theorem w_590 : (Jvm.Cond.methodLink "MapLumpsLaw" (70 : Nat) ({ cls := "MapLumpsModel", name := "start", desc := "(I)I" } : Jvm.MethodName)) ∈ gw := gw_in3 110 rfl rfl
theorem w_591 : (Jvm.Cond.instanceMethod ({ cls := "MapLumpsModel", name := "start", desc := "(I)I" } : Jvm.MethodName)) ∈ gw := gw_in3 111 rfl rfl
theorem w_592 : (Jvm.Cond.selects "MapLumpsModel" ({ cls := "MapLumpsModel", name := "start", desc := "(I)I" } : Jvm.MethodName) ({ cls := "MapLumpsModel", name := "start", desc := "(I)I" } : Jvm.MethodName)) ∈ gw := gw_in3 112 rfl rfl
theorem w_593 : (Jvm.Cond.code ({ cls := "MapLumpsModel", name := "start", desc := "(I)I" } : Jvm.MethodName) prog_7_method_36_code (3 : Nat) (Option.some Jvm.ClassFile.FieldType.int)) ∈ gw := gw_in3 113 rfl rfl
theorem w_594 : (Jvm.Cond.methodLink "MapLumpsLaw" (74 : Nat) ({ cls := "MapLumpsModel", name := "look", desc := "(I)I" } : Jvm.MethodName)) ∈ gw := gw_in3 114 rfl rfl
theorem w_595 : (Jvm.Cond.instanceMethod ({ cls := "MapLumpsModel", name := "look", desc := "(I)I" } : Jvm.MethodName)) ∈ gw := gw_in3 115 rfl rfl
theorem w_596 : (Jvm.Cond.selects "MapLumpsModel" ({ cls := "MapLumpsModel", name := "look", desc := "(I)I" } : Jvm.MethodName) ({ cls := "MapLumpsModel", name := "look", desc := "(I)I" } : Jvm.MethodName)) ∈ gw := gw_in3 116 rfl rfl
theorem w_597 : (Jvm.Cond.code ({ cls := "MapLumpsModel", name := "look", desc := "(I)I" } : Jvm.MethodName) prog_7_method_37_code (2 : Nat) (Option.some Jvm.ClassFile.FieldType.int)) ∈ gw := gw_in3 117 rfl rfl
theorem w_598 : (Jvm.Cond.constantLong "MapLumpsLaw" (13 : Nat) (4294967295 : Int64)) ∈ gw := gw_in3 118 rfl rfl
end
section
theorem d_Lu_init_0 : decode b_Lu_init 0 = .ok (.aload_n 0, 1) := by decide +kernel
theorem d_Lu_init_1 : decode b_Lu_init 1 = .ok (.invokespecial 1, 3) := by decide +kernel
theorem d_Lu_init_4 : decode b_Lu_init 4 = .ok (.aload_n 0, 1) := by decide +kernel
theorem d_Lu_init_5 : decode b_Lu_init 5 = .ok (.new 7, 3) := by decide +kernel
theorem d_Lu_init_8 : decode b_Lu_init 8 = .ok (.dup, 1) := by decide +kernel
theorem d_Lu_init_9 : decode b_Lu_init 9 = .ok (.invokespecial 9, 3) := by decide +kernel
theorem d_Lu_init_12 : decode b_Lu_init 12 = .ok (.putfield 10, 3) := by decide +kernel
theorem d_Lu_init_15 : decode b_Lu_init 15 = .ok (.aload_n 0, 1) := by decide +kernel
theorem d_Lu_init_16 : decode b_Lu_init 16 = .ok (.aload_n 0, 1) := by decide +kernel
theorem d_Lu_init_17 : decode b_Lu_init 17 = .ok (.getfield 10, 3) := by decide +kernel
theorem d_Lu_init_20 : decode b_Lu_init 20 = .ok (.getfield 16, 3) := by decide +kernel
theorem d_Lu_init_23 : decode b_Lu_init 23 = .ok (.putfield 20, 3) := by decide +kernel
theorem d_Lu_init_26 : decode b_Lu_init 26 = .ok (.aload_n 0, 1) := by decide +kernel
theorem d_Lu_init_27 : decode b_Lu_init 27 = .ok (.new 23, 3) := by decide +kernel
theorem d_Lu_init_30 : decode b_Lu_init 30 = .ok (.dup, 1) := by decide +kernel
theorem d_Lu_init_31 : decode b_Lu_init 31 = .ok (.invokespecial 25, 3) := by decide +kernel
theorem d_Lu_init_34 : decode b_Lu_init 34 = .ok (.putfield 26, 3) := by decide +kernel
theorem d_Lu_init_37 : decode b_Lu_init 37 = .ok (.aload_n 0, 1) := by decide +kernel
theorem d_Lu_init_38 : decode b_Lu_init 38 = .ok (.new 29, 3) := by decide +kernel
theorem d_Lu_init_41 : decode b_Lu_init 41 = .ok (.dup, 1) := by decide +kernel
theorem d_Lu_init_42 : decode b_Lu_init 42 = .ok (.invokespecial 31, 3) := by decide +kernel
theorem d_Lu_init_45 : decode b_Lu_init 45 = .ok (.putfield 32, 3) := by decide +kernel
theorem d_Lu_init_48 : decode b_Lu_init 48 = .ok (.return_, 1) := by decide +kernel
theorem d_Lu_give_0 : decode b_Lu_give 0 = .ok (.iload_n 3, 1) := by decide +kernel
theorem d_Lu_give_1 : decode b_Lu_give 1 = .ok (.iconst 1, 1) := by decide +kernel
theorem d_Lu_give_2 : decode b_Lu_give 2 = .ok (.if_icmp .lt 20, 3) := by decide +kernel
theorem d_Lu_give_5 : decode b_Lu_give 5 = .ok (.iload_n 3, 1) := by decide +kernel
theorem d_Lu_give_6 : decode b_Lu_give 6 = .ok (.bipush 8, 2) := by decide +kernel
theorem d_Lu_give_8 : decode b_Lu_give 8 = .ok (.if_icmp .gt 14, 3) := by decide +kernel
theorem d_Lu_give_11 : decode b_Lu_give 11 = .ok (.iload_n 3, 1) := by decide +kernel
theorem d_Lu_give_12 : decode b_Lu_give 12 = .ok (.aload_n 0, 1) := by decide +kernel
theorem d_Lu_give_13 : decode b_Lu_give 13 = .ok (.getfield 20, 3) := by decide +kernel
theorem d_Lu_give_16 : decode b_Lu_give 16 = .ok (.invokevirtual 36, 3) := by decide +kernel
theorem d_Lu_give_19 : decode b_Lu_give 19 = .ok (.if_icmp .le 5, 3) := by decide +kernel
theorem d_Lu_give_22 : decode b_Lu_give 22 = .ok (.iconst 0, 1) := by decide +kernel
theorem d_Lu_give_23 : decode b_Lu_give 23 = .ok (.ireturn, 1) := by decide +kernel
theorem d_Lu_give_24 : decode b_Lu_give 24 = .ok (.iload_n 3, 1) := by decide +kernel
theorem d_Lu_give_25 : decode b_Lu_give 25 = .ok (.iconst 1, 1) := by decide +kernel
theorem d_Lu_give_26 : decode b_Lu_give 26 = .ok (.isub, 1) := by decide +kernel
theorem d_Lu_give_27 : decode b_Lu_give 27 = .ok (.istore 4, 2) := by decide +kernel
theorem d_Lu_give_29 : decode b_Lu_give 29 = .ok (.iload 4, 2) := by decide +kernel
theorem d_Lu_give_31 : decode b_Lu_give 31 = .ok (.ifCond .lt 24, 3) := by decide +kernel
theorem d_Lu_give_34 : decode b_Lu_give 34 = .ok (.aload_n 0, 1) := by decide +kernel
theorem d_Lu_give_35 : decode b_Lu_give 35 = .ok (.getfield 20, 3) := by decide +kernel
theorem d_Lu_give_38 : decode b_Lu_give 38 = .ok (.lload_n 1, 1) := by decide +kernel
theorem d_Lu_give_39 : decode b_Lu_give 39 = .ok (.bipush 8, 2) := by decide +kernel
theorem d_Lu_give_41 : decode b_Lu_give 41 = .ok (.iload 4, 2) := by decide +kernel
theorem d_Lu_give_43 : decode b_Lu_give 43 = .ok (.imul, 1) := by decide +kernel
theorem d_Lu_give_44 : decode b_Lu_give 44 = .ok (.lushr, 1) := by decide +kernel
theorem d_Lu_give_45 : decode b_Lu_give 45 = .ok (.l2i, 1) := by decide +kernel
theorem d_Lu_give_46 : decode b_Lu_give 46 = .ok (.invokevirtual 40, 3) := by decide +kernel
theorem d_Lu_give_49 : decode b_Lu_give 49 = .ok (.iinc 4 (-1), 3) := by decide +kernel
theorem d_Lu_give_52 : decode b_Lu_give 52 = .ok (.goto (-23), 3) := by decide +kernel
theorem d_Lu_give_55 : decode b_Lu_give 55 = .ok (.iconst 1, 1) := by decide +kernel
theorem d_Lu_give_56 : decode b_Lu_give 56 = .ok (.ireturn, 1) := by decide +kernel
theorem d_Lu_cut_0 : decode b_Lu_cut 0 = .ok (.aload_n 0, 1) := by decide +kernel
theorem d_Lu_cut_1 : decode b_Lu_cut 1 = .ok (.getfield 20, 3) := by decide +kernel
theorem d_Lu_cut_4 : decode b_Lu_cut 4 = .ok (.iload_n 1, 1) := by decide +kernel
theorem d_Lu_cut_5 : decode b_Lu_cut 5 = .ok (.invokevirtual 44, 3) := by decide +kernel
theorem d_Lu_cut_8 : decode b_Lu_cut 8 = .ok (.ireturn, 1) := by decide +kernel
theorem d_Lu_poke_0 : decode b_Lu_poke 0 = .ok (.aload_n 0, 1) := by decide +kernel
theorem d_Lu_poke_1 : decode b_Lu_poke 1 = .ok (.getfield 20, 3) := by decide +kernel
theorem d_Lu_poke_4 : decode b_Lu_poke 4 = .ok (.iload_n 1, 1) := by decide +kernel
theorem d_Lu_poke_5 : decode b_Lu_poke 5 = .ok (.iload_n 2, 1) := by decide +kernel
theorem d_Lu_poke_6 : decode b_Lu_poke 6 = .ok (.invokevirtual 48, 3) := by decide +kernel
theorem d_Lu_poke_9 : decode b_Lu_poke 9 = .ok (.ireturn, 1) := by decide +kernel
theorem d_Lu_read_0 : decode b_Lu_read 0 = .ok (.aload_n 0, 1) := by decide +kernel
theorem d_Lu_read_1 : decode b_Lu_read 1 = .ok (.getfield 10, 3) := by decide +kernel
theorem d_Lu_read_4 : decode b_Lu_read 4 = .ok (.invokevirtual 52, 3) := by decide +kernel
theorem d_Lu_read_7 : decode b_Lu_read 7 = .ok (.istore_n 1, 1) := by decide +kernel
theorem d_Lu_read_8 : decode b_Lu_read 8 = .ok (.iload_n 1, 1) := by decide +kernel
theorem d_Lu_read_9 : decode b_Lu_read 9 = .ok (.ifCond .ne 14, 3) := by decide +kernel
theorem d_Lu_read_12 : decode b_Lu_read 12 = .ok (.aload_n 0, 1) := by decide +kernel
theorem d_Lu_read_13 : decode b_Lu_read 13 = .ok (.getfield 32, 3) := by decide +kernel
theorem d_Lu_read_16 : decode b_Lu_read 16 = .ok (.aload_n 0, 1) := by decide +kernel
theorem d_Lu_read_17 : decode b_Lu_read 17 = .ok (.getfield 20, 3) := by decide +kernel
theorem d_Lu_read_20 : decode b_Lu_read 20 = .ok (.invokevirtual 55, 3) := by decide +kernel
theorem d_Lu_read_23 : decode b_Lu_read 23 = .ok (.iload_n 1, 1) := by decide +kernel
theorem d_Lu_read_24 : decode b_Lu_read 24 = .ok (.ireturn, 1) := by decide +kernel
theorem d_Lu_write_0 : decode b_Lu_write 0 = .ok (.aload_n 0, 1) := by decide +kernel
theorem d_Lu_write_1 : decode b_Lu_write 1 = .ok (.getfield 32, 3) := by decide +kernel
theorem d_Lu_write_4 : decode b_Lu_write 4 = .ok (.getfield 59, 3) := by decide +kernel
theorem d_Lu_write_7 : decode b_Lu_write 7 = .ok (.ifCond .ne 5, 3) := by decide +kernel
theorem d_Lu_write_10 : decode b_Lu_write 10 = .ok (.iconst (-1), 1) := by decide +kernel
theorem d_Lu_write_11 : decode b_Lu_write 11 = .ok (.ireturn, 1) := by decide +kernel
theorem d_Lu_write_12 : decode b_Lu_write 12 = .ok (.aload_n 0, 1) := by decide +kernel
theorem d_Lu_write_13 : decode b_Lu_write 13 = .ok (.getfield 26, 3) := by decide +kernel
theorem d_Lu_write_16 : decode b_Lu_write 16 = .ok (.aload_n 0, 1) := by decide +kernel
theorem d_Lu_write_17 : decode b_Lu_write 17 = .ok (.getfield 32, 3) := by decide +kernel
theorem d_Lu_write_20 : decode b_Lu_write 20 = .ok (.getfield 63, 3) := by decide +kernel
theorem d_Lu_write_23 : decode b_Lu_write 23 = .ok (.invokevirtual 66, 3) := by decide +kernel
theorem d_Lu_write_26 : decode b_Lu_write 26 = .ok (.aload_n 0, 1) := by decide +kernel
theorem d_Lu_write_27 : decode b_Lu_write 27 = .ok (.getfield 26, 3) := by decide +kernel
theorem d_Lu_write_30 : decode b_Lu_write 30 = .ok (.getfield 69, 3) := by decide +kernel
theorem d_Lu_write_33 : decode b_Lu_write 33 = .ok (.ireturn, 1) := by decide +kernel
theorem d_Lu_check_0 : decode b_Lu_check 0 = .ok (.aload_n 0, 1) := by decide +kernel
theorem d_Lu_check_1 : decode b_Lu_check 1 = .ok (.getfield 20, 3) := by decide +kernel
theorem d_Lu_check_4 : decode b_Lu_check 4 = .ok (.getfield 69, 3) := by decide +kernel
theorem d_Lu_check_7 : decode b_Lu_check 7 = .ok (.iconst 2, 1) := by decide +kernel
theorem d_Lu_check_8 : decode b_Lu_check 8 = .ok (.isub, 1) := by decide +kernel
theorem d_Lu_check_9 : decode b_Lu_check 9 = .ok (.istore_n 1, 1) := by decide +kernel
theorem d_Lu_check_10 : decode b_Lu_check 10 = .ok (.iload_n 1, 1) := by decide +kernel
theorem d_Lu_check_11 : decode b_Lu_check 11 = .ok (.ifCond .ge 5, 3) := by decide +kernel
theorem d_Lu_check_14 : decode b_Lu_check 14 = .ok (.iconst 0, 1) := by decide +kernel
theorem d_Lu_check_15 : decode b_Lu_check 15 = .ok (.ireturn, 1) := by decide +kernel
theorem d_Lu_check_16 : decode b_Lu_check 16 = .ok (.aload_n 0, 1) := by decide +kernel
theorem d_Lu_check_17 : decode b_Lu_check 17 = .ok (.getfield 20, 3) := by decide +kernel
theorem d_Lu_check_20 : decode b_Lu_check 20 = .ok (.iload_n 1, 1) := by decide +kernel
theorem d_Lu_check_21 : decode b_Lu_check 21 = .ok (.invokevirtual 73, 3) := by decide +kernel
theorem d_Lu_check_24 : decode b_Lu_check 24 = .ok (.istore_n 2, 1) := by decide +kernel
theorem d_Lu_check_25 : decode b_Lu_check 25 = .ok (.aload_n 0, 1) := by decide +kernel
theorem d_Lu_check_26 : decode b_Lu_check 26 = .ok (.getfield 20, 3) := by decide +kernel
theorem d_Lu_check_29 : decode b_Lu_check 29 = .ok (.iload_n 1, 1) := by decide +kernel
theorem d_Lu_check_30 : decode b_Lu_check 30 = .ok (.iload_n 2, 1) := by decide +kernel
theorem d_Lu_check_31 : decode b_Lu_check 31 = .ok (.bipush 8, 2) := by decide +kernel
theorem d_Lu_check_33 : decode b_Lu_check 33 = .ok (.ishr, 1) := by decide +kernel
theorem d_Lu_check_34 : decode b_Lu_check 34 = .ok (.invokevirtual 48, 3) := by decide +kernel
theorem d_Lu_check_37 : decode b_Lu_check 37 = .ok (.pop, 1) := by decide +kernel
theorem d_Lu_check_38 : decode b_Lu_check 38 = .ok (.aload_n 0, 1) := by decide +kernel
theorem d_Lu_check_39 : decode b_Lu_check 39 = .ok (.getfield 20, 3) := by decide +kernel
theorem d_Lu_check_42 : decode b_Lu_check 42 = .ok (.iload_n 1, 1) := by decide +kernel
theorem d_Lu_check_43 : decode b_Lu_check 43 = .ok (.iconst 1, 1) := by decide +kernel
theorem d_Lu_check_44 : decode b_Lu_check 44 = .ok (.iadd, 1) := by decide +kernel
theorem d_Lu_check_45 : decode b_Lu_check 45 = .ok (.iload_n 2, 1) := by decide +kernel
theorem d_Lu_check_46 : decode b_Lu_check 46 = .ok (.invokevirtual 48, 3) := by decide +kernel
theorem d_Lu_check_49 : decode b_Lu_check 49 = .ok (.pop, 1) := by decide +kernel
theorem d_Lu_check_50 : decode b_Lu_check 50 = .ok (.iconst 1, 1) := by decide +kernel
theorem d_Lu_check_51 : decode b_Lu_check 51 = .ok (.ireturn, 1) := by decide +kernel
theorem d_Lu_byteAt_0 : decode b_Lu_byteAt 0 = .ok (.iload_n 2, 1) := by decide +kernel
theorem d_Lu_byteAt_1 : decode b_Lu_byteAt 1 = .ok (.ifCond .eq 14, 3) := by decide +kernel
theorem d_Lu_byteAt_4 : decode b_Lu_byteAt 4 = .ok (.aload_n 0, 1) := by decide +kernel
theorem d_Lu_byteAt_5 : decode b_Lu_byteAt 5 = .ok (.getfield 20, 3) := by decide +kernel
theorem d_Lu_byteAt_8 : decode b_Lu_byteAt 8 = .ok (.iload_n 1, 1) := by decide +kernel
theorem d_Lu_byteAt_9 : decode b_Lu_byteAt 9 = .ok (.invokevirtual 77, 3) := by decide +kernel
theorem d_Lu_byteAt_12 : decode b_Lu_byteAt 12 = .ok (.goto 11, 3) := by decide +kernel
theorem d_Lu_byteAt_15 : decode b_Lu_byteAt 15 = .ok (.aload_n 0, 1) := by decide +kernel
theorem d_Lu_byteAt_16 : decode b_Lu_byteAt 16 = .ok (.getfield 26, 3) := by decide +kernel
theorem d_Lu_byteAt_19 : decode b_Lu_byteAt 19 = .ok (.iload_n 1, 1) := by decide +kernel
theorem d_Lu_byteAt_20 : decode b_Lu_byteAt 20 = .ok (.invokevirtual 77, 3) := by decide +kernel
theorem d_Lu_byteAt_23 : decode b_Lu_byteAt 23 = .ok (.ireturn, 1) := by decide +kernel
theorem d_Lu_vertex_0 : decode b_Lu_vertex 0 = .ok (.iload_n 1, 1) := by decide +kernel
theorem d_Lu_vertex_1 : decode b_Lu_vertex 1 = .ok (.ifCond .lt 14, 3) := by decide +kernel
theorem d_Lu_vertex_4 : decode b_Lu_vertex 4 = .ok (.iload_n 1, 1) := by decide +kernel
theorem d_Lu_vertex_5 : decode b_Lu_vertex 5 = .ok (.aload_n 0, 1) := by decide +kernel
theorem d_Lu_vertex_6 : decode b_Lu_vertex 6 = .ok (.getfield 32, 3) := by decide +kernel
theorem d_Lu_vertex_9 : decode b_Lu_vertex 9 = .ok (.getfield 80, 3) := by decide +kernel
theorem d_Lu_vertex_12 : decode b_Lu_vertex 12 = .ok (.if_icmp .lt 6, 3) := by decide +kernel
theorem d_Lu_vertex_15 : decode b_Lu_vertex 15 = .ok (.ldc 83, 2) := by decide +kernel
theorem d_Lu_vertex_17 : decode b_Lu_vertex 17 = .ok (.ireturn, 1) := by decide +kernel
theorem d_Lu_vertex_18 : decode b_Lu_vertex 18 = .ok (.aload_n 0, 1) := by decide +kernel
theorem d_Lu_vertex_19 : decode b_Lu_vertex 19 = .ok (.getfield 32, 3) := by decide +kernel
theorem d_Lu_vertex_22 : decode b_Lu_vertex 22 = .ok (.getfield 63, 3) := by decide +kernel
theorem d_Lu_vertex_25 : decode b_Lu_vertex 25 = .ok (.bipush 7, 2) := by decide +kernel
theorem d_Lu_vertex_27 : decode b_Lu_vertex 27 = .ok (.iconst 4, 1) := by decide +kernel
theorem d_Lu_vertex_28 : decode b_Lu_vertex 28 = .ok (.iload_n 1, 1) := by decide +kernel
theorem d_Lu_vertex_29 : decode b_Lu_vertex 29 = .ok (.imul, 1) := by decide +kernel
theorem d_Lu_vertex_30 : decode b_Lu_vertex 30 = .ok (.iadd, 1) := by decide +kernel
theorem d_Lu_vertex_31 : decode b_Lu_vertex 31 = .ok (.iload_n 2, 1) := by decide +kernel
theorem d_Lu_vertex_32 : decode b_Lu_vertex 32 = .ok (.ifCond .eq 7, 3) := by decide +kernel
theorem d_Lu_vertex_35 : decode b_Lu_vertex 35 = .ok (.iconst 0, 1) := by decide +kernel
theorem d_Lu_vertex_36 : decode b_Lu_vertex 36 = .ok (.goto 4, 3) := by decide +kernel
theorem d_Lu_vertex_39 : decode b_Lu_vertex 39 = .ok (.iconst 2, 1) := by decide +kernel
theorem d_Lu_vertex_40 : decode b_Lu_vertex 40 = .ok (.iadd, 1) := by decide +kernel
theorem d_Lu_vertex_41 : decode b_Lu_vertex 41 = .ok (.invokevirtual 84, 3) := by decide +kernel
theorem d_Lu_vertex_44 : decode b_Lu_vertex 44 = .ok (.ireturn, 1) := by decide +kernel
theorem d_Lu_texture_0 : decode b_Lu_texture 0 = .ok (.iload_n 1, 1) := by decide +kernel
theorem d_Lu_texture_1 : decode b_Lu_texture 1 = .ok (.ifCond .lt 14, 3) := by decide +kernel
theorem d_Lu_texture_4 : decode b_Lu_texture 4 = .ok (.iload_n 1, 1) := by decide +kernel
theorem d_Lu_texture_5 : decode b_Lu_texture 5 = .ok (.aload_n 0, 1) := by decide +kernel
theorem d_Lu_texture_6 : decode b_Lu_texture 6 = .ok (.getfield 32, 3) := by decide +kernel
theorem d_Lu_texture_9 : decode b_Lu_texture 9 = .ok (.getfield 87, 3) := by decide +kernel
theorem d_Lu_texture_12 : decode b_Lu_texture 12 = .ok (.if_icmp .lt 5, 3) := by decide +kernel
theorem d_Lu_texture_15 : decode b_Lu_texture 15 = .ok (.iconst (-1), 1) := by decide +kernel
theorem d_Lu_texture_16 : decode b_Lu_texture 16 = .ok (.ireturn, 1) := by decide +kernel
theorem d_Lu_texture_17 : decode b_Lu_texture 17 = .ok (.iload_n 2, 1) := by decide +kernel
theorem d_Lu_texture_18 : decode b_Lu_texture 18 = .ok (.lookupswitch 44 #[(0, 26), (1, 35)], 26) := by decide +kernel
theorem d_Lu_texture_44 : decode b_Lu_texture 44 = .ok (.aload_n 0, 1) := by decide +kernel
theorem d_Lu_texture_45 : decode b_Lu_texture 45 = .ok (.getfield 32, 3) := by decide +kernel
theorem d_Lu_texture_48 : decode b_Lu_texture 48 = .ok (.iload_n 1, 1) := by decide +kernel
theorem d_Lu_texture_49 : decode b_Lu_texture 49 = .ok (.invokevirtual 90, 3) := by decide +kernel
theorem d_Lu_texture_52 : decode b_Lu_texture 52 = .ok (.ireturn, 1) := by decide +kernel
theorem d_Lu_texture_53 : decode b_Lu_texture 53 = .ok (.aload_n 0, 1) := by decide +kernel
theorem d_Lu_texture_54 : decode b_Lu_texture 54 = .ok (.getfield 32, 3) := by decide +kernel
theorem d_Lu_texture_57 : decode b_Lu_texture 57 = .ok (.iload_n 1, 1) := by decide +kernel
theorem d_Lu_texture_58 : decode b_Lu_texture 58 = .ok (.invokevirtual 93, 3) := by decide +kernel
theorem d_Lu_texture_61 : decode b_Lu_texture 61 = .ok (.ireturn, 1) := by decide +kernel
theorem d_Lu_texture_62 : decode b_Lu_texture 62 = .ok (.iload_n 2, 1) := by decide +kernel
theorem d_Lu_texture_63 : decode b_Lu_texture 63 = .ok (.ifCond .ge 7, 3) := by decide +kernel
theorem d_Lu_texture_66 : decode b_Lu_texture 66 = .ok (.iconst (-1), 1) := by decide +kernel
theorem d_Lu_texture_67 : decode b_Lu_texture 67 = .ok (.goto 22, 3) := by decide +kernel
theorem d_Lu_texture_70 : decode b_Lu_texture 70 = .ok (.aload_n 0, 1) := by decide +kernel
theorem d_Lu_texture_71 : decode b_Lu_texture 71 = .ok (.getfield 32, 3) := by decide +kernel
theorem d_Lu_texture_74 : decode b_Lu_texture 74 = .ok (.iload_n 1, 1) := by decide +kernel
theorem d_Lu_texture_75 : decode b_Lu_texture 75 = .ok (.iload_n 2, 1) := by decide +kernel
theorem d_Lu_texture_76 : decode b_Lu_texture 76 = .ok (.iconst 2, 1) := by decide +kernel
theorem d_Lu_texture_77 : decode b_Lu_texture 77 = .ok (.isub, 1) := by decide +kernel
theorem d_Lu_texture_78 : decode b_Lu_texture 78 = .ok (.iconst 4, 1) := by decide +kernel
theorem d_Lu_texture_79 : decode b_Lu_texture 79 = .ok (.ishr, 1) := by decide +kernel
theorem d_Lu_texture_80 : decode b_Lu_texture 80 = .ok (.iload_n 2, 1) := by decide +kernel
theorem d_Lu_texture_81 : decode b_Lu_texture 81 = .ok (.iconst 2, 1) := by decide +kernel
theorem d_Lu_texture_82 : decode b_Lu_texture 82 = .ok (.isub, 1) := by decide +kernel
theorem d_Lu_texture_83 : decode b_Lu_texture 83 = .ok (.bipush 15, 2) := by decide +kernel
theorem d_Lu_texture_85 : decode b_Lu_texture 85 = .ok (.iand, 1) := by decide +kernel
theorem d_Lu_texture_86 : decode b_Lu_texture 86 = .ok (.invokevirtual 96, 3) := by decide +kernel
theorem d_Lu_texture_89 : decode b_Lu_texture 89 = .ok (.ireturn, 1) := by decide +kernel
theorem d_Lu_sector_0 : decode b_Lu_sector 0 = .ok (.iload_n 1, 1) := by decide +kernel
theorem d_Lu_sector_1 : decode b_Lu_sector 1 = .ok (.ifCond .lt 24, 3) := by decide +kernel
theorem d_Lu_sector_4 : decode b_Lu_sector 4 = .ok (.iload_n 1, 1) := by decide +kernel
theorem d_Lu_sector_5 : decode b_Lu_sector 5 = .ok (.aload_n 0, 1) := by decide +kernel
theorem d_Lu_sector_6 : decode b_Lu_sector 6 = .ok (.getfield 32, 3) := by decide +kernel
theorem d_Lu_sector_9 : decode b_Lu_sector 9 = .ok (.getfield 100, 3) := by decide +kernel
theorem d_Lu_sector_12 : decode b_Lu_sector 12 = .ok (.if_icmp .ge 13, 3) := by decide +kernel
theorem d_Lu_sector_15 : decode b_Lu_sector 15 = .ok (.iload_n 2, 1) := by decide +kernel
theorem d_Lu_sector_16 : decode b_Lu_sector 16 = .ok (.ifCond .lt 9, 3) := by decide +kernel
theorem d_Lu_sector_19 : decode b_Lu_sector 19 = .ok (.iload_n 2, 1) := by decide +kernel
theorem d_Lu_sector_20 : decode b_Lu_sector 20 = .ok (.bipush 6, 2) := by decide +kernel
theorem d_Lu_sector_22 : decode b_Lu_sector 22 = .ok (.if_icmp .le 6, 3) := by decide +kernel
theorem d_Lu_sector_25 : decode b_Lu_sector 25 = .ok (.ldc 83, 2) := by decide +kernel
theorem d_Lu_sector_27 : decode b_Lu_sector 27 = .ok (.ireturn, 1) := by decide +kernel
theorem d_Lu_sector_28 : decode b_Lu_sector 28 = .ok (.aload_n 0, 1) := by decide +kernel
theorem d_Lu_sector_29 : decode b_Lu_sector 29 = .ok (.getfield 32, 3) := by decide +kernel
theorem d_Lu_sector_32 : decode b_Lu_sector 32 = .ok (.getfield 103, 3) := by decide +kernel
theorem d_Lu_sector_35 : decode b_Lu_sector 35 = .ok (.bipush 9, 2) := by decide +kernel
theorem d_Lu_sector_37 : decode b_Lu_sector 37 = .ok (.iload_n 1, 1) := by decide +kernel
theorem d_Lu_sector_38 : decode b_Lu_sector 38 = .ok (.imul, 1) := by decide +kernel
theorem d_Lu_sector_39 : decode b_Lu_sector 39 = .ok (.iadd, 1) := by decide +kernel
theorem d_Lu_sector_40 : decode b_Lu_sector 40 = .ok (.istore_n 3, 1) := by decide +kernel
theorem d_Lu_sector_41 : decode b_Lu_sector 41 = .ok (.iload_n 2, 1) := by decide +kernel
theorem d_Lu_sector_42 : decode b_Lu_sector 42 = .ok (.iconst 2, 1) := by decide +kernel
theorem d_Lu_sector_43 : decode b_Lu_sector 43 = .ok (.if_icmp .ge 21, 3) := by decide +kernel
theorem d_Lu_sector_46 : decode b_Lu_sector 46 = .ok (.aload_n 0, 1) := by decide +kernel
theorem d_Lu_sector_47 : decode b_Lu_sector 47 = .ok (.getfield 32, 3) := by decide +kernel
theorem d_Lu_sector_50 : decode b_Lu_sector 50 = .ok (.getfield 63, 3) := by decide +kernel
theorem d_Lu_sector_53 : decode b_Lu_sector 53 = .ok (.iload_n 3, 1) := by decide +kernel
theorem d_Lu_sector_54 : decode b_Lu_sector 54 = .ok (.iconst 2, 1) := by decide +kernel
theorem d_Lu_sector_55 : decode b_Lu_sector 55 = .ok (.iload_n 2, 1) := by decide +kernel
theorem d_Lu_sector_56 : decode b_Lu_sector 56 = .ok (.imul, 1) := by decide +kernel
theorem d_Lu_sector_57 : decode b_Lu_sector 57 = .ok (.iadd, 1) := by decide +kernel
theorem d_Lu_sector_58 : decode b_Lu_sector 58 = .ok (.invokevirtual 84, 3) := by decide +kernel
theorem d_Lu_sector_61 : decode b_Lu_sector 61 = .ok (.goto 18, 3) := by decide +kernel
theorem d_Lu_sector_64 : decode b_Lu_sector 64 = .ok (.aload_n 0, 1) := by decide +kernel
theorem d_Lu_sector_65 : decode b_Lu_sector 65 = .ok (.getfield 32, 3) := by decide +kernel
theorem d_Lu_sector_68 : decode b_Lu_sector 68 = .ok (.getfield 63, 3) := by decide +kernel
theorem d_Lu_sector_71 : decode b_Lu_sector 71 = .ok (.iload_n 3, 1) := by decide +kernel
theorem d_Lu_sector_72 : decode b_Lu_sector 72 = .ok (.iconst 2, 1) := by decide +kernel
theorem d_Lu_sector_73 : decode b_Lu_sector 73 = .ok (.iadd, 1) := by decide +kernel
theorem d_Lu_sector_74 : decode b_Lu_sector 74 = .ok (.iload_n 2, 1) := by decide +kernel
theorem d_Lu_sector_75 : decode b_Lu_sector 75 = .ok (.iadd, 1) := by decide +kernel
theorem d_Lu_sector_76 : decode b_Lu_sector 76 = .ok (.invokevirtual 77, 3) := by decide +kernel
theorem d_Lu_sector_79 : decode b_Lu_sector 79 = .ok (.ireturn, 1) := by decide +kernel
theorem d_Lu_wall_0 : decode b_Lu_wall 0 = .ok (.iload_n 1, 1) := by decide +kernel
theorem d_Lu_wall_1 : decode b_Lu_wall 1 = .ok (.ifCond .lt 24, 3) := by decide +kernel
theorem d_Lu_wall_4 : decode b_Lu_wall 4 = .ok (.iload_n 1, 1) := by decide +kernel
theorem d_Lu_wall_5 : decode b_Lu_wall 5 = .ok (.aload_n 0, 1) := by decide +kernel
theorem d_Lu_wall_6 : decode b_Lu_wall 6 = .ok (.getfield 32, 3) := by decide +kernel
theorem d_Lu_wall_9 : decode b_Lu_wall 9 = .ok (.getfield 106, 3) := by decide +kernel
theorem d_Lu_wall_12 : decode b_Lu_wall 12 = .ok (.if_icmp .ge 13, 3) := by decide +kernel
theorem d_Lu_wall_15 : decode b_Lu_wall 15 = .ok (.iload_n 2, 1) := by decide +kernel
theorem d_Lu_wall_16 : decode b_Lu_wall 16 = .ok (.ifCond .lt 9, 3) := by decide +kernel
theorem d_Lu_wall_19 : decode b_Lu_wall 19 = .ok (.iload_n 2, 1) := by decide +kernel
theorem d_Lu_wall_20 : decode b_Lu_wall 20 = .ok (.bipush 14, 2) := by decide +kernel
theorem d_Lu_wall_22 : decode b_Lu_wall 22 = .ok (.if_icmp .le 5, 3) := by decide +kernel
theorem d_Lu_wall_25 : decode b_Lu_wall 25 = .ok (.iconst (-1), 1) := by decide +kernel
theorem d_Lu_wall_26 : decode b_Lu_wall 26 = .ok (.ireturn, 1) := by decide +kernel
theorem d_Lu_wall_27 : decode b_Lu_wall 27 = .ok (.aload_n 0, 1) := by decide +kernel
theorem d_Lu_wall_28 : decode b_Lu_wall 28 = .ok (.getfield 32, 3) := by decide +kernel
theorem d_Lu_wall_31 : decode b_Lu_wall 31 = .ok (.getfield 109, 3) := by decide +kernel
theorem d_Lu_wall_34 : decode b_Lu_wall 34 = .ok (.bipush 14, 2) := by decide +kernel
theorem d_Lu_wall_36 : decode b_Lu_wall 36 = .ok (.iload_n 1, 1) := by decide +kernel
theorem d_Lu_wall_37 : decode b_Lu_wall 37 = .ok (.imul, 1) := by decide +kernel
theorem d_Lu_wall_38 : decode b_Lu_wall 38 = .ok (.iadd, 1) := by decide +kernel
theorem d_Lu_wall_39 : decode b_Lu_wall 39 = .ok (.istore_n 3, 1) := by decide +kernel
theorem d_Lu_wall_40 : decode b_Lu_wall 40 = .ok (.iload_n 2, 1) := by decide +kernel
theorem d_Lu_wall_41 : decode b_Lu_wall 41 = .ok (.lookupswitch 62 #[(10, 27), (11, 44)], 27) := by decide +kernel
theorem d_Lu_wall_68 : decode b_Lu_wall 68 = .ok (.aload_n 0, 1) := by decide +kernel
theorem d_Lu_wall_69 : decode b_Lu_wall 69 = .ok (.getfield 32, 3) := by decide +kernel
theorem d_Lu_wall_72 : decode b_Lu_wall 72 = .ok (.getfield 63, 3) := by decide +kernel
theorem d_Lu_wall_75 : decode b_Lu_wall 75 = .ok (.iload_n 3, 1) := by decide +kernel
theorem d_Lu_wall_76 : decode b_Lu_wall 76 = .ok (.bipush 10, 2) := by decide +kernel
theorem d_Lu_wall_78 : decode b_Lu_wall 78 = .ok (.iadd, 1) := by decide +kernel
theorem d_Lu_wall_79 : decode b_Lu_wall 79 = .ok (.invokevirtual 77, 3) := by decide +kernel
theorem d_Lu_wall_82 : decode b_Lu_wall 82 = .ok (.iconst 4, 1) := by decide +kernel
theorem d_Lu_wall_83 : decode b_Lu_wall 83 = .ok (.ishr, 1) := by decide +kernel
theorem d_Lu_wall_84 : decode b_Lu_wall 84 = .ok (.ireturn, 1) := by decide +kernel
theorem d_Lu_wall_85 : decode b_Lu_wall 85 = .ok (.aload_n 0, 1) := by decide +kernel
theorem d_Lu_wall_86 : decode b_Lu_wall 86 = .ok (.getfield 32, 3) := by decide +kernel
theorem d_Lu_wall_89 : decode b_Lu_wall 89 = .ok (.getfield 63, 3) := by decide +kernel
theorem d_Lu_wall_92 : decode b_Lu_wall 92 = .ok (.iload_n 3, 1) := by decide +kernel
theorem d_Lu_wall_93 : decode b_Lu_wall 93 = .ok (.bipush 10, 2) := by decide +kernel
theorem d_Lu_wall_95 : decode b_Lu_wall 95 = .ok (.iadd, 1) := by decide +kernel
theorem d_Lu_wall_96 : decode b_Lu_wall 96 = .ok (.invokevirtual 77, 3) := by decide +kernel
theorem d_Lu_wall_99 : decode b_Lu_wall 99 = .ok (.bipush 15, 2) := by decide +kernel
theorem d_Lu_wall_101 : decode b_Lu_wall 101 = .ok (.iand, 1) := by decide +kernel
theorem d_Lu_wall_102 : decode b_Lu_wall 102 = .ok (.ireturn, 1) := by decide +kernel
theorem d_Lu_wall_103 : decode b_Lu_wall 103 = .ok (.aload_n 0, 1) := by decide +kernel
theorem d_Lu_wall_104 : decode b_Lu_wall 104 = .ok (.getfield 32, 3) := by decide +kernel
theorem d_Lu_wall_107 : decode b_Lu_wall 107 = .ok (.getfield 63, 3) := by decide +kernel
theorem d_Lu_wall_110 : decode b_Lu_wall 110 = .ok (.iload_n 2, 1) := by decide +kernel
theorem d_Lu_wall_111 : decode b_Lu_wall 111 = .ok (.bipush 10, 2) := by decide +kernel
theorem d_Lu_wall_113 : decode b_Lu_wall 113 = .ok (.if_icmp .ge 9, 3) := by decide +kernel
theorem d_Lu_wall_116 : decode b_Lu_wall 116 = .ok (.iload_n 3, 1) := by decide +kernel
theorem d_Lu_wall_117 : decode b_Lu_wall 117 = .ok (.iload_n 2, 1) := by decide +kernel
theorem d_Lu_wall_118 : decode b_Lu_wall 118 = .ok (.iadd, 1) := by decide +kernel
theorem d_Lu_wall_119 : decode b_Lu_wall 119 = .ok (.goto 8, 3) := by decide +kernel
theorem d_Lu_wall_122 : decode b_Lu_wall 122 = .ok (.iload_n 3, 1) := by decide +kernel
theorem d_Lu_wall_123 : decode b_Lu_wall 123 = .ok (.iload_n 2, 1) := by decide +kernel
theorem d_Lu_wall_124 : decode b_Lu_wall 124 = .ok (.iadd, 1) := by decide +kernel
theorem d_Lu_wall_125 : decode b_Lu_wall 125 = .ok (.iconst 1, 1) := by decide +kernel
theorem d_Lu_wall_126 : decode b_Lu_wall 126 = .ok (.isub, 1) := by decide +kernel
theorem d_Lu_wall_127 : decode b_Lu_wall 127 = .ok (.invokevirtual 77, 3) := by decide +kernel
theorem d_Lu_wall_130 : decode b_Lu_wall 130 = .ok (.ireturn, 1) := by decide +kernel
theorem d_Lu_start_0 : decode b_Lu_start 0 = .ok (.aload_n 0, 1) := by decide +kernel
theorem d_Lu_start_1 : decode b_Lu_start 1 = .ok (.getfield 32, 3) := by decide +kernel
theorem d_Lu_start_4 : decode b_Lu_start 4 = .ok (.getfield 59, 3) := by decide +kernel
theorem d_Lu_start_7 : decode b_Lu_start 7 = .ok (.ifCond .eq 12, 3) := by decide +kernel
theorem d_Lu_start_10 : decode b_Lu_start 10 = .ok (.iload_n 1, 1) := by decide +kernel
theorem d_Lu_start_11 : decode b_Lu_start 11 = .ok (.ifCond .lt 8, 3) := by decide +kernel
theorem d_Lu_start_14 : decode b_Lu_start 14 = .ok (.iload_n 1, 1) := by decide +kernel
theorem d_Lu_start_15 : decode b_Lu_start 15 = .ok (.iconst 3, 1) := by decide +kernel
theorem d_Lu_start_16 : decode b_Lu_start 16 = .ok (.if_icmp .le 6, 3) := by decide +kernel
theorem d_Lu_start_19 : decode b_Lu_start 19 = .ok (.ldc 83, 2) := by decide +kernel
theorem d_Lu_start_21 : decode b_Lu_start 21 = .ok (.ireturn, 1) := by decide +kernel
theorem d_Lu_start_22 : decode b_Lu_start 22 = .ok (.iload_n 1, 1) := by decide +kernel
theorem d_Lu_start_23 : decode b_Lu_start 23 = .ok (.iconst 2, 1) := by decide +kernel
theorem d_Lu_start_24 : decode b_Lu_start 24 = .ok (.if_icmp .ge 27, 3) := by decide +kernel
theorem d_Lu_start_27 : decode b_Lu_start 27 = .ok (.aload_n 0, 1) := by decide +kernel
theorem d_Lu_start_28 : decode b_Lu_start 28 = .ok (.getfield 32, 3) := by decide +kernel
theorem d_Lu_start_31 : decode b_Lu_start 31 = .ok (.getfield 63, 3) := by decide +kernel
theorem d_Lu_start_34 : decode b_Lu_start 34 = .ok (.aload_n 0, 1) := by decide +kernel
theorem d_Lu_start_35 : decode b_Lu_start 35 = .ok (.getfield 32, 3) := by decide +kernel
theorem d_Lu_start_38 : decode b_Lu_start 38 = .ok (.getfield 112, 3) := by decide +kernel
theorem d_Lu_start_41 : decode b_Lu_start 41 = .ok (.iconst 2, 1) := by decide +kernel
theorem d_Lu_start_42 : decode b_Lu_start 42 = .ok (.iload_n 1, 1) := by decide +kernel
theorem d_Lu_start_43 : decode b_Lu_start 43 = .ok (.imul, 1) := by decide +kernel
theorem d_Lu_start_44 : decode b_Lu_start 44 = .ok (.iadd, 1) := by decide +kernel
theorem d_Lu_start_45 : decode b_Lu_start 45 = .ok (.invokevirtual 84, 3) := by decide +kernel
theorem d_Lu_start_48 : decode b_Lu_start 48 = .ok (.goto 24, 3) := by decide +kernel
theorem d_Lu_start_51 : decode b_Lu_start 51 = .ok (.aload_n 0, 1) := by decide +kernel
theorem d_Lu_start_52 : decode b_Lu_start 52 = .ok (.getfield 32, 3) := by decide +kernel
theorem d_Lu_start_55 : decode b_Lu_start 55 = .ok (.getfield 63, 3) := by decide +kernel
theorem d_Lu_start_58 : decode b_Lu_start 58 = .ok (.aload_n 0, 1) := by decide +kernel
theorem d_Lu_start_59 : decode b_Lu_start 59 = .ok (.getfield 32, 3) := by decide +kernel
theorem d_Lu_start_62 : decode b_Lu_start 62 = .ok (.getfield 112, 3) := by decide +kernel
theorem d_Lu_start_65 : decode b_Lu_start 65 = .ok (.iconst 2, 1) := by decide +kernel
theorem d_Lu_start_66 : decode b_Lu_start 66 = .ok (.iadd, 1) := by decide +kernel
theorem d_Lu_start_67 : decode b_Lu_start 67 = .ok (.iload_n 1, 1) := by decide +kernel
theorem d_Lu_start_68 : decode b_Lu_start 68 = .ok (.iadd, 1) := by decide +kernel
theorem d_Lu_start_69 : decode b_Lu_start 69 = .ok (.invokevirtual 77, 3) := by decide +kernel
theorem d_Lu_start_72 : decode b_Lu_start 72 = .ok (.ireturn, 1) := by decide +kernel
theorem d_Lu_look_0 : decode b_Lu_look 0 = .ok (.iload_n 1, 1) := by decide +kernel
theorem d_Lu_look_1 : decode b_Lu_look 1 = .ok (.tableswitch 151 0 8 #[51, 59, 67, 82, 97, 112, 127, 135, 143], 51) := by decide +kernel
theorem d_Lu_look_52 : decode b_Lu_look 52 = .ok (.aload_n 0, 1) := by decide +kernel
theorem d_Lu_look_53 : decode b_Lu_look 53 = .ok (.getfield 20, 3) := by decide +kernel
theorem d_Lu_look_56 : decode b_Lu_look 56 = .ok (.getfield 69, 3) := by decide +kernel
theorem d_Lu_look_59 : decode b_Lu_look 59 = .ok (.ireturn, 1) := by decide +kernel
theorem d_Lu_look_60 : decode b_Lu_look 60 = .ok (.aload_n 0, 1) := by decide +kernel
theorem d_Lu_look_61 : decode b_Lu_look 61 = .ok (.getfield 26, 3) := by decide +kernel
theorem d_Lu_look_64 : decode b_Lu_look 64 = .ok (.getfield 69, 3) := by decide +kernel
theorem d_Lu_look_67 : decode b_Lu_look 67 = .ok (.ireturn, 1) := by decide +kernel
theorem d_Lu_look_68 : decode b_Lu_look 68 = .ok (.aload_n 0, 1) := by decide +kernel
theorem d_Lu_look_69 : decode b_Lu_look 69 = .ok (.getfield 32, 3) := by decide +kernel
theorem d_Lu_look_72 : decode b_Lu_look 72 = .ok (.aload_n 0, 1) := by decide +kernel
theorem d_Lu_look_73 : decode b_Lu_look 73 = .ok (.getfield 32, 3) := by decide +kernel
theorem d_Lu_look_76 : decode b_Lu_look 76 = .ok (.getfield 80, 3) := by decide +kernel
theorem d_Lu_look_79 : decode b_Lu_look 79 = .ok (.invokevirtual 115, 3) := by decide +kernel
theorem d_Lu_look_82 : decode b_Lu_look 82 = .ok (.ireturn, 1) := by decide +kernel
theorem d_Lu_look_83 : decode b_Lu_look 83 = .ok (.aload_n 0, 1) := by decide +kernel
theorem d_Lu_look_84 : decode b_Lu_look 84 = .ok (.getfield 32, 3) := by decide +kernel
theorem d_Lu_look_87 : decode b_Lu_look 87 = .ok (.aload_n 0, 1) := by decide +kernel
theorem d_Lu_look_88 : decode b_Lu_look 88 = .ok (.getfield 32, 3) := by decide +kernel
theorem d_Lu_look_91 : decode b_Lu_look 91 = .ok (.getfield 87, 3) := by decide +kernel
theorem d_Lu_look_94 : decode b_Lu_look 94 = .ok (.invokevirtual 115, 3) := by decide +kernel
theorem d_Lu_look_97 : decode b_Lu_look 97 = .ok (.ireturn, 1) := by decide +kernel
theorem d_Lu_look_98 : decode b_Lu_look 98 = .ok (.aload_n 0, 1) := by decide +kernel
theorem d_Lu_look_99 : decode b_Lu_look 99 = .ok (.getfield 32, 3) := by decide +kernel
theorem d_Lu_look_102 : decode b_Lu_look 102 = .ok (.aload_n 0, 1) := by decide +kernel
theorem d_Lu_look_103 : decode b_Lu_look 103 = .ok (.getfield 32, 3) := by decide +kernel
theorem d_Lu_look_106 : decode b_Lu_look 106 = .ok (.getfield 100, 3) := by decide +kernel
theorem d_Lu_look_109 : decode b_Lu_look 109 = .ok (.invokevirtual 115, 3) := by decide +kernel
theorem d_Lu_look_112 : decode b_Lu_look 112 = .ok (.ireturn, 1) := by decide +kernel
theorem d_Lu_look_113 : decode b_Lu_look 113 = .ok (.aload_n 0, 1) := by decide +kernel
theorem d_Lu_look_114 : decode b_Lu_look 114 = .ok (.getfield 32, 3) := by decide +kernel
theorem d_Lu_look_117 : decode b_Lu_look 117 = .ok (.aload_n 0, 1) := by decide +kernel
theorem d_Lu_look_118 : decode b_Lu_look 118 = .ok (.getfield 32, 3) := by decide +kernel
theorem d_Lu_look_121 : decode b_Lu_look 121 = .ok (.getfield 106, 3) := by decide +kernel
theorem d_Lu_look_124 : decode b_Lu_look 124 = .ok (.invokevirtual 115, 3) := by decide +kernel
theorem d_Lu_look_127 : decode b_Lu_look 127 = .ok (.ireturn, 1) := by decide +kernel
theorem d_Lu_look_128 : decode b_Lu_look 128 = .ok (.aload_n 0, 1) := by decide +kernel
theorem d_Lu_look_129 : decode b_Lu_look 129 = .ok (.getfield 10, 3) := by decide +kernel
theorem d_Lu_look_132 : decode b_Lu_look 132 = .ok (.getfield 118, 3) := by decide +kernel
theorem d_Lu_look_135 : decode b_Lu_look 135 = .ok (.ireturn, 1) := by decide +kernel
theorem d_Lu_look_136 : decode b_Lu_look 136 = .ok (.aload_n 0, 1) := by decide +kernel
theorem d_Lu_look_137 : decode b_Lu_look 137 = .ok (.getfield 10, 3) := by decide +kernel
theorem d_Lu_look_140 : decode b_Lu_look 140 = .ok (.getfield 121, 3) := by decide +kernel
theorem d_Lu_look_143 : decode b_Lu_look 143 = .ok (.ireturn, 1) := by decide +kernel
theorem d_Lu_look_144 : decode b_Lu_look 144 = .ok (.aload_n 0, 1) := by decide +kernel
theorem d_Lu_look_145 : decode b_Lu_look 145 = .ok (.getfield 10, 3) := by decide +kernel
theorem d_Lu_look_148 : decode b_Lu_look 148 = .ok (.getfield 124, 3) := by decide +kernel
theorem d_Lu_look_151 : decode b_Lu_look 151 = .ok (.ireturn, 1) := by decide +kernel
theorem d_Lu_look_152 : decode b_Lu_look 152 = .ok (.iconst (-1), 1) := by decide +kernel
theorem d_Lu_look_153 : decode b_Lu_look 153 = .ok (.ireturn, 1) := by decide +kernel
theorem d_Mo_init_0 : decode b_Mo_init 0 = .ok (.aload_n 0, 1) := by decide +kernel
theorem d_Mo_init_1 : decode b_Mo_init 1 = .ok (.invokespecial 1, 3) := by decide +kernel
theorem d_Mo_init_4 : decode b_Mo_init 4 = .ok (.aload_n 0, 1) := by decide +kernel
theorem d_Mo_init_5 : decode b_Mo_init 5 = .ok (.sipush 8192, 3) := by decide +kernel
theorem d_Mo_init_8 : decode b_Mo_init 8 = .ok (.newarray .byte, 2) := by decide +kernel
theorem d_Mo_init_10 : decode b_Mo_init 10 = .ok (.putfield 7, 3) := by decide +kernel
theorem d_Mo_init_13 : decode b_Mo_init 13 = .ok (.aload_n 0, 1) := by decide +kernel
theorem d_Mo_init_14 : decode b_Mo_init 14 = .ok (.sipush 8192, 3) := by decide +kernel
theorem d_Mo_init_17 : decode b_Mo_init 17 = .ok (.newarray .byte, 2) := by decide +kernel
theorem d_Mo_init_19 : decode b_Mo_init 19 = .ok (.putfield 13, 3) := by decide +kernel
theorem d_Mo_init_22 : decode b_Mo_init 22 = .ok (.aload_n 0, 1) := by decide +kernel
theorem d_Mo_init_23 : decode b_Mo_init 23 = .ok (.sipush 8192, 3) := by decide +kernel
theorem d_Mo_init_26 : decode b_Mo_init 26 = .ok (.newarray .byte, 2) := by decide +kernel
theorem d_Mo_init_28 : decode b_Mo_init 28 = .ok (.putfield 16, 3) := by decide +kernel
theorem d_Mo_init_31 : decode b_Mo_init 31 = .ok (.aload_n 0, 1) := by decide +kernel
theorem d_Mo_init_32 : decode b_Mo_init 32 = .ok (.iconst (-1), 1) := by decide +kernel
theorem d_Mo_init_33 : decode b_Mo_init 33 = .ok (.putfield 19, 3) := by decide +kernel
theorem d_Mo_init_36 : decode b_Mo_init 36 = .ok (.aload_n 0, 1) := by decide +kernel
theorem d_Mo_init_37 : decode b_Mo_init 37 = .ok (.iconst (-1), 1) := by decide +kernel
theorem d_Mo_init_38 : decode b_Mo_init 38 = .ok (.putfield 23, 3) := by decide +kernel
theorem d_Mo_init_41 : decode b_Mo_init 41 = .ok (.return_, 1) := by decide +kernel
theorem d_Mo_give_0 : decode b_Mo_give 0 = .ok (.aload_n 0, 1) := by decide +kernel
theorem d_Mo_give_1 : decode b_Mo_give 1 = .ok (.iconst 0, 1) := by decide +kernel
theorem d_Mo_give_2 : decode b_Mo_give 2 = .ok (.putfield 26, 3) := by decide +kernel
theorem d_Mo_give_5 : decode b_Mo_give 5 = .ok (.iload_n 3, 1) := by decide +kernel
theorem d_Mo_give_6 : decode b_Mo_give 6 = .ok (.iconst 1, 1) := by decide +kernel
theorem d_Mo_give_7 : decode b_Mo_give 7 = .ok (.if_icmp .lt 21, 3) := by decide +kernel
theorem d_Mo_give_10 : decode b_Mo_give 10 = .ok (.iload_n 3, 1) := by decide +kernel
theorem d_Mo_give_11 : decode b_Mo_give 11 = .ok (.bipush 8, 2) := by decide +kernel
theorem d_Mo_give_13 : decode b_Mo_give 13 = .ok (.if_icmp .gt 15, 3) := by decide +kernel
theorem d_Mo_give_16 : decode b_Mo_give 16 = .ok (.aload_n 0, 1) := by decide +kernel
theorem d_Mo_give_17 : decode b_Mo_give 17 = .ok (.getfield 29, 3) := by decide +kernel
theorem d_Mo_give_20 : decode b_Mo_give 20 = .ok (.iload_n 3, 1) := by decide +kernel
theorem d_Mo_give_21 : decode b_Mo_give 21 = .ok (.iadd, 1) := by decide +kernel
theorem d_Mo_give_22 : decode b_Mo_give 22 = .ok (.sipush 8192, 3) := by decide +kernel
theorem d_Mo_give_25 : decode b_Mo_give 25 = .ok (.if_icmp .le 5, 3) := by decide +kernel
theorem d_Mo_give_28 : decode b_Mo_give 28 = .ok (.iconst 0, 1) := by decide +kernel
theorem d_Mo_give_29 : decode b_Mo_give 29 = .ok (.ireturn, 1) := by decide +kernel
theorem d_Mo_give_30 : decode b_Mo_give 30 = .ok (.iload_n 3, 1) := by decide +kernel
theorem d_Mo_give_31 : decode b_Mo_give 31 = .ok (.iconst 1, 1) := by decide +kernel
theorem d_Mo_give_32 : decode b_Mo_give 32 = .ok (.isub, 1) := by decide +kernel
theorem d_Mo_give_33 : decode b_Mo_give 33 = .ok (.istore 4, 2) := by decide +kernel
theorem d_Mo_give_35 : decode b_Mo_give 35 = .ok (.iload 4, 2) := by decide +kernel
theorem d_Mo_give_37 : decode b_Mo_give 37 = .ok (.ifCond .lt 37, 3) := by decide +kernel
theorem d_Mo_give_40 : decode b_Mo_give 40 = .ok (.aload_n 0, 1) := by decide +kernel
theorem d_Mo_give_41 : decode b_Mo_give 41 = .ok (.getfield 7, 3) := by decide +kernel
theorem d_Mo_give_44 : decode b_Mo_give 44 = .ok (.aload_n 0, 1) := by decide +kernel
theorem d_Mo_give_45 : decode b_Mo_give 45 = .ok (.getfield 29, 3) := by decide +kernel
theorem d_Mo_give_48 : decode b_Mo_give 48 = .ok (.lload_n 1, 1) := by decide +kernel
theorem d_Mo_give_49 : decode b_Mo_give 49 = .ok (.bipush 8, 2) := by decide +kernel
theorem d_Mo_give_51 : decode b_Mo_give 51 = .ok (.iload 4, 2) := by decide +kernel
theorem d_Mo_give_53 : decode b_Mo_give 53 = .ok (.imul, 1) := by decide +kernel
theorem d_Mo_give_54 : decode b_Mo_give 54 = .ok (.lshr, 1) := by decide +kernel
theorem d_Mo_give_55 : decode b_Mo_give 55 = .ok (.l2i, 1) := by decide +kernel
theorem d_Mo_give_56 : decode b_Mo_give 56 = .ok (.i2b, 1) := by decide +kernel
theorem d_Mo_give_57 : decode b_Mo_give 57 = .ok (.bastore, 1) := by decide +kernel
theorem d_Mo_give_58 : decode b_Mo_give 58 = .ok (.aload_n 0, 1) := by decide +kernel
theorem d_Mo_give_59 : decode b_Mo_give 59 = .ok (.dup, 1) := by decide +kernel
theorem d_Mo_give_60 : decode b_Mo_give 60 = .ok (.getfield 29, 3) := by decide +kernel
theorem d_Mo_give_63 : decode b_Mo_give 63 = .ok (.iconst 1, 1) := by decide +kernel
theorem d_Mo_give_64 : decode b_Mo_give 64 = .ok (.iadd, 1) := by decide +kernel
theorem d_Mo_give_65 : decode b_Mo_give 65 = .ok (.putfield 29, 3) := by decide +kernel
theorem d_Mo_give_68 : decode b_Mo_give 68 = .ok (.iinc 4 (-1), 3) := by decide +kernel
theorem d_Mo_give_71 : decode b_Mo_give 71 = .ok (.goto (-36), 3) := by decide +kernel
theorem d_Mo_give_74 : decode b_Mo_give 74 = .ok (.iconst 1, 1) := by decide +kernel
theorem d_Mo_give_75 : decode b_Mo_give 75 = .ok (.ireturn, 1) := by decide +kernel
theorem d_Mo_cut_0 : decode b_Mo_cut 0 = .ok (.aload_n 0, 1) := by decide +kernel
theorem d_Mo_cut_1 : decode b_Mo_cut 1 = .ok (.iconst 0, 1) := by decide +kernel
theorem d_Mo_cut_2 : decode b_Mo_cut 2 = .ok (.putfield 26, 3) := by decide +kernel
theorem d_Mo_cut_5 : decode b_Mo_cut 5 = .ok (.iload_n 1, 1) := by decide +kernel
theorem d_Mo_cut_6 : decode b_Mo_cut 6 = .ok (.ifCond .lt 11, 3) := by decide +kernel
theorem d_Mo_cut_9 : decode b_Mo_cut 9 = .ok (.iload_n 1, 1) := by decide +kernel
theorem d_Mo_cut_10 : decode b_Mo_cut 10 = .ok (.aload_n 0, 1) := by decide +kernel
theorem d_Mo_cut_11 : decode b_Mo_cut 11 = .ok (.getfield 29, 3) := by decide +kernel
theorem d_Mo_cut_14 : decode b_Mo_cut 14 = .ok (.if_icmp .le 5, 3) := by decide +kernel
theorem d_Mo_cut_17 : decode b_Mo_cut 17 = .ok (.iconst 0, 1) := by decide +kernel
theorem d_Mo_cut_18 : decode b_Mo_cut 18 = .ok (.ireturn, 1) := by decide +kernel
theorem d_Mo_cut_19 : decode b_Mo_cut 19 = .ok (.aload_n 0, 1) := by decide +kernel
theorem d_Mo_cut_20 : decode b_Mo_cut 20 = .ok (.iload_n 1, 1) := by decide +kernel
theorem d_Mo_cut_21 : decode b_Mo_cut 21 = .ok (.putfield 29, 3) := by decide +kernel
theorem d_Mo_cut_24 : decode b_Mo_cut 24 = .ok (.iconst 1, 1) := by decide +kernel
theorem d_Mo_cut_25 : decode b_Mo_cut 25 = .ok (.ireturn, 1) := by decide +kernel
theorem d_Mo_poke_0 : decode b_Mo_poke 0 = .ok (.aload_n 0, 1) := by decide +kernel
theorem d_Mo_poke_1 : decode b_Mo_poke 1 = .ok (.iconst 0, 1) := by decide +kernel
theorem d_Mo_poke_2 : decode b_Mo_poke 2 = .ok (.putfield 26, 3) := by decide +kernel
theorem d_Mo_poke_5 : decode b_Mo_poke 5 = .ok (.iload_n 1, 1) := by decide +kernel
theorem d_Mo_poke_6 : decode b_Mo_poke 6 = .ok (.ifCond .lt 11, 3) := by decide +kernel
theorem d_Mo_poke_9 : decode b_Mo_poke 9 = .ok (.iload_n 1, 1) := by decide +kernel
theorem d_Mo_poke_10 : decode b_Mo_poke 10 = .ok (.aload_n 0, 1) := by decide +kernel
theorem d_Mo_poke_11 : decode b_Mo_poke 11 = .ok (.getfield 29, 3) := by decide +kernel
theorem d_Mo_poke_14 : decode b_Mo_poke 14 = .ok (.if_icmp .lt 5, 3) := by decide +kernel
theorem d_Mo_poke_17 : decode b_Mo_poke 17 = .ok (.iconst 0, 1) := by decide +kernel
theorem d_Mo_poke_18 : decode b_Mo_poke 18 = .ok (.ireturn, 1) := by decide +kernel
theorem d_Mo_poke_19 : decode b_Mo_poke 19 = .ok (.aload_n 0, 1) := by decide +kernel
theorem d_Mo_poke_20 : decode b_Mo_poke 20 = .ok (.getfield 7, 3) := by decide +kernel
theorem d_Mo_poke_23 : decode b_Mo_poke 23 = .ok (.iload_n 1, 1) := by decide +kernel
theorem d_Mo_poke_24 : decode b_Mo_poke 24 = .ok (.iload_n 2, 1) := by decide +kernel
theorem d_Mo_poke_25 : decode b_Mo_poke 25 = .ok (.i2b, 1) := by decide +kernel
theorem d_Mo_poke_26 : decode b_Mo_poke 26 = .ok (.bastore, 1) := by decide +kernel
theorem d_Mo_poke_27 : decode b_Mo_poke 27 = .ok (.iconst 1, 1) := by decide +kernel
theorem d_Mo_poke_28 : decode b_Mo_poke 28 = .ok (.ireturn, 1) := by decide +kernel
theorem d_Mo_check_0 : decode b_Mo_check 0 = .ok (.aload_n 0, 1) := by decide +kernel
theorem d_Mo_check_1 : decode b_Mo_check 1 = .ok (.iconst 0, 1) := by decide +kernel
theorem d_Mo_check_2 : decode b_Mo_check 2 = .ok (.putfield 26, 3) := by decide +kernel
theorem d_Mo_check_5 : decode b_Mo_check 5 = .ok (.aload_n 0, 1) := by decide +kernel
theorem d_Mo_check_6 : decode b_Mo_check 6 = .ok (.getfield 29, 3) := by decide +kernel
theorem d_Mo_check_9 : decode b_Mo_check 9 = .ok (.iconst 2, 1) := by decide +kernel
theorem d_Mo_check_10 : decode b_Mo_check 10 = .ok (.if_icmp .ge 5, 3) := by decide +kernel
theorem d_Mo_check_13 : decode b_Mo_check 13 = .ok (.iconst 0, 1) := by decide +kernel
theorem d_Mo_check_14 : decode b_Mo_check 14 = .ok (.ireturn, 1) := by decide +kernel
theorem d_Mo_check_15 : decode b_Mo_check 15 = .ok (.aload_n 0, 1) := by decide +kernel
theorem d_Mo_check_16 : decode b_Mo_check 16 = .ok (.iconst 0, 1) := by decide +kernel
theorem d_Mo_check_17 : decode b_Mo_check 17 = .ok (.putfield 32, 3) := by decide +kernel
theorem d_Mo_check_20 : decode b_Mo_check 20 = .ok (.aload_n 0, 1) := by decide +kernel
theorem d_Mo_check_21 : decode b_Mo_check 21 = .ok (.iconst 0, 1) := by decide +kernel
theorem d_Mo_check_22 : decode b_Mo_check 22 = .ok (.putfield 35, 3) := by decide +kernel
theorem d_Mo_check_25 : decode b_Mo_check 25 = .ok (.iconst 0, 1) := by decide +kernel
theorem d_Mo_check_26 : decode b_Mo_check 26 = .ok (.istore_n 1, 1) := by decide +kernel
theorem d_Mo_check_27 : decode b_Mo_check 27 = .ok (.iload_n 1, 1) := by decide +kernel
theorem d_Mo_check_28 : decode b_Mo_check 28 = .ok (.aload_n 0, 1) := by decide +kernel
theorem d_Mo_check_29 : decode b_Mo_check 29 = .ok (.getfield 29, 3) := by decide +kernel
theorem d_Mo_check_32 : decode b_Mo_check 32 = .ok (.iconst 2, 1) := by decide +kernel
theorem d_Mo_check_33 : decode b_Mo_check 33 = .ok (.isub, 1) := by decide +kernel
theorem d_Mo_check_34 : decode b_Mo_check 34 = .ok (.if_icmp .ge 23, 3) := by decide +kernel
theorem d_Mo_check_37 : decode b_Mo_check 37 = .ok (.aload_n 0, 1) := by decide +kernel
theorem d_Mo_check_38 : decode b_Mo_check 38 = .ok (.aload_n 0, 1) := by decide +kernel
theorem d_Mo_check_39 : decode b_Mo_check 39 = .ok (.getfield 7, 3) := by decide +kernel
theorem d_Mo_check_42 : decode b_Mo_check 42 = .ok (.iload_n 1, 1) := by decide +kernel
theorem d_Mo_check_43 : decode b_Mo_check 43 = .ok (.baload, 1) := by decide +kernel
theorem d_Mo_check_44 : decode b_Mo_check 44 = .ok (.sipush 255, 3) := by decide +kernel
theorem d_Mo_check_47 : decode b_Mo_check 47 = .ok (.iand, 1) := by decide +kernel
theorem d_Mo_check_48 : decode b_Mo_check 48 = .ok (.invokevirtual 38, 3) := by decide +kernel
theorem d_Mo_check_51 : decode b_Mo_check 51 = .ok (.iinc 1 1, 3) := by decide +kernel
theorem d_Mo_check_54 : decode b_Mo_check 54 = .ok (.goto (-27), 3) := by decide +kernel
theorem d_Mo_check_57 : decode b_Mo_check 57 = .ok (.aload_n 0, 1) := by decide +kernel
theorem d_Mo_check_58 : decode b_Mo_check 58 = .ok (.getfield 7, 3) := by decide +kernel
theorem d_Mo_check_61 : decode b_Mo_check 61 = .ok (.aload_n 0, 1) := by decide +kernel
theorem d_Mo_check_62 : decode b_Mo_check 62 = .ok (.getfield 29, 3) := by decide +kernel
theorem d_Mo_check_65 : decode b_Mo_check 65 = .ok (.iconst 2, 1) := by decide +kernel
theorem d_Mo_check_66 : decode b_Mo_check 66 = .ok (.isub, 1) := by decide +kernel
theorem d_Mo_check_67 : decode b_Mo_check 67 = .ok (.aload_n 0, 1) := by decide +kernel
theorem d_Mo_check_68 : decode b_Mo_check 68 = .ok (.getfield 32, 3) := by decide +kernel
theorem d_Mo_check_71 : decode b_Mo_check 71 = .ok (.i2b, 1) := by decide +kernel
theorem d_Mo_check_72 : decode b_Mo_check 72 = .ok (.bastore, 1) := by decide +kernel
theorem d_Mo_check_73 : decode b_Mo_check 73 = .ok (.aload_n 0, 1) := by decide +kernel
theorem d_Mo_check_74 : decode b_Mo_check 74 = .ok (.getfield 7, 3) := by decide +kernel
theorem d_Mo_check_77 : decode b_Mo_check 77 = .ok (.aload_n 0, 1) := by decide +kernel
theorem d_Mo_check_78 : decode b_Mo_check 78 = .ok (.getfield 29, 3) := by decide +kernel
theorem d_Mo_check_81 : decode b_Mo_check 81 = .ok (.iconst 1, 1) := by decide +kernel
theorem d_Mo_check_82 : decode b_Mo_check 82 = .ok (.isub, 1) := by decide +kernel
theorem d_Mo_check_83 : decode b_Mo_check 83 = .ok (.aload_n 0, 1) := by decide +kernel
theorem d_Mo_check_84 : decode b_Mo_check 84 = .ok (.getfield 35, 3) := by decide +kernel
theorem d_Mo_check_87 : decode b_Mo_check 87 = .ok (.i2b, 1) := by decide +kernel
theorem d_Mo_check_88 : decode b_Mo_check 88 = .ok (.bastore, 1) := by decide +kernel
theorem d_Mo_check_89 : decode b_Mo_check 89 = .ok (.iconst 1, 1) := by decide +kernel
theorem d_Mo_check_90 : decode b_Mo_check 90 = .ok (.ireturn, 1) := by decide +kernel
theorem d_Mo_wrong_0 : decode b_Mo_wrong 0 = .ok (.aload_n 0, 1) := by decide +kernel
theorem d_Mo_wrong_1 : decode b_Mo_wrong 1 = .ok (.getfield 42, 3) := by decide +kernel
theorem d_Mo_wrong_4 : decode b_Mo_wrong 4 = .ok (.ifCond .ne 13, 3) := by decide +kernel
theorem d_Mo_wrong_7 : decode b_Mo_wrong 7 = .ok (.aload_n 0, 1) := by decide +kernel
theorem d_Mo_wrong_8 : decode b_Mo_wrong 8 = .ok (.iload_n 1, 1) := by decide +kernel
theorem d_Mo_wrong_9 : decode b_Mo_wrong 9 = .ok (.putfield 42, 3) := by decide +kernel
theorem d_Mo_wrong_12 : decode b_Mo_wrong 12 = .ok (.aload_n 0, 1) := by decide +kernel
theorem d_Mo_wrong_13 : decode b_Mo_wrong 13 = .ok (.iload_n 2, 1) := by decide +kernel
theorem d_Mo_wrong_14 : decode b_Mo_wrong 14 = .ok (.putfield 19, 3) := by decide +kernel
theorem d_Mo_wrong_17 : decode b_Mo_wrong 17 = .ok (.return_, 1) := by decide +kernel
theorem d_Mo_add_0 : decode b_Mo_add 0 = .ok (.aload_n 0, 1) := by decide +kernel
theorem d_Mo_add_1 : decode b_Mo_add 1 = .ok (.aload_n 0, 1) := by decide +kernel
theorem d_Mo_add_2 : decode b_Mo_add 2 = .ok (.getfield 32, 3) := by decide +kernel
theorem d_Mo_add_5 : decode b_Mo_add 5 = .ok (.iload_n 1, 1) := by decide +kernel
theorem d_Mo_add_6 : decode b_Mo_add 6 = .ok (.iadd, 1) := by decide +kernel
theorem d_Mo_add_7 : decode b_Mo_add 7 = .ok (.sipush 251, 3) := by decide +kernel
theorem d_Mo_add_10 : decode b_Mo_add 10 = .ok (.irem, 1) := by decide +kernel
theorem d_Mo_add_11 : decode b_Mo_add 11 = .ok (.putfield 32, 3) := by decide +kernel
theorem d_Mo_add_14 : decode b_Mo_add 14 = .ok (.aload_n 0, 1) := by decide +kernel
theorem d_Mo_add_15 : decode b_Mo_add 15 = .ok (.aload_n 0, 1) := by decide +kernel
theorem d_Mo_add_16 : decode b_Mo_add 16 = .ok (.getfield 35, 3) := by decide +kernel
theorem d_Mo_add_19 : decode b_Mo_add 19 = .ok (.aload_n 0, 1) := by decide +kernel
theorem d_Mo_add_20 : decode b_Mo_add 20 = .ok (.getfield 32, 3) := by decide +kernel
theorem d_Mo_add_23 : decode b_Mo_add 23 = .ok (.iadd, 1) := by decide +kernel
theorem d_Mo_add_24 : decode b_Mo_add 24 = .ok (.sipush 251, 3) := by decide +kernel
theorem d_Mo_add_27 : decode b_Mo_add 27 = .ok (.irem, 1) := by decide +kernel
theorem d_Mo_add_28 : decode b_Mo_add 28 = .ok (.putfield 35, 3) := by decide +kernel
theorem d_Mo_add_31 : decode b_Mo_add 31 = .ok (.return_, 1) := by decide +kernel
theorem d_Mo_next_0 : decode b_Mo_next 0 = .ok (.aload_n 0, 1) := by decide +kernel
theorem d_Mo_next_1 : decode b_Mo_next 1 = .ok (.getfield 42, 3) := by decide +kernel
theorem d_Mo_next_4 : decode b_Mo_next 4 = .ok (.ifCond .le 5, 3) := by decide +kernel
theorem d_Mo_next_7 : decode b_Mo_next 7 = .ok (.iconst 0, 1) := by decide +kernel
theorem d_Mo_next_8 : decode b_Mo_next 8 = .ok (.ireturn, 1) := by decide +kernel
theorem d_Mo_next_9 : decode b_Mo_next 9 = .ok (.aload_n 0, 1) := by decide +kernel
theorem d_Mo_next_10 : decode b_Mo_next 10 = .ok (.getfield 45, 3) := by decide +kernel
theorem d_Mo_next_13 : decode b_Mo_next 13 = .ok (.aload_n 0, 1) := by decide +kernel
theorem d_Mo_next_14 : decode b_Mo_next 14 = .ok (.getfield 29, 3) := by decide +kernel
theorem d_Mo_next_17 : decode b_Mo_next 17 = .ok (.if_icmp .ne 14, 3) := by decide +kernel
theorem d_Mo_next_20 : decode b_Mo_next 20 = .ok (.aload_n 0, 1) := by decide +kernel
theorem d_Mo_next_21 : decode b_Mo_next 21 = .ok (.iconst 1, 1) := by decide +kernel
theorem d_Mo_next_22 : decode b_Mo_next 22 = .ok (.aload_n 0, 1) := by decide +kernel
theorem d_Mo_next_23 : decode b_Mo_next 23 = .ok (.getfield 29, 3) := by decide +kernel
theorem d_Mo_next_26 : decode b_Mo_next 26 = .ok (.invokevirtual 48, 3) := by decide +kernel
theorem d_Mo_next_29 : decode b_Mo_next 29 = .ok (.iconst 0, 1) := by decide +kernel
theorem d_Mo_next_30 : decode b_Mo_next 30 = .ok (.ireturn, 1) := by decide +kernel
theorem d_Mo_next_31 : decode b_Mo_next 31 = .ok (.aload_n 0, 1) := by decide +kernel
theorem d_Mo_next_32 : decode b_Mo_next 32 = .ok (.getfield 7, 3) := by decide +kernel
theorem d_Mo_next_35 : decode b_Mo_next 35 = .ok (.aload_n 0, 1) := by decide +kernel
theorem d_Mo_next_36 : decode b_Mo_next 36 = .ok (.getfield 45, 3) := by decide +kernel
theorem d_Mo_next_39 : decode b_Mo_next 39 = .ok (.baload, 1) := by decide +kernel
theorem d_Mo_next_40 : decode b_Mo_next 40 = .ok (.sipush 255, 3) := by decide +kernel
theorem d_Mo_next_43 : decode b_Mo_next 43 = .ok (.iand, 1) := by decide +kernel
theorem d_Mo_next_44 : decode b_Mo_next 44 = .ok (.istore_n 3, 1) := by decide +kernel
theorem d_Mo_next_45 : decode b_Mo_next 45 = .ok (.iload_n 3, 1) := by decide +kernel
theorem d_Mo_next_46 : decode b_Mo_next 46 = .ok (.iload_n 1, 1) := by decide +kernel
theorem d_Mo_next_47 : decode b_Mo_next 47 = .ok (.if_icmp .lt 8, 3) := by decide +kernel
theorem d_Mo_next_50 : decode b_Mo_next 50 = .ok (.iload_n 3, 1) := by decide +kernel
theorem d_Mo_next_51 : decode b_Mo_next 51 = .ok (.iload_n 2, 1) := by decide +kernel
theorem d_Mo_next_52 : decode b_Mo_next 52 = .ok (.if_icmp .le 12, 3) := by decide +kernel
theorem d_Mo_next_55 : decode b_Mo_next 55 = .ok (.aload_n 0, 1) := by decide +kernel
theorem d_Mo_next_56 : decode b_Mo_next 56 = .ok (.iconst 3, 1) := by decide +kernel
theorem d_Mo_next_57 : decode b_Mo_next 57 = .ok (.aload_n 0, 1) := by decide +kernel
theorem d_Mo_next_58 : decode b_Mo_next 58 = .ok (.getfield 45, 3) := by decide +kernel
theorem d_Mo_next_61 : decode b_Mo_next 61 = .ok (.invokevirtual 48, 3) := by decide +kernel
theorem d_Mo_next_64 : decode b_Mo_next 64 = .ok (.aload_n 0, 1) := by decide +kernel
theorem d_Mo_next_65 : decode b_Mo_next 65 = .ok (.iload_n 3, 1) := by decide +kernel
theorem d_Mo_next_66 : decode b_Mo_next 66 = .ok (.invokevirtual 38, 3) := by decide +kernel
theorem d_Mo_next_69 : decode b_Mo_next 69 = .ok (.aload_n 0, 1) := by decide +kernel
theorem d_Mo_next_70 : decode b_Mo_next 70 = .ok (.dup, 1) := by decide +kernel
theorem d_Mo_next_71 : decode b_Mo_next 71 = .ok (.getfield 45, 3) := by decide +kernel
theorem d_Mo_next_74 : decode b_Mo_next 74 = .ok (.iconst 1, 1) := by decide +kernel
theorem d_Mo_next_75 : decode b_Mo_next 75 = .ok (.iadd, 1) := by decide +kernel
theorem d_Mo_next_76 : decode b_Mo_next 76 = .ok (.putfield 45, 3) := by decide +kernel
theorem d_Mo_next_79 : decode b_Mo_next 79 = .ok (.iload_n 3, 1) := by decide +kernel
theorem d_Mo_next_80 : decode b_Mo_next 80 = .ok (.ireturn, 1) := by decide +kernel
theorem d_Mo_nextOr_0 : decode b_Mo_nextOr 0 = .ok (.aload_n 0, 1) := by decide +kernel
theorem d_Mo_nextOr_1 : decode b_Mo_nextOr 1 = .ok (.iconst 0, 1) := by decide +kernel
theorem d_Mo_nextOr_2 : decode b_Mo_nextOr 2 = .ok (.sipush 255, 3) := by decide +kernel
theorem d_Mo_nextOr_5 : decode b_Mo_nextOr 5 = .ok (.invokevirtual 52, 3) := by decide +kernel
theorem d_Mo_nextOr_8 : decode b_Mo_nextOr 8 = .ok (.istore_n 2, 1) := by decide +kernel
theorem d_Mo_nextOr_9 : decode b_Mo_nextOr 9 = .ok (.aload_n 0, 1) := by decide +kernel
theorem d_Mo_nextOr_10 : decode b_Mo_nextOr 10 = .ok (.getfield 42, 3) := by decide +kernel
theorem d_Mo_nextOr_13 : decode b_Mo_nextOr 13 = .ok (.ifCond .ne 26, 3) := by decide +kernel
theorem d_Mo_nextOr_16 : decode b_Mo_nextOr 16 = .ok (.iload_n 2, 1) := by decide +kernel
theorem d_Mo_nextOr_17 : decode b_Mo_nextOr 17 = .ok (.iload_n 1, 1) := by decide +kernel
theorem d_Mo_nextOr_18 : decode b_Mo_nextOr 18 = .ok (.if_icmp .lt 21, 3) := by decide +kernel
theorem d_Mo_nextOr_21 : decode b_Mo_nextOr 21 = .ok (.iload_n 2, 1) := by decide +kernel
theorem d_Mo_nextOr_22 : decode b_Mo_nextOr 22 = .ok (.sipush 255, 3) := by decide +kernel
theorem d_Mo_nextOr_25 : decode b_Mo_nextOr 25 = .ok (.if_icmp .eq 14, 3) := by decide +kernel
theorem d_Mo_nextOr_28 : decode b_Mo_nextOr 28 = .ok (.aload_n 0, 1) := by decide +kernel
theorem d_Mo_nextOr_29 : decode b_Mo_nextOr 29 = .ok (.iconst 3, 1) := by decide +kernel
theorem d_Mo_nextOr_30 : decode b_Mo_nextOr 30 = .ok (.aload_n 0, 1) := by decide +kernel
theorem d_Mo_nextOr_31 : decode b_Mo_nextOr 31 = .ok (.getfield 45, 3) := by decide +kernel
theorem d_Mo_nextOr_34 : decode b_Mo_nextOr 34 = .ok (.iconst 1, 1) := by decide +kernel
theorem d_Mo_nextOr_35 : decode b_Mo_nextOr 35 = .ok (.isub, 1) := by decide +kernel
theorem d_Mo_nextOr_36 : decode b_Mo_nextOr 36 = .ok (.invokevirtual 48, 3) := by decide +kernel
theorem d_Mo_nextOr_39 : decode b_Mo_nextOr 39 = .ok (.iload_n 2, 1) := by decide +kernel
theorem d_Mo_nextOr_40 : decode b_Mo_nextOr 40 = .ok (.ireturn, 1) := by decide +kernel
theorem d_Mo_nextTwo_0 : decode b_Mo_nextTwo 0 = .ok (.aload_n 0, 1) := by decide +kernel
theorem d_Mo_nextTwo_1 : decode b_Mo_nextTwo 1 = .ok (.getfield 45, 3) := by decide +kernel
theorem d_Mo_nextTwo_4 : decode b_Mo_nextTwo 4 = .ok (.istore_n 3, 1) := by decide +kernel
theorem d_Mo_nextTwo_5 : decode b_Mo_nextTwo 5 = .ok (.aload_n 0, 1) := by decide +kernel
theorem d_Mo_nextTwo_6 : decode b_Mo_nextTwo 6 = .ok (.iconst 0, 1) := by decide +kernel
theorem d_Mo_nextTwo_7 : decode b_Mo_nextTwo 7 = .ok (.sipush 255, 3) := by decide +kernel
theorem d_Mo_nextTwo_10 : decode b_Mo_nextTwo 10 = .ok (.invokevirtual 52, 3) := by decide +kernel
theorem d_Mo_nextTwo_13 : decode b_Mo_nextTwo 13 = .ok (.sipush 256, 3) := by decide +kernel
theorem d_Mo_nextTwo_16 : decode b_Mo_nextTwo 16 = .ok (.imul, 1) := by decide +kernel
theorem d_Mo_nextTwo_17 : decode b_Mo_nextTwo 17 = .ok (.istore 4, 2) := by decide +kernel
theorem d_Mo_nextTwo_19 : decode b_Mo_nextTwo 19 = .ok (.iload 4, 2) := by decide +kernel
theorem d_Mo_nextTwo_21 : decode b_Mo_nextTwo 21 = .ok (.aload_n 0, 1) := by decide +kernel
theorem d_Mo_nextTwo_22 : decode b_Mo_nextTwo 22 = .ok (.iconst 0, 1) := by decide +kernel
theorem d_Mo_nextTwo_23 : decode b_Mo_nextTwo 23 = .ok (.sipush 255, 3) := by decide +kernel
theorem d_Mo_nextTwo_26 : decode b_Mo_nextTwo 26 = .ok (.invokevirtual 52, 3) := by decide +kernel
theorem d_Mo_nextTwo_29 : decode b_Mo_nextTwo 29 = .ok (.iadd, 1) := by decide +kernel
theorem d_Mo_nextTwo_30 : decode b_Mo_nextTwo 30 = .ok (.istore 4, 2) := by decide +kernel
theorem d_Mo_nextTwo_32 : decode b_Mo_nextTwo 32 = .ok (.iload 4, 2) := by decide +kernel
theorem d_Mo_nextTwo_34 : decode b_Mo_nextTwo 34 = .ok (.sipush 32767, 3) := by decide +kernel
theorem d_Mo_nextTwo_37 : decode b_Mo_nextTwo 37 = .ok (.if_icmp .le 11, 3) := by decide +kernel
theorem d_Mo_nextTwo_40 : decode b_Mo_nextTwo 40 = .ok (.iload 4, 2) := by decide +kernel
theorem d_Mo_nextTwo_42 : decode b_Mo_nextTwo 42 = .ok (.ldc 56, 2) := by decide +kernel
theorem d_Mo_nextTwo_44 : decode b_Mo_nextTwo 44 = .ok (.isub, 1) := by decide +kernel
theorem d_Mo_nextTwo_45 : decode b_Mo_nextTwo 45 = .ok (.goto 5, 3) := by decide +kernel
theorem d_Mo_nextTwo_48 : decode b_Mo_nextTwo 48 = .ok (.iload 4, 2) := by decide +kernel
theorem d_Mo_nextTwo_50 : decode b_Mo_nextTwo 50 = .ok (.istore 4, 2) := by decide +kernel
theorem d_Mo_nextTwo_52 : decode b_Mo_nextTwo 52 = .ok (.aload_n 0, 1) := by decide +kernel
theorem d_Mo_nextTwo_53 : decode b_Mo_nextTwo 53 = .ok (.getfield 42, 3) := by decide +kernel
theorem d_Mo_nextTwo_56 : decode b_Mo_nextTwo 56 = .ok (.ifCond .ne 21, 3) := by decide +kernel
theorem d_Mo_nextTwo_59 : decode b_Mo_nextTwo 59 = .ok (.iload 4, 2) := by decide +kernel
theorem d_Mo_nextTwo_61 : decode b_Mo_nextTwo 61 = .ok (.iload_n 1, 1) := by decide +kernel
theorem d_Mo_nextTwo_62 : decode b_Mo_nextTwo 62 = .ok (.if_icmp .lt 9, 3) := by decide +kernel
theorem d_Mo_nextTwo_65 : decode b_Mo_nextTwo 65 = .ok (.iload 4, 2) := by decide +kernel
theorem d_Mo_nextTwo_67 : decode b_Mo_nextTwo 67 = .ok (.iload_n 2, 1) := by decide +kernel
theorem d_Mo_nextTwo_68 : decode b_Mo_nextTwo 68 = .ok (.if_icmp .le 9, 3) := by decide +kernel
theorem d_Mo_nextTwo_71 : decode b_Mo_nextTwo 71 = .ok (.aload_n 0, 1) := by decide +kernel
theorem d_Mo_nextTwo_72 : decode b_Mo_nextTwo 72 = .ok (.iconst 3, 1) := by decide +kernel
theorem d_Mo_nextTwo_73 : decode b_Mo_nextTwo 73 = .ok (.iload_n 3, 1) := by decide +kernel
theorem d_Mo_nextTwo_74 : decode b_Mo_nextTwo 74 = .ok (.invokevirtual 48, 3) := by decide +kernel
theorem d_Mo_nextTwo_77 : decode b_Mo_nextTwo 77 = .ok (.iload 4, 2) := by decide +kernel
theorem d_Mo_nextTwo_79 : decode b_Mo_nextTwo 79 = .ok (.ireturn, 1) := by decide +kernel
theorem d_Mo_pair_0 : decode b_Mo_pair 0 = .ok (.aload_n 0, 1) := by decide +kernel
theorem d_Mo_pair_1 : decode b_Mo_pair 1 = .ok (.iload_n 1, 1) := by decide +kernel
theorem d_Mo_pair_2 : decode b_Mo_pair 2 = .ok (.baload, 1) := by decide +kernel
theorem d_Mo_pair_3 : decode b_Mo_pair 3 = .ok (.sipush 255, 3) := by decide +kernel
theorem d_Mo_pair_6 : decode b_Mo_pair 6 = .ok (.iand, 1) := by decide +kernel
theorem d_Mo_pair_7 : decode b_Mo_pair 7 = .ok (.sipush 256, 3) := by decide +kernel
theorem d_Mo_pair_10 : decode b_Mo_pair 10 = .ok (.imul, 1) := by decide +kernel
theorem d_Mo_pair_11 : decode b_Mo_pair 11 = .ok (.aload_n 0, 1) := by decide +kernel
theorem d_Mo_pair_12 : decode b_Mo_pair 12 = .ok (.iload_n 1, 1) := by decide +kernel
theorem d_Mo_pair_13 : decode b_Mo_pair 13 = .ok (.iconst 1, 1) := by decide +kernel
theorem d_Mo_pair_14 : decode b_Mo_pair 14 = .ok (.iadd, 1) := by decide +kernel
theorem d_Mo_pair_15 : decode b_Mo_pair 15 = .ok (.baload, 1) := by decide +kernel
theorem d_Mo_pair_16 : decode b_Mo_pair 16 = .ok (.sipush 255, 3) := by decide +kernel
theorem d_Mo_pair_19 : decode b_Mo_pair 19 = .ok (.iand, 1) := by decide +kernel
theorem d_Mo_pair_20 : decode b_Mo_pair 20 = .ok (.iadd, 1) := by decide +kernel
theorem d_Mo_pair_21 : decode b_Mo_pair 21 = .ok (.istore_n 2, 1) := by decide +kernel
theorem d_Mo_pair_22 : decode b_Mo_pair 22 = .ok (.iload_n 2, 1) := by decide +kernel
theorem d_Mo_pair_23 : decode b_Mo_pair 23 = .ok (.sipush 32767, 3) := by decide +kernel
theorem d_Mo_pair_26 : decode b_Mo_pair 26 = .ok (.if_icmp .le 10, 3) := by decide +kernel
theorem d_Mo_pair_29 : decode b_Mo_pair 29 = .ok (.iload_n 2, 1) := by decide +kernel
theorem d_Mo_pair_30 : decode b_Mo_pair 30 = .ok (.ldc 56, 2) := by decide +kernel
theorem d_Mo_pair_32 : decode b_Mo_pair 32 = .ok (.isub, 1) := by decide +kernel
theorem d_Mo_pair_33 : decode b_Mo_pair 33 = .ok (.goto 4, 3) := by decide +kernel
theorem d_Mo_pair_36 : decode b_Mo_pair 36 = .ok (.iload_n 2, 1) := by decide +kernel
theorem d_Mo_pair_37 : decode b_Mo_pair 37 = .ok (.ireturn, 1) := by decide +kernel
end
section
theorem d_Mo_readVertex_0 : decode b_Mo_readVertex 0 = .ok (.aload_n 0, 1) := by decide +kernel
theorem d_Mo_readVertex_1 : decode b_Mo_readVertex 1 = .ok (.sipush (-32768), 3) := by decide +kernel
theorem d_Mo_readVertex_4 : decode b_Mo_readVertex 4 = .ok (.sipush 32767, 3) := by decide +kernel
theorem d_Mo_readVertex_7 : decode b_Mo_readVertex 7 = .ok (.invokevirtual 57, 3) := by decide +kernel
theorem d_Mo_readVertex_10 : decode b_Mo_readVertex 10 = .ok (.istore_n 2, 1) := by decide +kernel
theorem d_Mo_readVertex_11 : decode b_Mo_readVertex 11 = .ok (.aload_n 0, 1) := by decide +kernel
theorem d_Mo_readVertex_12 : decode b_Mo_readVertex 12 = .ok (.getfield 45, 3) := by decide +kernel
theorem d_Mo_readVertex_15 : decode b_Mo_readVertex 15 = .ok (.istore_n 3, 1) := by decide +kernel
theorem d_Mo_readVertex_16 : decode b_Mo_readVertex 16 = .ok (.aload_n 0, 1) := by decide +kernel
theorem d_Mo_readVertex_17 : decode b_Mo_readVertex 17 = .ok (.sipush (-32768), 3) := by decide +kernel
theorem d_Mo_readVertex_20 : decode b_Mo_readVertex 20 = .ok (.sipush 32767, 3) := by decide +kernel
theorem d_Mo_readVertex_23 : decode b_Mo_readVertex 23 = .ok (.invokevirtual 57, 3) := by decide +kernel
theorem d_Mo_readVertex_26 : decode b_Mo_readVertex 26 = .ok (.istore 4, 2) := by decide +kernel
theorem d_Mo_readVertex_28 : decode b_Mo_readVertex 28 = .ok (.iconst 0, 1) := by decide +kernel
theorem d_Mo_readVertex_29 : decode b_Mo_readVertex 29 = .ok (.istore 5, 2) := by decide +kernel
theorem d_Mo_readVertex_31 : decode b_Mo_readVertex 31 = .ok (.iload 5, 2) := by decide +kernel
theorem d_Mo_readVertex_33 : decode b_Mo_readVertex 33 = .ok (.iload_n 1, 1) := by decide +kernel
theorem d_Mo_readVertex_34 : decode b_Mo_readVertex 34 = .ok (.if_icmp .ge 59, 3) := by decide +kernel
theorem d_Mo_readVertex_37 : decode b_Mo_readVertex 37 = .ok (.aload_n 0, 1) := by decide +kernel
theorem d_Mo_readVertex_38 : decode b_Mo_readVertex 38 = .ok (.getfield 42, 3) := by decide +kernel
theorem d_Mo_readVertex_41 : decode b_Mo_readVertex 41 = .ok (.ifCond .ne 52, 3) := by decide +kernel
theorem d_Mo_readVertex_44 : decode b_Mo_readVertex 44 = .ok (.aload_n 0, 1) := by decide +kernel
theorem d_Mo_readVertex_45 : decode b_Mo_readVertex 45 = .ok (.getfield 7, 3) := by decide +kernel
theorem d_Mo_readVertex_48 : decode b_Mo_readVertex 48 = .ok (.bipush 7, 2) := by decide +kernel
theorem d_Mo_readVertex_50 : decode b_Mo_readVertex 50 = .ok (.iconst 4, 1) := by decide +kernel
theorem d_Mo_readVertex_51 : decode b_Mo_readVertex 51 = .ok (.iload 5, 2) := by decide +kernel
theorem d_Mo_readVertex_53 : decode b_Mo_readVertex 53 = .ok (.imul, 1) := by decide +kernel
theorem d_Mo_readVertex_54 : decode b_Mo_readVertex 54 = .ok (.iadd, 1) := by decide +kernel
theorem d_Mo_readVertex_55 : decode b_Mo_readVertex 55 = .ok (.invokestatic 60, 3) := by decide +kernel
theorem d_Mo_readVertex_58 : decode b_Mo_readVertex 58 = .ok (.iload_n 2, 1) := by decide +kernel
theorem d_Mo_readVertex_59 : decode b_Mo_readVertex 59 = .ok (.if_icmp .ne 28, 3) := by decide +kernel
theorem d_Mo_readVertex_62 : decode b_Mo_readVertex 62 = .ok (.aload_n 0, 1) := by decide +kernel
theorem d_Mo_readVertex_63 : decode b_Mo_readVertex 63 = .ok (.getfield 7, 3) := by decide +kernel
theorem d_Mo_readVertex_66 : decode b_Mo_readVertex 66 = .ok (.bipush 9, 2) := by decide +kernel
theorem d_Mo_readVertex_68 : decode b_Mo_readVertex 68 = .ok (.iconst 4, 1) := by decide +kernel
theorem d_Mo_readVertex_69 : decode b_Mo_readVertex 69 = .ok (.iload 5, 2) := by decide +kernel
theorem d_Mo_readVertex_71 : decode b_Mo_readVertex 71 = .ok (.imul, 1) := by decide +kernel
theorem d_Mo_readVertex_72 : decode b_Mo_readVertex 72 = .ok (.iadd, 1) := by decide +kernel
theorem d_Mo_readVertex_73 : decode b_Mo_readVertex 73 = .ok (.invokestatic 60, 3) := by decide +kernel
theorem d_Mo_readVertex_76 : decode b_Mo_readVertex 76 = .ok (.iload 4, 2) := by decide +kernel
theorem d_Mo_readVertex_78 : decode b_Mo_readVertex 78 = .ok (.if_icmp .ne 9, 3) := by decide +kernel
theorem d_Mo_readVertex_81 : decode b_Mo_readVertex 81 = .ok (.aload_n 0, 1) := by decide +kernel
theorem d_Mo_readVertex_82 : decode b_Mo_readVertex 82 = .ok (.iconst 3, 1) := by decide +kernel
theorem d_Mo_readVertex_83 : decode b_Mo_readVertex 83 = .ok (.iload_n 3, 1) := by decide +kernel
theorem d_Mo_readVertex_84 : decode b_Mo_readVertex 84 = .ok (.invokevirtual 48, 3) := by decide +kernel
theorem d_Mo_readVertex_87 : decode b_Mo_readVertex 87 = .ok (.iinc 5 1, 3) := by decide +kernel
theorem d_Mo_readVertex_90 : decode b_Mo_readVertex 90 = .ok (.goto (-59), 3) := by decide +kernel
theorem d_Mo_readVertex_93 : decode b_Mo_readVertex 93 = .ok (.return_, 1) := by decide +kernel
theorem d_Mo_readTexture_0 : decode b_Mo_readTexture 0 = .ok (.aload_n 0, 1) := by decide +kernel
theorem d_Mo_readTexture_1 : decode b_Mo_readTexture 1 = .ok (.iconst 0, 1) := by decide +kernel
theorem d_Mo_readTexture_2 : decode b_Mo_readTexture 2 = .ok (.iconst 4, 1) := by decide +kernel
theorem d_Mo_readTexture_3 : decode b_Mo_readTexture 3 = .ok (.invokevirtual 52, 3) := by decide +kernel
theorem d_Mo_readTexture_6 : decode b_Mo_readTexture 6 = .ok (.istore_n 1, 1) := by decide +kernel
theorem d_Mo_readTexture_7 : decode b_Mo_readTexture 7 = .ok (.aload_n 0, 1) := by decide +kernel
theorem d_Mo_readTexture_8 : decode b_Mo_readTexture 8 = .ok (.iconst 0, 1) := by decide +kernel
theorem d_Mo_readTexture_9 : decode b_Mo_readTexture 9 = .ok (.iconst 4, 1) := by decide +kernel
theorem d_Mo_readTexture_10 : decode b_Mo_readTexture 10 = .ok (.invokevirtual 52, 3) := by decide +kernel
theorem d_Mo_readTexture_13 : decode b_Mo_readTexture 13 = .ok (.istore_n 2, 1) := by decide +kernel
theorem d_Mo_readTexture_14 : decode b_Mo_readTexture 14 = .ok (.iconst 0, 1) := by decide +kernel
theorem d_Mo_readTexture_15 : decode b_Mo_readTexture 15 = .ok (.istore_n 3, 1) := by decide +kernel
theorem d_Mo_readTexture_16 : decode b_Mo_readTexture 16 = .ok (.iload_n 3, 1) := by decide +kernel
theorem d_Mo_readTexture_17 : decode b_Mo_readTexture 17 = .ok (.iconst 1, 1) := by decide +kernel
theorem d_Mo_readTexture_18 : decode b_Mo_readTexture 18 = .ok (.iload_n 1, 1) := by decide +kernel
theorem d_Mo_readTexture_19 : decode b_Mo_readTexture 19 = .ok (.iload_n 2, 1) := by decide +kernel
theorem d_Mo_readTexture_20 : decode b_Mo_readTexture 20 = .ok (.iadd, 1) := by decide +kernel
theorem d_Mo_readTexture_21 : decode b_Mo_readTexture 21 = .ok (.ishl, 1) := by decide +kernel
theorem d_Mo_readTexture_22 : decode b_Mo_readTexture 22 = .ok (.if_icmp .ge 25, 3) := by decide +kernel
theorem d_Mo_readTexture_25 : decode b_Mo_readTexture 25 = .ok (.aload_n 0, 1) := by decide +kernel
theorem d_Mo_readTexture_26 : decode b_Mo_readTexture 26 = .ok (.getfield 42, 3) := by decide +kernel
theorem d_Mo_readTexture_29 : decode b_Mo_readTexture 29 = .ok (.ifCond .ne 18, 3) := by decide +kernel
theorem d_Mo_readTexture_32 : decode b_Mo_readTexture 32 = .ok (.aload_n 0, 1) := by decide +kernel
theorem d_Mo_readTexture_33 : decode b_Mo_readTexture 33 = .ok (.iconst 0, 1) := by decide +kernel
theorem d_Mo_readTexture_34 : decode b_Mo_readTexture 34 = .ok (.bipush 15, 2) := by decide +kernel
theorem d_Mo_readTexture_36 : decode b_Mo_readTexture 36 = .ok (.invokevirtual 52, 3) := by decide +kernel
theorem d_Mo_readTexture_39 : decode b_Mo_readTexture 39 = .ok (.istore 4, 2) := by decide +kernel
theorem d_Mo_readTexture_41 : decode b_Mo_readTexture 41 = .ok (.iinc 3 1, 3) := by decide +kernel
theorem d_Mo_readTexture_44 : decode b_Mo_readTexture 44 = .ok (.goto (-28), 3) := by decide +kernel
theorem d_Mo_readTexture_47 : decode b_Mo_readTexture 47 = .ok (.return_, 1) := by decide +kernel
theorem d_Mo_readSector_0 : decode b_Mo_readSector 0 = .ok (.aload_n 0, 1) := by decide +kernel
theorem d_Mo_readSector_1 : decode b_Mo_readSector 1 = .ok (.sipush (-1024), 3) := by decide +kernel
theorem d_Mo_readSector_4 : decode b_Mo_readSector 4 = .ok (.sipush 1024, 3) := by decide +kernel
theorem d_Mo_readSector_7 : decode b_Mo_readSector 7 = .ok (.invokevirtual 57, 3) := by decide +kernel
theorem d_Mo_readSector_10 : decode b_Mo_readSector 10 = .ok (.istore_n 2, 1) := by decide +kernel
theorem d_Mo_readSector_11 : decode b_Mo_readSector 11 = .ok (.aload_n 0, 1) := by decide +kernel
theorem d_Mo_readSector_12 : decode b_Mo_readSector 12 = .ok (.getfield 45, 3) := by decide +kernel
theorem d_Mo_readSector_15 : decode b_Mo_readSector 15 = .ok (.istore_n 3, 1) := by decide +kernel
theorem d_Mo_readSector_16 : decode b_Mo_readSector 16 = .ok (.aload_n 0, 1) := by decide +kernel
theorem d_Mo_readSector_17 : decode b_Mo_readSector 17 = .ok (.sipush (-1024), 3) := by decide +kernel
theorem d_Mo_readSector_20 : decode b_Mo_readSector 20 = .ok (.sipush 1024, 3) := by decide +kernel
theorem d_Mo_readSector_23 : decode b_Mo_readSector 23 = .ok (.invokevirtual 57, 3) := by decide +kernel
theorem d_Mo_readSector_26 : decode b_Mo_readSector 26 = .ok (.istore 4, 2) := by decide +kernel
theorem d_Mo_readSector_28 : decode b_Mo_readSector 28 = .ok (.aload_n 0, 1) := by decide +kernel
theorem d_Mo_readSector_29 : decode b_Mo_readSector 29 = .ok (.getfield 42, 3) := by decide +kernel
theorem d_Mo_readSector_32 : decode b_Mo_readSector 32 = .ok (.ifCond .ne 15, 3) := by decide +kernel
theorem d_Mo_readSector_35 : decode b_Mo_readSector 35 = .ok (.iload 4, 2) := by decide +kernel
theorem d_Mo_readSector_37 : decode b_Mo_readSector 37 = .ok (.iload_n 2, 1) := by decide +kernel
theorem d_Mo_readSector_38 : decode b_Mo_readSector 38 = .ok (.if_icmp .gt 9, 3) := by decide +kernel
theorem d_Mo_readSector_41 : decode b_Mo_readSector 41 = .ok (.aload_n 0, 1) := by decide +kernel
theorem d_Mo_readSector_42 : decode b_Mo_readSector 42 = .ok (.iconst 3, 1) := by decide +kernel
theorem d_Mo_readSector_43 : decode b_Mo_readSector 43 = .ok (.iload_n 3, 1) := by decide +kernel
theorem d_Mo_readSector_44 : decode b_Mo_readSector 44 = .ok (.invokevirtual 48, 3) := by decide +kernel
theorem d_Mo_readSector_47 : decode b_Mo_readSector 47 = .ok (.aload_n 0, 1) := by decide +kernel
theorem d_Mo_readSector_48 : decode b_Mo_readSector 48 = .ok (.iconst 0, 1) := by decide +kernel
theorem d_Mo_readSector_49 : decode b_Mo_readSector 49 = .ok (.iload_n 1, 1) := by decide +kernel
theorem d_Mo_readSector_50 : decode b_Mo_readSector 50 = .ok (.iconst 1, 1) := by decide +kernel
theorem d_Mo_readSector_51 : decode b_Mo_readSector 51 = .ok (.isub, 1) := by decide +kernel
theorem d_Mo_readSector_52 : decode b_Mo_readSector 52 = .ok (.invokevirtual 52, 3) := by decide +kernel
theorem d_Mo_readSector_55 : decode b_Mo_readSector 55 = .ok (.istore 5, 2) := by decide +kernel
theorem d_Mo_readSector_57 : decode b_Mo_readSector 57 = .ok (.aload_n 0, 1) := by decide +kernel
theorem d_Mo_readSector_58 : decode b_Mo_readSector 58 = .ok (.iload_n 1, 1) := by decide +kernel
theorem d_Mo_readSector_59 : decode b_Mo_readSector 59 = .ok (.invokevirtual 64, 3) := by decide +kernel
theorem d_Mo_readSector_62 : decode b_Mo_readSector 62 = .ok (.istore 6, 2) := by decide +kernel
theorem d_Mo_readSector_64 : decode b_Mo_readSector 64 = .ok (.aload_n 0, 1) := by decide +kernel
theorem d_Mo_readSector_65 : decode b_Mo_readSector 65 = .ok (.iconst 0, 1) := by decide +kernel
theorem d_Mo_readSector_66 : decode b_Mo_readSector 66 = .ok (.bipush 15, 2) := by decide +kernel
theorem d_Mo_readSector_68 : decode b_Mo_readSector 68 = .ok (.invokevirtual 52, 3) := by decide +kernel
theorem d_Mo_readSector_71 : decode b_Mo_readSector 71 = .ok (.istore 7, 2) := by decide +kernel
theorem d_Mo_readSector_73 : decode b_Mo_readSector 73 = .ok (.aload_n 0, 1) := by decide +kernel
theorem d_Mo_readSector_74 : decode b_Mo_readSector 74 = .ok (.iconst 0, 1) := by decide +kernel
theorem d_Mo_readSector_75 : decode b_Mo_readSector 75 = .ok (.iconst 3, 1) := by decide +kernel
theorem d_Mo_readSector_76 : decode b_Mo_readSector 76 = .ok (.invokevirtual 52, 3) := by decide +kernel
theorem d_Mo_readSector_79 : decode b_Mo_readSector 79 = .ok (.istore 8, 2) := by decide +kernel
theorem d_Mo_readSector_81 : decode b_Mo_readSector 81 = .ok (.aload_n 0, 1) := by decide +kernel
theorem d_Mo_readSector_82 : decode b_Mo_readSector 82 = .ok (.iconst 0, 1) := by decide +kernel
theorem d_Mo_readSector_83 : decode b_Mo_readSector 83 = .ok (.sipush 255, 3) := by decide +kernel
theorem d_Mo_readSector_86 : decode b_Mo_readSector 86 = .ok (.invokevirtual 52, 3) := by decide +kernel
theorem d_Mo_readSector_89 : decode b_Mo_readSector 89 = .ok (.istore 9, 2) := by decide +kernel
theorem d_Mo_readSector_91 : decode b_Mo_readSector 91 = .ok (.return_, 1) := by decide +kernel
theorem d_Mo_readWall_0 : decode b_Mo_readWall 0 = .ok (.aload_n 0, 1) := by decide +kernel
theorem d_Mo_readWall_1 : decode b_Mo_readWall 1 = .ok (.iconst 0, 1) := by decide +kernel
theorem d_Mo_readWall_2 : decode b_Mo_readWall 2 = .ok (.iload_n 1, 1) := by decide +kernel
theorem d_Mo_readWall_3 : decode b_Mo_readWall 3 = .ok (.iconst 1, 1) := by decide +kernel
theorem d_Mo_readWall_4 : decode b_Mo_readWall 4 = .ok (.isub, 1) := by decide +kernel
theorem d_Mo_readWall_5 : decode b_Mo_readWall 5 = .ok (.invokevirtual 52, 3) := by decide +kernel
theorem d_Mo_readWall_8 : decode b_Mo_readWall 8 = .ok (.istore 4, 2) := by decide +kernel
theorem d_Mo_readWall_10 : decode b_Mo_readWall 10 = .ok (.aload_n 0, 1) := by decide +kernel
theorem d_Mo_readWall_11 : decode b_Mo_readWall 11 = .ok (.iconst 0, 1) := by decide +kernel
theorem d_Mo_readWall_12 : decode b_Mo_readWall 12 = .ok (.iload_n 1, 1) := by decide +kernel
theorem d_Mo_readWall_13 : decode b_Mo_readWall 13 = .ok (.iconst 1, 1) := by decide +kernel
theorem d_Mo_readWall_14 : decode b_Mo_readWall 14 = .ok (.isub, 1) := by decide +kernel
theorem d_Mo_readWall_15 : decode b_Mo_readWall 15 = .ok (.invokevirtual 52, 3) := by decide +kernel
theorem d_Mo_readWall_18 : decode b_Mo_readWall 18 = .ok (.istore 5, 2) := by decide +kernel
theorem d_Mo_readWall_20 : decode b_Mo_readWall 20 = .ok (.aload_n 0, 1) := by decide +kernel
theorem d_Mo_readWall_21 : decode b_Mo_readWall 21 = .ok (.getfield 42, 3) := by decide +kernel
theorem d_Mo_readWall_24 : decode b_Mo_readWall 24 = .ok (.ifCond .ne 21, 3) := by decide +kernel
theorem d_Mo_readWall_27 : decode b_Mo_readWall 27 = .ok (.iload 4, 2) := by decide +kernel
theorem d_Mo_readWall_29 : decode b_Mo_readWall 29 = .ok (.iload 5, 2) := by decide +kernel
theorem d_Mo_readWall_31 : decode b_Mo_readWall 31 = .ok (.if_icmp .ne 14, 3) := by decide +kernel
theorem d_Mo_readWall_34 : decode b_Mo_readWall 34 = .ok (.aload_n 0, 1) := by decide +kernel
theorem d_Mo_readWall_35 : decode b_Mo_readWall 35 = .ok (.iconst 3, 1) := by decide +kernel
theorem d_Mo_readWall_36 : decode b_Mo_readWall 36 = .ok (.aload_n 0, 1) := by decide +kernel
theorem d_Mo_readWall_37 : decode b_Mo_readWall 37 = .ok (.getfield 45, 3) := by decide +kernel
theorem d_Mo_readWall_40 : decode b_Mo_readWall 40 = .ok (.iconst 1, 1) := by decide +kernel
theorem d_Mo_readWall_41 : decode b_Mo_readWall 41 = .ok (.isub, 1) := by decide +kernel
theorem d_Mo_readWall_42 : decode b_Mo_readWall 42 = .ok (.invokevirtual 48, 3) := by decide +kernel
theorem d_Mo_readWall_45 : decode b_Mo_readWall 45 = .ok (.aload_n 0, 1) := by decide +kernel
theorem d_Mo_readWall_46 : decode b_Mo_readWall 46 = .ok (.iconst 0, 1) := by decide +kernel
theorem d_Mo_readWall_47 : decode b_Mo_readWall 47 = .ok (.iload_n 3, 1) := by decide +kernel
theorem d_Mo_readWall_48 : decode b_Mo_readWall 48 = .ok (.iconst 1, 1) := by decide +kernel
theorem d_Mo_readWall_49 : decode b_Mo_readWall 49 = .ok (.isub, 1) := by decide +kernel
theorem d_Mo_readWall_50 : decode b_Mo_readWall 50 = .ok (.invokevirtual 52, 3) := by decide +kernel
theorem d_Mo_readWall_53 : decode b_Mo_readWall 53 = .ok (.istore 6, 2) := by decide +kernel
theorem d_Mo_readWall_55 : decode b_Mo_readWall 55 = .ok (.aload_n 0, 1) := by decide +kernel
theorem d_Mo_readWall_56 : decode b_Mo_readWall 56 = .ok (.iload_n 3, 1) := by decide +kernel
theorem d_Mo_readWall_57 : decode b_Mo_readWall 57 = .ok (.invokevirtual 64, 3) := by decide +kernel
theorem d_Mo_readWall_60 : decode b_Mo_readWall 60 = .ok (.istore 7, 2) := by decide +kernel
theorem d_Mo_readWall_62 : decode b_Mo_readWall 62 = .ok (.iconst 0, 1) := by decide +kernel
theorem d_Mo_readWall_63 : decode b_Mo_readWall 63 = .ok (.istore 8, 2) := by decide +kernel
theorem d_Mo_readWall_65 : decode b_Mo_readWall 65 = .ok (.iload 8, 2) := by decide +kernel
theorem d_Mo_readWall_67 : decode b_Mo_readWall 67 = .ok (.bipush 6, 2) := by decide +kernel
theorem d_Mo_readWall_69 : decode b_Mo_readWall 69 = .ok (.if_icmp .ge 56, 3) := by decide +kernel
theorem d_Mo_readWall_72 : decode b_Mo_readWall 72 = .ok (.aload_n 0, 1) := by decide +kernel
theorem d_Mo_readWall_73 : decode b_Mo_readWall 73 = .ok (.iload_n 2, 1) := by decide +kernel
theorem d_Mo_readWall_74 : decode b_Mo_readWall 74 = .ok (.invokevirtual 64, 3) := by decide +kernel
theorem d_Mo_readWall_77 : decode b_Mo_readWall 77 = .ok (.istore 9, 2) := by decide +kernel
theorem d_Mo_readWall_79 : decode b_Mo_readWall 79 = .ok (.aload_n 0, 1) := by decide +kernel
theorem d_Mo_readWall_80 : decode b_Mo_readWall 80 = .ok (.getfield 42, 3) := by decide +kernel
theorem d_Mo_readWall_83 : decode b_Mo_readWall 83 = .ok (.ifCond .ne 36, 3) := by decide +kernel
theorem d_Mo_readWall_86 : decode b_Mo_readWall 86 = .ok (.iload 8, 2) := by decide +kernel
theorem d_Mo_readWall_88 : decode b_Mo_readWall 88 = .ok (.iconst 2, 1) := by decide +kernel
theorem d_Mo_readWall_89 : decode b_Mo_readWall 89 = .ok (.if_icmp .le 30, 3) := by decide +kernel
theorem d_Mo_readWall_92 : decode b_Mo_readWall 92 = .ok (.iload 7, 2) := by decide +kernel
theorem d_Mo_readWall_94 : decode b_Mo_readWall 94 = .ok (.sipush 255, 3) := by decide +kernel
theorem d_Mo_readWall_97 : decode b_Mo_readWall 97 = .ok (.if_icmp .ne 22, 3) := by decide +kernel
theorem d_Mo_readWall_100 : decode b_Mo_readWall 100 = .ok (.iload 9, 2) := by decide +kernel
theorem d_Mo_readWall_102 : decode b_Mo_readWall 102 = .ok (.sipush 255, 3) := by decide +kernel
theorem d_Mo_readWall_105 : decode b_Mo_readWall 105 = .ok (.if_icmp .eq 14, 3) := by decide +kernel
theorem d_Mo_readWall_108 : decode b_Mo_readWall 108 = .ok (.aload_n 0, 1) := by decide +kernel
theorem d_Mo_readWall_109 : decode b_Mo_readWall 109 = .ok (.iconst 3, 1) := by decide +kernel
theorem d_Mo_readWall_110 : decode b_Mo_readWall 110 = .ok (.aload_n 0, 1) := by decide +kernel
theorem d_Mo_readWall_111 : decode b_Mo_readWall 111 = .ok (.getfield 45, 3) := by decide +kernel
theorem d_Mo_readWall_114 : decode b_Mo_readWall 114 = .ok (.iconst 1, 1) := by decide +kernel
theorem d_Mo_readWall_115 : decode b_Mo_readWall 115 = .ok (.isub, 1) := by decide +kernel
theorem d_Mo_readWall_116 : decode b_Mo_readWall 116 = .ok (.invokevirtual 48, 3) := by decide +kernel
theorem d_Mo_readWall_119 : decode b_Mo_readWall 119 = .ok (.iinc 8 1, 3) := by decide +kernel
theorem d_Mo_readWall_122 : decode b_Mo_readWall 122 = .ok (.goto (-57), 3) := by decide +kernel
theorem d_Mo_readWall_125 : decode b_Mo_readWall 125 = .ok (.aload_n 0, 1) := by decide +kernel
theorem d_Mo_readWall_126 : decode b_Mo_readWall 126 = .ok (.iconst 0, 1) := by decide +kernel
theorem d_Mo_readWall_127 : decode b_Mo_readWall 127 = .ok (.sipush 255, 3) := by decide +kernel
theorem d_Mo_readWall_130 : decode b_Mo_readWall 130 = .ok (.invokevirtual 52, 3) := by decide +kernel
theorem d_Mo_readWall_133 : decode b_Mo_readWall 133 = .ok (.istore 8, 2) := by decide +kernel
theorem d_Mo_readWall_135 : decode b_Mo_readWall 135 = .ok (.aload_n 0, 1) := by decide +kernel
theorem d_Mo_readWall_136 : decode b_Mo_readWall 136 = .ok (.iconst 0, 1) := by decide +kernel
theorem d_Mo_readWall_137 : decode b_Mo_readWall 137 = .ok (.iconst 3, 1) := by decide +kernel
theorem d_Mo_readWall_138 : decode b_Mo_readWall 138 = .ok (.invokevirtual 52, 3) := by decide +kernel
theorem d_Mo_readWall_141 : decode b_Mo_readWall 141 = .ok (.istore 9, 2) := by decide +kernel
theorem d_Mo_readWall_143 : decode b_Mo_readWall 143 = .ok (.aload_n 0, 1) := by decide +kernel
theorem d_Mo_readWall_144 : decode b_Mo_readWall 144 = .ok (.iconst 0, 1) := by decide +kernel
theorem d_Mo_readWall_145 : decode b_Mo_readWall 145 = .ok (.iconst 5, 1) := by decide +kernel
theorem d_Mo_readWall_146 : decode b_Mo_readWall 146 = .ok (.invokevirtual 52, 3) := by decide +kernel
theorem d_Mo_readWall_149 : decode b_Mo_readWall 149 = .ok (.istore 10, 2) := by decide +kernel
theorem d_Mo_readWall_151 : decode b_Mo_readWall 151 = .ok (.aload_n 0, 1) := by decide +kernel
theorem d_Mo_readWall_152 : decode b_Mo_readWall 152 = .ok (.iconst 0, 1) := by decide +kernel
theorem d_Mo_readWall_153 : decode b_Mo_readWall 153 = .ok (.sipush 255, 3) := by decide +kernel
theorem d_Mo_readWall_156 : decode b_Mo_readWall 156 = .ok (.invokevirtual 52, 3) := by decide +kernel
theorem d_Mo_readWall_159 : decode b_Mo_readWall 159 = .ok (.istore 11, 2) := by decide +kernel
theorem d_Mo_readWall_161 : decode b_Mo_readWall 161 = .ok (.return_, 1) := by decide +kernel
theorem d_Mo_readAll_0 : decode b_Mo_readAll 0 = .ok (.iconst 0, 1) := by decide +kernel
theorem d_Mo_readAll_1 : decode b_Mo_readAll 1 = .ok (.istore_n 1, 1) := by decide +kernel
theorem d_Mo_readAll_2 : decode b_Mo_readAll 2 = .ok (.iload_n 1, 1) := by decide +kernel
theorem d_Mo_readAll_3 : decode b_Mo_readAll 3 = .ok (.iconst 3, 1) := by decide +kernel
theorem d_Mo_readAll_4 : decode b_Mo_readAll 4 = .ok (.if_icmp .ge 64, 3) := by decide +kernel
theorem d_Mo_readAll_7 : decode b_Mo_readAll 7 = .ok (.aload_n 0, 1) := by decide +kernel
theorem d_Mo_readAll_8 : decode b_Mo_readAll 8 = .ok (.getfield 42, 3) := by decide +kernel
theorem d_Mo_readAll_11 : decode b_Mo_readAll 11 = .ok (.ifCond .ne 57, 3) := by decide +kernel
theorem d_Mo_readAll_14 : decode b_Mo_readAll 14 = .ok (.iload_n 1, 1) := by decide +kernel
theorem d_Mo_readAll_15 : decode b_Mo_readAll 15 = .ok (.ifCond .ne 8, 3) := by decide +kernel
theorem d_Mo_readAll_18 : decode b_Mo_readAll 18 = .ok (.bipush 77, 2) := by decide +kernel
theorem d_Mo_readAll_20 : decode b_Mo_readAll 20 = .ok (.goto 14, 3) := by decide +kernel
theorem d_Mo_readAll_23 : decode b_Mo_readAll 23 = .ok (.iload_n 1, 1) := by decide +kernel
theorem d_Mo_readAll_24 : decode b_Mo_readAll 24 = .ok (.iconst 1, 1) := by decide +kernel
theorem d_Mo_readAll_25 : decode b_Mo_readAll 25 = .ok (.if_icmp .ne 8, 3) := by decide +kernel
theorem d_Mo_readAll_28 : decode b_Mo_readAll 28 = .ok (.bipush 72, 2) := by decide +kernel
theorem d_Mo_readAll_30 : decode b_Mo_readAll 30 = .ok (.goto 4, 3) := by decide +kernel
theorem d_Mo_readAll_33 : decode b_Mo_readAll 33 = .ok (.iconst 1, 1) := by decide +kernel
theorem d_Mo_readAll_34 : decode b_Mo_readAll 34 = .ok (.istore_n 2, 1) := by decide +kernel
theorem d_Mo_readAll_35 : decode b_Mo_readAll 35 = .ok (.aload_n 0, 1) := by decide +kernel
theorem d_Mo_readAll_36 : decode b_Mo_readAll 36 = .ok (.iconst 0, 1) := by decide +kernel
theorem d_Mo_readAll_37 : decode b_Mo_readAll 37 = .ok (.sipush 255, 3) := by decide +kernel
theorem d_Mo_readAll_40 : decode b_Mo_readAll 40 = .ok (.invokevirtual 52, 3) := by decide +kernel
theorem d_Mo_readAll_43 : decode b_Mo_readAll 43 = .ok (.istore_n 3, 1) := by decide +kernel
theorem d_Mo_readAll_44 : decode b_Mo_readAll 44 = .ok (.aload_n 0, 1) := by decide +kernel
theorem d_Mo_readAll_45 : decode b_Mo_readAll 45 = .ok (.getfield 42, 3) := by decide +kernel
theorem d_Mo_readAll_48 : decode b_Mo_readAll 48 = .ok (.ifCond .ne 14, 3) := by decide +kernel
theorem d_Mo_readAll_51 : decode b_Mo_readAll 51 = .ok (.iload_n 3, 1) := by decide +kernel
theorem d_Mo_readAll_52 : decode b_Mo_readAll 52 = .ok (.iload_n 2, 1) := by decide +kernel
theorem d_Mo_readAll_53 : decode b_Mo_readAll 53 = .ok (.if_icmp .eq 9, 3) := by decide +kernel
theorem d_Mo_readAll_56 : decode b_Mo_readAll 56 = .ok (.aload_n 0, 1) := by decide +kernel
theorem d_Mo_readAll_57 : decode b_Mo_readAll 57 = .ok (.iconst 2, 1) := by decide +kernel
theorem d_Mo_readAll_58 : decode b_Mo_readAll 58 = .ok (.iload_n 1, 1) := by decide +kernel
theorem d_Mo_readAll_59 : decode b_Mo_readAll 59 = .ok (.invokevirtual 48, 3) := by decide +kernel
theorem d_Mo_readAll_62 : decode b_Mo_readAll 62 = .ok (.iinc 1 1, 3) := by decide +kernel
theorem d_Mo_readAll_65 : decode b_Mo_readAll 65 = .ok (.goto (-63), 3) := by decide +kernel
theorem d_Mo_readAll_68 : decode b_Mo_readAll 68 = .ok (.aload_n 0, 1) := by decide +kernel
theorem d_Mo_readAll_69 : decode b_Mo_readAll 69 = .ok (.iconst 0, 1) := by decide +kernel
theorem d_Mo_readAll_70 : decode b_Mo_readAll 70 = .ok (.sipush 128, 3) := by decide +kernel
theorem d_Mo_readAll_73 : decode b_Mo_readAll 73 = .ok (.invokevirtual 52, 3) := by decide +kernel
theorem d_Mo_readAll_76 : decode b_Mo_readAll 76 = .ok (.istore_n 1, 1) := by decide +kernel
theorem d_Mo_readAll_77 : decode b_Mo_readAll 77 = .ok (.aload_n 0, 1) := by decide +kernel
theorem d_Mo_readAll_78 : decode b_Mo_readAll 78 = .ok (.iconst 0, 1) := by decide +kernel
theorem d_Mo_readAll_79 : decode b_Mo_readAll 79 = .ok (.bipush 16, 2) := by decide +kernel
theorem d_Mo_readAll_81 : decode b_Mo_readAll 81 = .ok (.invokevirtual 52, 3) := by decide +kernel
theorem d_Mo_readAll_84 : decode b_Mo_readAll 84 = .ok (.istore_n 2, 1) := by decide +kernel
theorem d_Mo_readAll_85 : decode b_Mo_readAll 85 = .ok (.aload_n 0, 1) := by decide +kernel
theorem d_Mo_readAll_86 : decode b_Mo_readAll 86 = .ok (.iconst 1, 1) := by decide +kernel
theorem d_Mo_readAll_87 : decode b_Mo_readAll 87 = .ok (.bipush 32, 2) := by decide +kernel
theorem d_Mo_readAll_89 : decode b_Mo_readAll 89 = .ok (.invokevirtual 52, 3) := by decide +kernel
theorem d_Mo_readAll_92 : decode b_Mo_readAll 92 = .ok (.istore_n 3, 1) := by decide +kernel
theorem d_Mo_readAll_93 : decode b_Mo_readAll 93 = .ok (.aload_n 0, 1) := by decide +kernel
theorem d_Mo_readAll_94 : decode b_Mo_readAll 94 = .ok (.iconst 0, 1) := by decide +kernel
theorem d_Mo_readAll_95 : decode b_Mo_readAll 95 = .ok (.sipush 128, 3) := by decide +kernel
theorem d_Mo_readAll_98 : decode b_Mo_readAll 98 = .ok (.invokevirtual 52, 3) := by decide +kernel
theorem d_Mo_readAll_101 : decode b_Mo_readAll 101 = .ok (.istore 4, 2) := by decide +kernel
theorem d_Mo_readAll_103 : decode b_Mo_readAll 103 = .ok (.iconst 0, 1) := by decide +kernel
theorem d_Mo_readAll_104 : decode b_Mo_readAll 104 = .ok (.istore 5, 2) := by decide +kernel
theorem d_Mo_readAll_106 : decode b_Mo_readAll 106 = .ok (.iload 5, 2) := by decide +kernel
theorem d_Mo_readAll_108 : decode b_Mo_readAll 108 = .ok (.iload_n 1, 1) := by decide +kernel
theorem d_Mo_readAll_109 : decode b_Mo_readAll 109 = .ok (.if_icmp .ge 22, 3) := by decide +kernel
theorem d_Mo_readAll_112 : decode b_Mo_readAll 112 = .ok (.aload_n 0, 1) := by decide +kernel
theorem d_Mo_readAll_113 : decode b_Mo_readAll 113 = .ok (.getfield 42, 3) := by decide +kernel
theorem d_Mo_readAll_116 : decode b_Mo_readAll 116 = .ok (.ifCond .ne 15, 3) := by decide +kernel
theorem d_Mo_readAll_119 : decode b_Mo_readAll 119 = .ok (.aload_n 0, 1) := by decide +kernel
theorem d_Mo_readAll_120 : decode b_Mo_readAll 120 = .ok (.iload 5, 2) := by decide +kernel
theorem d_Mo_readAll_122 : decode b_Mo_readAll 122 = .ok (.invokevirtual 68, 3) := by decide +kernel
theorem d_Mo_readAll_125 : decode b_Mo_readAll 125 = .ok (.iinc 5 1, 3) := by decide +kernel
theorem d_Mo_readAll_128 : decode b_Mo_readAll 128 = .ok (.goto (-22), 3) := by decide +kernel
theorem d_Mo_readAll_131 : decode b_Mo_readAll 131 = .ok (.iconst 0, 1) := by decide +kernel
theorem d_Mo_readAll_132 : decode b_Mo_readAll 132 = .ok (.istore 5, 2) := by decide +kernel
theorem d_Mo_readAll_134 : decode b_Mo_readAll 134 = .ok (.iload 5, 2) := by decide +kernel
theorem d_Mo_readAll_136 : decode b_Mo_readAll 136 = .ok (.iload_n 2, 1) := by decide +kernel
theorem d_Mo_readAll_137 : decode b_Mo_readAll 137 = .ok (.if_icmp .ge 20, 3) := by decide +kernel
theorem d_Mo_readAll_140 : decode b_Mo_readAll 140 = .ok (.aload_n 0, 1) := by decide +kernel
theorem d_Mo_readAll_141 : decode b_Mo_readAll 141 = .ok (.getfield 42, 3) := by decide +kernel
theorem d_Mo_readAll_144 : decode b_Mo_readAll 144 = .ok (.ifCond .ne 13, 3) := by decide +kernel
theorem d_Mo_readAll_147 : decode b_Mo_readAll 147 = .ok (.aload_n 0, 1) := by decide +kernel
theorem d_Mo_readAll_148 : decode b_Mo_readAll 148 = .ok (.invokevirtual 71, 3) := by decide +kernel
theorem d_Mo_readAll_151 : decode b_Mo_readAll 151 = .ok (.iinc 5 1, 3) := by decide +kernel
theorem d_Mo_readAll_154 : decode b_Mo_readAll 154 = .ok (.goto (-20), 3) := by decide +kernel
theorem d_Mo_readAll_157 : decode b_Mo_readAll 157 = .ok (.iconst 0, 1) := by decide +kernel
theorem d_Mo_readAll_158 : decode b_Mo_readAll 158 = .ok (.istore 5, 2) := by decide +kernel
theorem d_Mo_readAll_160 : decode b_Mo_readAll 160 = .ok (.iload 5, 2) := by decide +kernel
theorem d_Mo_readAll_162 : decode b_Mo_readAll 162 = .ok (.iload_n 3, 1) := by decide +kernel
theorem d_Mo_readAll_163 : decode b_Mo_readAll 163 = .ok (.if_icmp .ge 21, 3) := by decide +kernel
theorem d_Mo_readAll_166 : decode b_Mo_readAll 166 = .ok (.aload_n 0, 1) := by decide +kernel
theorem d_Mo_readAll_167 : decode b_Mo_readAll 167 = .ok (.getfield 42, 3) := by decide +kernel
theorem d_Mo_readAll_170 : decode b_Mo_readAll 170 = .ok (.ifCond .ne 14, 3) := by decide +kernel
theorem d_Mo_readAll_173 : decode b_Mo_readAll 173 = .ok (.aload_n 0, 1) := by decide +kernel
theorem d_Mo_readAll_174 : decode b_Mo_readAll 174 = .ok (.iload_n 2, 1) := by decide +kernel
theorem d_Mo_readAll_175 : decode b_Mo_readAll 175 = .ok (.invokevirtual 74, 3) := by decide +kernel
theorem d_Mo_readAll_178 : decode b_Mo_readAll 178 = .ok (.iinc 5 1, 3) := by decide +kernel
theorem d_Mo_readAll_181 : decode b_Mo_readAll 181 = .ok (.goto (-21), 3) := by decide +kernel
theorem d_Mo_readAll_184 : decode b_Mo_readAll 184 = .ok (.aload_n 0, 1) := by decide +kernel
theorem d_Mo_readAll_185 : decode b_Mo_readAll 185 = .ok (.getfield 45, 3) := by decide +kernel
theorem d_Mo_readAll_188 : decode b_Mo_readAll 188 = .ok (.istore 5, 2) := by decide +kernel
theorem d_Mo_readAll_190 : decode b_Mo_readAll 190 = .ok (.iconst 0, 1) := by decide +kernel
theorem d_Mo_readAll_191 : decode b_Mo_readAll 191 = .ok (.istore 6, 2) := by decide +kernel
theorem d_Mo_readAll_193 : decode b_Mo_readAll 193 = .ok (.iload 6, 2) := by decide +kernel
theorem d_Mo_readAll_195 : decode b_Mo_readAll 195 = .ok (.iload 4, 2) := by decide +kernel
theorem d_Mo_readAll_197 : decode b_Mo_readAll 197 = .ok (.if_icmp .ge 23, 3) := by decide +kernel
theorem d_Mo_readAll_200 : decode b_Mo_readAll 200 = .ok (.aload_n 0, 1) := by decide +kernel
theorem d_Mo_readAll_201 : decode b_Mo_readAll 201 = .ok (.getfield 42, 3) := by decide +kernel
theorem d_Mo_readAll_204 : decode b_Mo_readAll 204 = .ok (.ifCond .ne 16, 3) := by decide +kernel
theorem d_Mo_readAll_207 : decode b_Mo_readAll 207 = .ok (.aload_n 0, 1) := by decide +kernel
theorem d_Mo_readAll_208 : decode b_Mo_readAll 208 = .ok (.iload_n 1, 1) := by decide +kernel
theorem d_Mo_readAll_209 : decode b_Mo_readAll 209 = .ok (.iload_n 2, 1) := by decide +kernel
theorem d_Mo_readAll_210 : decode b_Mo_readAll 210 = .ok (.iload_n 3, 1) := by decide +kernel
theorem d_Mo_readAll_211 : decode b_Mo_readAll 211 = .ok (.invokevirtual 77, 3) := by decide +kernel
theorem d_Mo_readAll_214 : decode b_Mo_readAll 214 = .ok (.iinc 6 1, 3) := by decide +kernel
theorem d_Mo_readAll_217 : decode b_Mo_readAll 217 = .ok (.goto (-24), 3) := by decide +kernel
theorem d_Mo_readAll_220 : decode b_Mo_readAll 220 = .ok (.aload_n 0, 1) := by decide +kernel
theorem d_Mo_readAll_221 : decode b_Mo_readAll 221 = .ok (.sipush (-32768), 3) := by decide +kernel
theorem d_Mo_readAll_224 : decode b_Mo_readAll 224 = .ok (.sipush 32767, 3) := by decide +kernel
theorem d_Mo_readAll_227 : decode b_Mo_readAll 227 = .ok (.invokevirtual 57, 3) := by decide +kernel
theorem d_Mo_readAll_230 : decode b_Mo_readAll 230 = .ok (.istore 6, 2) := by decide +kernel
theorem d_Mo_readAll_232 : decode b_Mo_readAll 232 = .ok (.aload_n 0, 1) := by decide +kernel
theorem d_Mo_readAll_233 : decode b_Mo_readAll 233 = .ok (.sipush (-32768), 3) := by decide +kernel
theorem d_Mo_readAll_236 : decode b_Mo_readAll 236 = .ok (.sipush 32767, 3) := by decide +kernel
theorem d_Mo_readAll_239 : decode b_Mo_readAll 239 = .ok (.invokevirtual 57, 3) := by decide +kernel
theorem d_Mo_readAll_242 : decode b_Mo_readAll 242 = .ok (.istore 7, 2) := by decide +kernel
theorem d_Mo_readAll_244 : decode b_Mo_readAll 244 = .ok (.aload_n 0, 1) := by decide +kernel
theorem d_Mo_readAll_245 : decode b_Mo_readAll 245 = .ok (.iconst 0, 1) := by decide +kernel
theorem d_Mo_readAll_246 : decode b_Mo_readAll 246 = .ok (.bipush 63, 2) := by decide +kernel
theorem d_Mo_readAll_248 : decode b_Mo_readAll 248 = .ok (.invokevirtual 52, 3) := by decide +kernel
theorem d_Mo_readAll_251 : decode b_Mo_readAll 251 = .ok (.istore 8, 2) := by decide +kernel
theorem d_Mo_readAll_253 : decode b_Mo_readAll 253 = .ok (.aload_n 0, 1) := by decide +kernel
theorem d_Mo_readAll_254 : decode b_Mo_readAll 254 = .ok (.iconst 0, 1) := by decide +kernel
theorem d_Mo_readAll_255 : decode b_Mo_readAll 255 = .ok (.iload_n 3, 1) := by decide +kernel
theorem d_Mo_readAll_256 : decode b_Mo_readAll 256 = .ok (.iconst 1, 1) := by decide +kernel
theorem d_Mo_readAll_257 : decode b_Mo_readAll 257 = .ok (.isub, 1) := by decide +kernel
theorem d_Mo_readAll_258 : decode b_Mo_readAll 258 = .ok (.invokevirtual 52, 3) := by decide +kernel
theorem d_Mo_readAll_261 : decode b_Mo_readAll 261 = .ok (.istore 9, 2) := by decide +kernel
theorem d_Mo_readAll_263 : decode b_Mo_readAll 263 = .ok (.aload_n 0, 1) := by decide +kernel
theorem d_Mo_readAll_264 : decode b_Mo_readAll 264 = .ok (.getfield 32, 3) := by decide +kernel
theorem d_Mo_readAll_267 : decode b_Mo_readAll 267 = .ok (.istore 10, 2) := by decide +kernel
theorem d_Mo_readAll_269 : decode b_Mo_readAll 269 = .ok (.aload_n 0, 1) := by decide +kernel
theorem d_Mo_readAll_270 : decode b_Mo_readAll 270 = .ok (.getfield 35, 3) := by decide +kernel
theorem d_Mo_readAll_273 : decode b_Mo_readAll 273 = .ok (.istore 11, 2) := by decide +kernel
theorem d_Mo_readAll_275 : decode b_Mo_readAll 275 = .ok (.aload_n 0, 1) := by decide +kernel
theorem d_Mo_readAll_276 : decode b_Mo_readAll 276 = .ok (.iload 10, 2) := by decide +kernel
theorem d_Mo_readAll_278 : decode b_Mo_readAll 278 = .ok (.invokevirtual 81, 3) := by decide +kernel
theorem d_Mo_readAll_281 : decode b_Mo_readAll 281 = .ok (.aload_n 0, 1) := by decide +kernel
theorem d_Mo_readAll_282 : decode b_Mo_readAll 282 = .ok (.iload 11, 2) := by decide +kernel
theorem d_Mo_readAll_284 : decode b_Mo_readAll 284 = .ok (.invokevirtual 81, 3) := by decide +kernel
theorem d_Mo_readAll_287 : decode b_Mo_readAll 287 = .ok (.aload_n 0, 1) := by decide +kernel
theorem d_Mo_readAll_288 : decode b_Mo_readAll 288 = .ok (.getfield 42, 3) := by decide +kernel
theorem d_Mo_readAll_291 : decode b_Mo_readAll 291 = .ok (.ifCond .ne 23, 3) := by decide +kernel
theorem d_Mo_readAll_294 : decode b_Mo_readAll 294 = .ok (.aload_n 0, 1) := by decide +kernel
theorem d_Mo_readAll_295 : decode b_Mo_readAll 295 = .ok (.getfield 45, 3) := by decide +kernel
theorem d_Mo_readAll_298 : decode b_Mo_readAll 298 = .ok (.aload_n 0, 1) := by decide +kernel
theorem d_Mo_readAll_299 : decode b_Mo_readAll 299 = .ok (.getfield 29, 3) := by decide +kernel
theorem d_Mo_readAll_302 : decode b_Mo_readAll 302 = .ok (.if_icmp .ge 12, 3) := by decide +kernel
theorem d_Mo_readAll_305 : decode b_Mo_readAll 305 = .ok (.aload_n 0, 1) := by decide +kernel
theorem d_Mo_readAll_306 : decode b_Mo_readAll 306 = .ok (.iconst 5, 1) := by decide +kernel
theorem d_Mo_readAll_307 : decode b_Mo_readAll 307 = .ok (.aload_n 0, 1) := by decide +kernel
theorem d_Mo_readAll_308 : decode b_Mo_readAll 308 = .ok (.getfield 45, 3) := by decide +kernel
theorem d_Mo_readAll_311 : decode b_Mo_readAll 311 = .ok (.invokevirtual 48, 3) := by decide +kernel
theorem d_Mo_readAll_314 : decode b_Mo_readAll 314 = .ok (.iconst 0, 1) := by decide +kernel
theorem d_Mo_readAll_315 : decode b_Mo_readAll 315 = .ok (.istore 12, 2) := by decide +kernel
theorem d_Mo_readAll_317 : decode b_Mo_readAll 317 = .ok (.iload 12, 2) := by decide +kernel
theorem d_Mo_readAll_319 : decode b_Mo_readAll 319 = .ok (.iload 4, 2) := by decide +kernel
theorem d_Mo_readAll_321 : decode b_Mo_readAll 321 = .ok (.if_icmp .ge 82, 3) := by decide +kernel
theorem d_Mo_readAll_324 : decode b_Mo_readAll 324 = .ok (.aload_n 0, 1) := by decide +kernel
theorem d_Mo_readAll_325 : decode b_Mo_readAll 325 = .ok (.getfield 42, 3) := by decide +kernel
theorem d_Mo_readAll_328 : decode b_Mo_readAll 328 = .ok (.ifCond .ne 75, 3) := by decide +kernel
theorem d_Mo_readAll_331 : decode b_Mo_readAll 331 = .ok (.iconst 0, 1) := by decide +kernel
theorem d_Mo_readAll_332 : decode b_Mo_readAll 332 = .ok (.istore 13, 2) := by decide +kernel
theorem d_Mo_readAll_334 : decode b_Mo_readAll 334 = .ok (.iload 13, 2) := by decide +kernel
theorem d_Mo_readAll_336 : decode b_Mo_readAll 336 = .ok (.iload 12, 2) := by decide +kernel
theorem d_Mo_readAll_338 : decode b_Mo_readAll 338 = .ok (.if_icmp .ge 59, 3) := by decide +kernel
theorem d_Mo_readAll_341 : decode b_Mo_readAll 341 = .ok (.aload_n 0, 1) := by decide +kernel
theorem d_Mo_readAll_342 : decode b_Mo_readAll 342 = .ok (.getfield 42, 3) := by decide +kernel
theorem d_Mo_readAll_345 : decode b_Mo_readAll 345 = .ok (.ifCond .ne 52, 3) := by decide +kernel
theorem d_Mo_readAll_348 : decode b_Mo_readAll 348 = .ok (.aload_n 0, 1) := by decide +kernel
theorem d_Mo_readAll_349 : decode b_Mo_readAll 349 = .ok (.iload 5, 2) := by decide +kernel
theorem d_Mo_readAll_351 : decode b_Mo_readAll 351 = .ok (.bipush 14, 2) := by decide +kernel
theorem d_Mo_readAll_353 : decode b_Mo_readAll 353 = .ok (.iload 13, 2) := by decide +kernel
theorem d_Mo_readAll_355 : decode b_Mo_readAll 355 = .ok (.imul, 1) := by decide +kernel
theorem d_Mo_readAll_356 : decode b_Mo_readAll 356 = .ok (.iadd, 1) := by decide +kernel
theorem d_Mo_readAll_357 : decode b_Mo_readAll 357 = .ok (.iload 5, 2) := by decide +kernel
theorem d_Mo_readAll_359 : decode b_Mo_readAll 359 = .ok (.bipush 14, 2) := by decide +kernel
theorem d_Mo_readAll_361 : decode b_Mo_readAll 361 = .ok (.iload 12, 2) := by decide +kernel
theorem d_Mo_readAll_363 : decode b_Mo_readAll 363 = .ok (.imul, 1) := by decide +kernel
theorem d_Mo_readAll_364 : decode b_Mo_readAll 364 = .ok (.iadd, 1) := by decide +kernel
theorem d_Mo_readAll_365 : decode b_Mo_readAll 365 = .ok (.invokevirtual 84, 3) := by decide +kernel
theorem d_Mo_readAll_368 : decode b_Mo_readAll 368 = .ok (.ifCond .eq 23, 3) := by decide +kernel
theorem d_Mo_readAll_371 : decode b_Mo_readAll 371 = .ok (.aload_n 0, 1) := by decide +kernel
theorem d_Mo_readAll_372 : decode b_Mo_readAll 372 = .ok (.bipush 6, 2) := by decide +kernel
theorem d_Mo_readAll_374 : decode b_Mo_readAll 374 = .ok (.iload 5, 2) := by decide +kernel
theorem d_Mo_readAll_376 : decode b_Mo_readAll 376 = .ok (.bipush 14, 2) := by decide +kernel
theorem d_Mo_readAll_378 : decode b_Mo_readAll 378 = .ok (.iload 12, 2) := by decide +kernel
theorem d_Mo_readAll_380 : decode b_Mo_readAll 380 = .ok (.imul, 1) := by decide +kernel
theorem d_Mo_readAll_381 : decode b_Mo_readAll 381 = .ok (.iadd, 1) := by decide +kernel
theorem d_Mo_readAll_382 : decode b_Mo_readAll 382 = .ok (.invokevirtual 48, 3) := by decide +kernel
theorem d_Mo_readAll_385 : decode b_Mo_readAll 385 = .ok (.aload_n 0, 1) := by decide +kernel
theorem d_Mo_readAll_386 : decode b_Mo_readAll 386 = .ok (.iload 12, 2) := by decide +kernel
theorem d_Mo_readAll_388 : decode b_Mo_readAll 388 = .ok (.putfield 23, 3) := by decide +kernel
theorem d_Mo_readAll_391 : decode b_Mo_readAll 391 = .ok (.iinc 13 1, 3) := by decide +kernel
theorem d_Mo_readAll_394 : decode b_Mo_readAll 394 = .ok (.goto (-60), 3) := by decide +kernel
theorem d_Mo_readAll_397 : decode b_Mo_readAll 397 = .ok (.iinc 12 1, 3) := by decide +kernel
theorem d_Mo_readAll_400 : decode b_Mo_readAll 400 = .ok (.goto (-83), 3) := by decide +kernel
theorem d_Mo_readAll_403 : decode b_Mo_readAll 403 = .ok (.return_, 1) := by decide +kernel
theorem d_Mo_readCheck_0 : decode b_Mo_readCheck 0 = .ok (.aload_n 0, 1) := by decide +kernel
theorem d_Mo_readCheck_1 : decode b_Mo_readCheck 1 = .ok (.getfield 45, 3) := by decide +kernel
theorem d_Mo_readCheck_4 : decode b_Mo_readCheck 4 = .ok (.istore_n 2, 1) := by decide +kernel
theorem d_Mo_readCheck_5 : decode b_Mo_readCheck 5 = .ok (.aload_n 0, 1) := by decide +kernel
theorem d_Mo_readCheck_6 : decode b_Mo_readCheck 6 = .ok (.iconst 0, 1) := by decide +kernel
theorem d_Mo_readCheck_7 : decode b_Mo_readCheck 7 = .ok (.sipush 255, 3) := by decide +kernel
theorem d_Mo_readCheck_10 : decode b_Mo_readCheck 10 = .ok (.invokevirtual 52, 3) := by decide +kernel
theorem d_Mo_readCheck_13 : decode b_Mo_readCheck 13 = .ok (.istore_n 3, 1) := by decide +kernel
theorem d_Mo_readCheck_14 : decode b_Mo_readCheck 14 = .ok (.aload_n 0, 1) := by decide +kernel
theorem d_Mo_readCheck_15 : decode b_Mo_readCheck 15 = .ok (.getfield 42, 3) := by decide +kernel
theorem d_Mo_readCheck_18 : decode b_Mo_readCheck 18 = .ok (.ifCond .ne 14, 3) := by decide +kernel
theorem d_Mo_readCheck_21 : decode b_Mo_readCheck 21 = .ok (.iload_n 3, 1) := by decide +kernel
theorem d_Mo_readCheck_22 : decode b_Mo_readCheck 22 = .ok (.iload_n 1, 1) := by decide +kernel
theorem d_Mo_readCheck_23 : decode b_Mo_readCheck 23 = .ok (.if_icmp .eq 9, 3) := by decide +kernel
theorem d_Mo_readCheck_26 : decode b_Mo_readCheck 26 = .ok (.aload_n 0, 1) := by decide +kernel
theorem d_Mo_readCheck_27 : decode b_Mo_readCheck 27 = .ok (.iconst 4, 1) := by decide +kernel
theorem d_Mo_readCheck_28 : decode b_Mo_readCheck 28 = .ok (.iload_n 2, 1) := by decide +kernel
theorem d_Mo_readCheck_29 : decode b_Mo_readCheck 29 = .ok (.invokevirtual 48, 3) := by decide +kernel
theorem d_Mo_readCheck_32 : decode b_Mo_readCheck 32 = .ok (.return_, 1) := by decide +kernel
theorem d_Mo_vertexOf_0 : decode b_Mo_vertexOf 0 = .ok (.aload_n 0, 1) := by decide +kernel
theorem d_Mo_vertexOf_1 : decode b_Mo_vertexOf 1 = .ok (.getfield 7, 3) := by decide +kernel
theorem d_Mo_vertexOf_4 : decode b_Mo_vertexOf 4 = .ok (.iload_n 1, 1) := by decide +kernel
theorem d_Mo_vertexOf_5 : decode b_Mo_vertexOf 5 = .ok (.iload_n 2, 1) := by decide +kernel
theorem d_Mo_vertexOf_6 : decode b_Mo_vertexOf 6 = .ok (.iadd, 1) := by decide +kernel
theorem d_Mo_vertexOf_7 : decode b_Mo_vertexOf 7 = .ok (.baload, 1) := by decide +kernel
theorem d_Mo_vertexOf_8 : decode b_Mo_vertexOf 8 = .ok (.sipush 255, 3) := by decide +kernel
theorem d_Mo_vertexOf_11 : decode b_Mo_vertexOf 11 = .ok (.iand, 1) := by decide +kernel
theorem d_Mo_vertexOf_12 : decode b_Mo_vertexOf 12 = .ok (.ireturn, 1) := by decide +kernel
theorem d_Mo_cross_0 : decode b_Mo_cross 0 = .ok (.lload_n 0, 1) := by decide +kernel
theorem d_Mo_cross_1 : decode b_Mo_cross 1 = .ok (.lload 6, 2) := by decide +kernel
theorem d_Mo_cross_3 : decode b_Mo_cross 3 = .ok (.lmul, 1) := by decide +kernel
theorem d_Mo_cross_4 : decode b_Mo_cross 4 = .ok (.lload_n 2, 1) := by decide +kernel
theorem d_Mo_cross_5 : decode b_Mo_cross 5 = .ok (.lload 4, 2) := by decide +kernel
theorem d_Mo_cross_7 : decode b_Mo_cross 7 = .ok (.lmul, 1) := by decide +kernel
theorem d_Mo_cross_8 : decode b_Mo_cross 8 = .ok (.lsub, 1) := by decide +kernel
theorem d_Mo_cross_9 : decode b_Mo_cross 9 = .ok (.lreturn, 1) := by decide +kernel
theorem d_Mo_side_0 : decode b_Mo_side 0 = .ok (.aload_n 0, 1) := by decide +kernel
theorem d_Mo_side_1 : decode b_Mo_side 1 = .ok (.getfield 7, 3) := by decide +kernel
theorem d_Mo_side_4 : decode b_Mo_side 4 = .ok (.bipush 7, 2) := by decide +kernel
theorem d_Mo_side_6 : decode b_Mo_side 6 = .ok (.iconst 4, 1) := by decide +kernel
theorem d_Mo_side_7 : decode b_Mo_side 7 = .ok (.aload_n 0, 1) := by decide +kernel
theorem d_Mo_side_8 : decode b_Mo_side 8 = .ok (.iload_n 1, 1) := by decide +kernel
theorem d_Mo_side_9 : decode b_Mo_side 9 = .ok (.iconst 0, 1) := by decide +kernel
theorem d_Mo_side_10 : decode b_Mo_side 10 = .ok (.invokevirtual 88, 3) := by decide +kernel
theorem d_Mo_side_13 : decode b_Mo_side 13 = .ok (.imul, 1) := by decide +kernel
theorem d_Mo_side_14 : decode b_Mo_side 14 = .ok (.iadd, 1) := by decide +kernel
theorem d_Mo_side_15 : decode b_Mo_side 15 = .ok (.invokestatic 60, 3) := by decide +kernel
theorem d_Mo_side_18 : decode b_Mo_side 18 = .ok (.i2l, 1) := by decide +kernel
theorem d_Mo_side_19 : decode b_Mo_side 19 = .ok (.lstore_n 3, 1) := by decide +kernel
theorem d_Mo_side_20 : decode b_Mo_side 20 = .ok (.aload_n 0, 1) := by decide +kernel
theorem d_Mo_side_21 : decode b_Mo_side 21 = .ok (.getfield 7, 3) := by decide +kernel
theorem d_Mo_side_24 : decode b_Mo_side 24 = .ok (.bipush 9, 2) := by decide +kernel
theorem d_Mo_side_26 : decode b_Mo_side 26 = .ok (.iconst 4, 1) := by decide +kernel
theorem d_Mo_side_27 : decode b_Mo_side 27 = .ok (.aload_n 0, 1) := by decide +kernel
theorem d_Mo_side_28 : decode b_Mo_side 28 = .ok (.iload_n 1, 1) := by decide +kernel
theorem d_Mo_side_29 : decode b_Mo_side 29 = .ok (.iconst 0, 1) := by decide +kernel
theorem d_Mo_side_30 : decode b_Mo_side 30 = .ok (.invokevirtual 88, 3) := by decide +kernel
theorem d_Mo_side_33 : decode b_Mo_side 33 = .ok (.imul, 1) := by decide +kernel
theorem d_Mo_side_34 : decode b_Mo_side 34 = .ok (.iadd, 1) := by decide +kernel
theorem d_Mo_side_35 : decode b_Mo_side 35 = .ok (.invokestatic 60, 3) := by decide +kernel
theorem d_Mo_side_38 : decode b_Mo_side 38 = .ok (.i2l, 1) := by decide +kernel
theorem d_Mo_side_39 : decode b_Mo_side 39 = .ok (.lstore 5, 2) := by decide +kernel
theorem d_Mo_side_41 : decode b_Mo_side 41 = .ok (.aload_n 0, 1) := by decide +kernel
theorem d_Mo_side_42 : decode b_Mo_side 42 = .ok (.getfield 7, 3) := by decide +kernel
theorem d_Mo_side_45 : decode b_Mo_side 45 = .ok (.bipush 7, 2) := by decide +kernel
theorem d_Mo_side_47 : decode b_Mo_side 47 = .ok (.iconst 4, 1) := by decide +kernel
theorem d_Mo_side_48 : decode b_Mo_side 48 = .ok (.aload_n 0, 1) := by decide +kernel
theorem d_Mo_side_49 : decode b_Mo_side 49 = .ok (.iload_n 1, 1) := by decide +kernel
theorem d_Mo_side_50 : decode b_Mo_side 50 = .ok (.iconst 1, 1) := by decide +kernel
theorem d_Mo_side_51 : decode b_Mo_side 51 = .ok (.invokevirtual 88, 3) := by decide +kernel
theorem d_Mo_side_54 : decode b_Mo_side 54 = .ok (.imul, 1) := by decide +kernel
theorem d_Mo_side_55 : decode b_Mo_side 55 = .ok (.iadd, 1) := by decide +kernel
theorem d_Mo_side_56 : decode b_Mo_side 56 = .ok (.invokestatic 60, 3) := by decide +kernel
theorem d_Mo_side_59 : decode b_Mo_side 59 = .ok (.i2l, 1) := by decide +kernel
theorem d_Mo_side_60 : decode b_Mo_side 60 = .ok (.lstore 7, 2) := by decide +kernel
theorem d_Mo_side_62 : decode b_Mo_side 62 = .ok (.aload_n 0, 1) := by decide +kernel
theorem d_Mo_side_63 : decode b_Mo_side 63 = .ok (.getfield 7, 3) := by decide +kernel
theorem d_Mo_side_66 : decode b_Mo_side 66 = .ok (.bipush 9, 2) := by decide +kernel
theorem d_Mo_side_68 : decode b_Mo_side 68 = .ok (.iconst 4, 1) := by decide +kernel
theorem d_Mo_side_69 : decode b_Mo_side 69 = .ok (.aload_n 0, 1) := by decide +kernel
theorem d_Mo_side_70 : decode b_Mo_side 70 = .ok (.iload_n 1, 1) := by decide +kernel
theorem d_Mo_side_71 : decode b_Mo_side 71 = .ok (.iconst 1, 1) := by decide +kernel
theorem d_Mo_side_72 : decode b_Mo_side 72 = .ok (.invokevirtual 88, 3) := by decide +kernel
theorem d_Mo_side_75 : decode b_Mo_side 75 = .ok (.imul, 1) := by decide +kernel
theorem d_Mo_side_76 : decode b_Mo_side 76 = .ok (.iadd, 1) := by decide +kernel
theorem d_Mo_side_77 : decode b_Mo_side 77 = .ok (.invokestatic 60, 3) := by decide +kernel
theorem d_Mo_side_80 : decode b_Mo_side 80 = .ok (.i2l, 1) := by decide +kernel
theorem d_Mo_side_81 : decode b_Mo_side 81 = .ok (.lstore 9, 2) := by decide +kernel
theorem d_Mo_side_83 : decode b_Mo_side 83 = .ok (.lload 7, 2) := by decide +kernel
theorem d_Mo_side_85 : decode b_Mo_side 85 = .ok (.lload_n 3, 1) := by decide +kernel
theorem d_Mo_side_86 : decode b_Mo_side 86 = .ok (.lsub, 1) := by decide +kernel
theorem d_Mo_side_87 : decode b_Mo_side 87 = .ok (.lload 9, 2) := by decide +kernel
theorem d_Mo_side_89 : decode b_Mo_side 89 = .ok (.lload 5, 2) := by decide +kernel
theorem d_Mo_side_91 : decode b_Mo_side 91 = .ok (.lsub, 1) := by decide +kernel
theorem d_Mo_side_92 : decode b_Mo_side 92 = .ok (.aload_n 0, 1) := by decide +kernel
theorem d_Mo_side_93 : decode b_Mo_side 93 = .ok (.getfield 7, 3) := by decide +kernel
theorem d_Mo_side_96 : decode b_Mo_side 96 = .ok (.bipush 7, 2) := by decide +kernel
theorem d_Mo_side_98 : decode b_Mo_side 98 = .ok (.iconst 4, 1) := by decide +kernel
theorem d_Mo_side_99 : decode b_Mo_side 99 = .ok (.iload_n 2, 1) := by decide +kernel
theorem d_Mo_side_100 : decode b_Mo_side 100 = .ok (.imul, 1) := by decide +kernel
theorem d_Mo_side_101 : decode b_Mo_side 101 = .ok (.iadd, 1) := by decide +kernel
theorem d_Mo_side_102 : decode b_Mo_side 102 = .ok (.invokestatic 60, 3) := by decide +kernel
theorem d_Mo_side_105 : decode b_Mo_side 105 = .ok (.i2l, 1) := by decide +kernel
theorem d_Mo_side_106 : decode b_Mo_side 106 = .ok (.lload_n 3, 1) := by decide +kernel
theorem d_Mo_side_107 : decode b_Mo_side 107 = .ok (.lsub, 1) := by decide +kernel
theorem d_Mo_side_108 : decode b_Mo_side 108 = .ok (.aload_n 0, 1) := by decide +kernel
theorem d_Mo_side_109 : decode b_Mo_side 109 = .ok (.getfield 7, 3) := by decide +kernel
theorem d_Mo_side_112 : decode b_Mo_side 112 = .ok (.bipush 9, 2) := by decide +kernel
theorem d_Mo_side_114 : decode b_Mo_side 114 = .ok (.iconst 4, 1) := by decide +kernel
theorem d_Mo_side_115 : decode b_Mo_side 115 = .ok (.iload_n 2, 1) := by decide +kernel
theorem d_Mo_side_116 : decode b_Mo_side 116 = .ok (.imul, 1) := by decide +kernel
theorem d_Mo_side_117 : decode b_Mo_side 117 = .ok (.iadd, 1) := by decide +kernel
theorem d_Mo_side_118 : decode b_Mo_side 118 = .ok (.invokestatic 60, 3) := by decide +kernel
theorem d_Mo_side_121 : decode b_Mo_side 121 = .ok (.i2l, 1) := by decide +kernel
theorem d_Mo_side_122 : decode b_Mo_side 122 = .ok (.lload 5, 2) := by decide +kernel
theorem d_Mo_side_124 : decode b_Mo_side 124 = .ok (.lsub, 1) := by decide +kernel
theorem d_Mo_side_125 : decode b_Mo_side 125 = .ok (.invokestatic 91, 3) := by decide +kernel
theorem d_Mo_side_128 : decode b_Mo_side 128 = .ok (.lstore 11, 2) := by decide +kernel
theorem d_Mo_side_130 : decode b_Mo_side 130 = .ok (.lload 11, 2) := by decide +kernel
theorem d_Mo_side_132 : decode b_Mo_side 132 = .ok (.lconst 0, 1) := by decide +kernel
theorem d_Mo_side_133 : decode b_Mo_side 133 = .ok (.lcmp, 1) := by decide +kernel
theorem d_Mo_side_134 : decode b_Mo_side 134 = .ok (.ifCond .ge 7, 3) := by decide +kernel
theorem d_Mo_side_137 : decode b_Mo_side 137 = .ok (.iconst (-1), 1) := by decide +kernel
theorem d_Mo_side_138 : decode b_Mo_side 138 = .ok (.goto 15, 3) := by decide +kernel
theorem d_Mo_side_141 : decode b_Mo_side 141 = .ok (.lload 11, 2) := by decide +kernel
theorem d_Mo_side_143 : decode b_Mo_side 143 = .ok (.lconst 0, 1) := by decide +kernel
theorem d_Mo_side_144 : decode b_Mo_side 144 = .ok (.lcmp, 1) := by decide +kernel
theorem d_Mo_side_145 : decode b_Mo_side 145 = .ok (.ifCond .le 7, 3) := by decide +kernel
theorem d_Mo_side_148 : decode b_Mo_side 148 = .ok (.iconst 1, 1) := by decide +kernel
theorem d_Mo_side_149 : decode b_Mo_side 149 = .ok (.goto 4, 3) := by decide +kernel
theorem d_Mo_side_152 : decode b_Mo_side 152 = .ok (.iconst 0, 1) := by decide +kernel
theorem d_Mo_side_153 : decode b_Mo_side 153 = .ok (.ireturn, 1) := by decide +kernel
theorem d_Mo_lies_0 : decode b_Mo_lies 0 = .ok (.aload_n 0, 1) := by decide +kernel
theorem d_Mo_lies_1 : decode b_Mo_lies 1 = .ok (.iload_n 1, 1) := by decide +kernel
theorem d_Mo_lies_2 : decode b_Mo_lies 2 = .ok (.iconst 0, 1) := by decide +kernel
theorem d_Mo_lies_3 : decode b_Mo_lies 3 = .ok (.invokevirtual 88, 3) := by decide +kernel
theorem d_Mo_lies_6 : decode b_Mo_lies 6 = .ok (.istore_n 3, 1) := by decide +kernel
theorem d_Mo_lies_7 : decode b_Mo_lies 7 = .ok (.aload_n 0, 1) := by decide +kernel
theorem d_Mo_lies_8 : decode b_Mo_lies 8 = .ok (.iload_n 1, 1) := by decide +kernel
theorem d_Mo_lies_9 : decode b_Mo_lies 9 = .ok (.iconst 1, 1) := by decide +kernel
theorem d_Mo_lies_10 : decode b_Mo_lies 10 = .ok (.invokevirtual 88, 3) := by decide +kernel
theorem d_Mo_lies_13 : decode b_Mo_lies 13 = .ok (.istore 4, 2) := by decide +kernel
theorem d_Mo_lies_15 : decode b_Mo_lies 15 = .ok (.iload_n 2, 1) := by decide +kernel
theorem d_Mo_lies_16 : decode b_Mo_lies 16 = .ok (.iload_n 3, 1) := by decide +kernel
theorem d_Mo_lies_17 : decode b_Mo_lies 17 = .ok (.if_icmp .eq 18, 3) := by decide +kernel
theorem d_Mo_lies_20 : decode b_Mo_lies 20 = .ok (.iload_n 2, 1) := by decide +kernel
theorem d_Mo_lies_21 : decode b_Mo_lies 21 = .ok (.iload 4, 2) := by decide +kernel
theorem d_Mo_lies_23 : decode b_Mo_lies 23 = .ok (.if_icmp .eq 12, 3) := by decide +kernel
theorem d_Mo_lies_26 : decode b_Mo_lies 26 = .ok (.aload_n 0, 1) := by decide +kernel
theorem d_Mo_lies_27 : decode b_Mo_lies 27 = .ok (.iload_n 1, 1) := by decide +kernel
theorem d_Mo_lies_28 : decode b_Mo_lies 28 = .ok (.iload_n 2, 1) := by decide +kernel
theorem d_Mo_lies_29 : decode b_Mo_lies 29 = .ok (.invokevirtual 95, 3) := by decide +kernel
theorem d_Mo_lies_32 : decode b_Mo_lies 32 = .ok (.ifCond .eq 5, 3) := by decide +kernel
theorem d_Mo_lies_35 : decode b_Mo_lies 35 = .ok (.iconst 0, 1) := by decide +kernel
theorem d_Mo_lies_36 : decode b_Mo_lies 36 = .ok (.ireturn, 1) := by decide +kernel
theorem d_Mo_lies_37 : decode b_Mo_lies 37 = .ok (.aload_n 0, 1) := by decide +kernel
theorem d_Mo_lies_38 : decode b_Mo_lies 38 = .ok (.getfield 7, 3) := by decide +kernel
theorem d_Mo_lies_41 : decode b_Mo_lies 41 = .ok (.bipush 7, 2) := by decide +kernel
theorem d_Mo_lies_43 : decode b_Mo_lies 43 = .ok (.iconst 4, 1) := by decide +kernel
theorem d_Mo_lies_44 : decode b_Mo_lies 44 = .ok (.iload_n 2, 1) := by decide +kernel
theorem d_Mo_lies_45 : decode b_Mo_lies 45 = .ok (.imul, 1) := by decide +kernel
theorem d_Mo_lies_46 : decode b_Mo_lies 46 = .ok (.iadd, 1) := by decide +kernel
theorem d_Mo_lies_47 : decode b_Mo_lies 47 = .ok (.invokestatic 60, 3) := by decide +kernel
theorem d_Mo_lies_50 : decode b_Mo_lies 50 = .ok (.i2l, 1) := by decide +kernel
theorem d_Mo_lies_51 : decode b_Mo_lies 51 = .ok (.lstore 5, 2) := by decide +kernel
theorem d_Mo_lies_53 : decode b_Mo_lies 53 = .ok (.aload_n 0, 1) := by decide +kernel
theorem d_Mo_lies_54 : decode b_Mo_lies 54 = .ok (.getfield 7, 3) := by decide +kernel
theorem d_Mo_lies_57 : decode b_Mo_lies 57 = .ok (.bipush 9, 2) := by decide +kernel
theorem d_Mo_lies_59 : decode b_Mo_lies 59 = .ok (.iconst 4, 1) := by decide +kernel
theorem d_Mo_lies_60 : decode b_Mo_lies 60 = .ok (.iload_n 2, 1) := by decide +kernel
theorem d_Mo_lies_61 : decode b_Mo_lies 61 = .ok (.imul, 1) := by decide +kernel
theorem d_Mo_lies_62 : decode b_Mo_lies 62 = .ok (.iadd, 1) := by decide +kernel
theorem d_Mo_lies_63 : decode b_Mo_lies 63 = .ok (.invokestatic 60, 3) := by decide +kernel
theorem d_Mo_lies_66 : decode b_Mo_lies 66 = .ok (.i2l, 1) := by decide +kernel
theorem d_Mo_lies_67 : decode b_Mo_lies 67 = .ok (.lstore 7, 2) := by decide +kernel
theorem d_Mo_lies_69 : decode b_Mo_lies 69 = .ok (.aload_n 0, 1) := by decide +kernel
theorem d_Mo_lies_70 : decode b_Mo_lies 70 = .ok (.getfield 7, 3) := by decide +kernel
theorem d_Mo_lies_73 : decode b_Mo_lies 73 = .ok (.bipush 7, 2) := by decide +kernel
theorem d_Mo_lies_75 : decode b_Mo_lies 75 = .ok (.iconst 4, 1) := by decide +kernel
theorem d_Mo_lies_76 : decode b_Mo_lies 76 = .ok (.iload_n 3, 1) := by decide +kernel
theorem d_Mo_lies_77 : decode b_Mo_lies 77 = .ok (.imul, 1) := by decide +kernel
theorem d_Mo_lies_78 : decode b_Mo_lies 78 = .ok (.iadd, 1) := by decide +kernel
theorem d_Mo_lies_79 : decode b_Mo_lies 79 = .ok (.invokestatic 60, 3) := by decide +kernel
theorem d_Mo_lies_82 : decode b_Mo_lies 82 = .ok (.i2l, 1) := by decide +kernel
theorem d_Mo_lies_83 : decode b_Mo_lies 83 = .ok (.lload 5, 2) := by decide +kernel
theorem d_Mo_lies_85 : decode b_Mo_lies 85 = .ok (.lsub, 1) := by decide +kernel
theorem d_Mo_lies_86 : decode b_Mo_lies 86 = .ok (.aload_n 0, 1) := by decide +kernel
theorem d_Mo_lies_87 : decode b_Mo_lies 87 = .ok (.getfield 7, 3) := by decide +kernel
theorem d_Mo_lies_90 : decode b_Mo_lies 90 = .ok (.bipush 7, 2) := by decide +kernel
theorem d_Mo_lies_92 : decode b_Mo_lies 92 = .ok (.iconst 4, 1) := by decide +kernel
theorem d_Mo_lies_93 : decode b_Mo_lies 93 = .ok (.iload 4, 2) := by decide +kernel
theorem d_Mo_lies_95 : decode b_Mo_lies 95 = .ok (.imul, 1) := by decide +kernel
theorem d_Mo_lies_96 : decode b_Mo_lies 96 = .ok (.iadd, 1) := by decide +kernel
theorem d_Mo_lies_97 : decode b_Mo_lies 97 = .ok (.invokestatic 60, 3) := by decide +kernel
theorem d_Mo_lies_100 : decode b_Mo_lies 100 = .ok (.i2l, 1) := by decide +kernel
theorem d_Mo_lies_101 : decode b_Mo_lies 101 = .ok (.lload 5, 2) := by decide +kernel
theorem d_Mo_lies_103 : decode b_Mo_lies 103 = .ok (.lsub, 1) := by decide +kernel
theorem d_Mo_lies_104 : decode b_Mo_lies 104 = .ok (.lmul, 1) := by decide +kernel
theorem d_Mo_lies_105 : decode b_Mo_lies 105 = .ok (.aload_n 0, 1) := by decide +kernel
theorem d_Mo_lies_106 : decode b_Mo_lies 106 = .ok (.getfield 7, 3) := by decide +kernel
theorem d_Mo_lies_109 : decode b_Mo_lies 109 = .ok (.bipush 9, 2) := by decide +kernel
theorem d_Mo_lies_111 : decode b_Mo_lies 111 = .ok (.iconst 4, 1) := by decide +kernel
theorem d_Mo_lies_112 : decode b_Mo_lies 112 = .ok (.iload_n 3, 1) := by decide +kernel
theorem d_Mo_lies_113 : decode b_Mo_lies 113 = .ok (.imul, 1) := by decide +kernel
theorem d_Mo_lies_114 : decode b_Mo_lies 114 = .ok (.iadd, 1) := by decide +kernel
theorem d_Mo_lies_115 : decode b_Mo_lies 115 = .ok (.invokestatic 60, 3) := by decide +kernel
theorem d_Mo_lies_118 : decode b_Mo_lies 118 = .ok (.i2l, 1) := by decide +kernel
theorem d_Mo_lies_119 : decode b_Mo_lies 119 = .ok (.lload 7, 2) := by decide +kernel
theorem d_Mo_lies_121 : decode b_Mo_lies 121 = .ok (.lsub, 1) := by decide +kernel
theorem d_Mo_lies_122 : decode b_Mo_lies 122 = .ok (.aload_n 0, 1) := by decide +kernel
theorem d_Mo_lies_123 : decode b_Mo_lies 123 = .ok (.getfield 7, 3) := by decide +kernel
theorem d_Mo_lies_126 : decode b_Mo_lies 126 = .ok (.bipush 9, 2) := by decide +kernel
theorem d_Mo_lies_128 : decode b_Mo_lies 128 = .ok (.iconst 4, 1) := by decide +kernel
theorem d_Mo_lies_129 : decode b_Mo_lies 129 = .ok (.iload 4, 2) := by decide +kernel
theorem d_Mo_lies_131 : decode b_Mo_lies 131 = .ok (.imul, 1) := by decide +kernel
theorem d_Mo_lies_132 : decode b_Mo_lies 132 = .ok (.iadd, 1) := by decide +kernel
theorem d_Mo_lies_133 : decode b_Mo_lies 133 = .ok (.invokestatic 60, 3) := by decide +kernel
theorem d_Mo_lies_136 : decode b_Mo_lies 136 = .ok (.i2l, 1) := by decide +kernel
theorem d_Mo_lies_137 : decode b_Mo_lies 137 = .ok (.lload 7, 2) := by decide +kernel
theorem d_Mo_lies_139 : decode b_Mo_lies 139 = .ok (.lsub, 1) := by decide +kernel
theorem d_Mo_lies_140 : decode b_Mo_lies 140 = .ok (.lmul, 1) := by decide +kernel
theorem d_Mo_lies_141 : decode b_Mo_lies 141 = .ok (.ladd, 1) := by decide +kernel
theorem d_Mo_lies_142 : decode b_Mo_lies 142 = .ok (.lstore 9, 2) := by decide +kernel
theorem d_Mo_lies_144 : decode b_Mo_lies 144 = .ok (.lload 9, 2) := by decide +kernel
theorem d_Mo_lies_146 : decode b_Mo_lies 146 = .ok (.lconst 0, 1) := by decide +kernel
theorem d_Mo_lies_147 : decode b_Mo_lies 147 = .ok (.lcmp, 1) := by decide +kernel
theorem d_Mo_lies_148 : decode b_Mo_lies 148 = .ok (.ifCond .ge 7, 3) := by decide +kernel
theorem d_Mo_lies_151 : decode b_Mo_lies 151 = .ok (.iconst 1, 1) := by decide +kernel
theorem d_Mo_lies_152 : decode b_Mo_lies 152 = .ok (.goto 4, 3) := by decide +kernel
theorem d_Mo_lies_155 : decode b_Mo_lies 155 = .ok (.iconst 0, 1) := by decide +kernel
theorem d_Mo_lies_156 : decode b_Mo_lies 156 = .ok (.ireturn, 1) := by decide +kernel
theorem d_Mo_touch_0 : decode b_Mo_touch 0 = .ok (.aload_n 0, 1) := by decide +kernel
theorem d_Mo_touch_1 : decode b_Mo_touch 1 = .ok (.iload_n 1, 1) := by decide +kernel
theorem d_Mo_touch_2 : decode b_Mo_touch 2 = .ok (.iconst 0, 1) := by decide +kernel
theorem d_Mo_touch_3 : decode b_Mo_touch 3 = .ok (.invokevirtual 88, 3) := by decide +kernel
theorem d_Mo_touch_6 : decode b_Mo_touch 6 = .ok (.istore_n 3, 1) := by decide +kernel
theorem d_Mo_touch_7 : decode b_Mo_touch 7 = .ok (.aload_n 0, 1) := by decide +kernel
theorem d_Mo_touch_8 : decode b_Mo_touch 8 = .ok (.iload_n 1, 1) := by decide +kernel
theorem d_Mo_touch_9 : decode b_Mo_touch 9 = .ok (.iconst 1, 1) := by decide +kernel
theorem d_Mo_touch_10 : decode b_Mo_touch 10 = .ok (.invokevirtual 88, 3) := by decide +kernel
theorem d_Mo_touch_13 : decode b_Mo_touch 13 = .ok (.istore 4, 2) := by decide +kernel
theorem d_Mo_touch_15 : decode b_Mo_touch 15 = .ok (.aload_n 0, 1) := by decide +kernel
theorem d_Mo_touch_16 : decode b_Mo_touch 16 = .ok (.iload_n 2, 1) := by decide +kernel
theorem d_Mo_touch_17 : decode b_Mo_touch 17 = .ok (.iconst 0, 1) := by decide +kernel
theorem d_Mo_touch_18 : decode b_Mo_touch 18 = .ok (.invokevirtual 88, 3) := by decide +kernel
theorem d_Mo_touch_21 : decode b_Mo_touch 21 = .ok (.istore 5, 2) := by decide +kernel
theorem d_Mo_touch_23 : decode b_Mo_touch 23 = .ok (.aload_n 0, 1) := by decide +kernel
theorem d_Mo_touch_24 : decode b_Mo_touch 24 = .ok (.iload_n 2, 1) := by decide +kernel
theorem d_Mo_touch_25 : decode b_Mo_touch 25 = .ok (.iconst 1, 1) := by decide +kernel
theorem d_Mo_touch_26 : decode b_Mo_touch 26 = .ok (.invokevirtual 88, 3) := by decide +kernel
theorem d_Mo_touch_29 : decode b_Mo_touch 29 = .ok (.istore 6, 2) := by decide +kernel
theorem d_Mo_touch_31 : decode b_Mo_touch 31 = .ok (.iload_n 3, 1) := by decide +kernel
theorem d_Mo_touch_32 : decode b_Mo_touch 32 = .ok (.iload 5, 2) := by decide +kernel
theorem d_Mo_touch_34 : decode b_Mo_touch 34 = .ok (.if_icmp .eq 9, 3) := by decide +kernel
theorem d_Mo_touch_37 : decode b_Mo_touch 37 = .ok (.iload_n 3, 1) := by decide +kernel
theorem d_Mo_touch_38 : decode b_Mo_touch 38 = .ok (.iload 6, 2) := by decide +kernel
theorem d_Mo_touch_40 : decode b_Mo_touch 40 = .ok (.if_icmp .ne 21, 3) := by decide +kernel
theorem d_Mo_touch_43 : decode b_Mo_touch 43 = .ok (.iload 4, 2) := by decide +kernel
theorem d_Mo_touch_45 : decode b_Mo_touch 45 = .ok (.iload 5, 2) := by decide +kernel
theorem d_Mo_touch_47 : decode b_Mo_touch 47 = .ok (.if_icmp .eq 10, 3) := by decide +kernel
theorem d_Mo_touch_50 : decode b_Mo_touch 50 = .ok (.iload 4, 2) := by decide +kernel
theorem d_Mo_touch_52 : decode b_Mo_touch 52 = .ok (.iload 6, 2) := by decide +kernel
theorem d_Mo_touch_54 : decode b_Mo_touch 54 = .ok (.if_icmp .ne 7, 3) := by decide +kernel
theorem d_Mo_touch_57 : decode b_Mo_touch 57 = .ok (.iconst 1, 1) := by decide +kernel
theorem d_Mo_touch_58 : decode b_Mo_touch 58 = .ok (.goto 4, 3) := by decide +kernel
theorem d_Mo_touch_61 : decode b_Mo_touch 61 = .ok (.iconst 0, 1) := by decide +kernel
theorem d_Mo_touch_62 : decode b_Mo_touch 62 = .ok (.istore 7, 2) := by decide +kernel
theorem d_Mo_touch_64 : decode b_Mo_touch 64 = .ok (.aload_n 0, 1) := by decide +kernel
theorem d_Mo_touch_65 : decode b_Mo_touch 65 = .ok (.iload_n 1, 1) := by decide +kernel
theorem d_Mo_touch_66 : decode b_Mo_touch 66 = .ok (.iload 5, 2) := by decide +kernel
theorem d_Mo_touch_68 : decode b_Mo_touch 68 = .ok (.invokevirtual 95, 3) := by decide +kernel
theorem d_Mo_touch_71 : decode b_Mo_touch 71 = .ok (.aload_n 0, 1) := by decide +kernel
theorem d_Mo_touch_72 : decode b_Mo_touch 72 = .ok (.iload_n 1, 1) := by decide +kernel
theorem d_Mo_touch_73 : decode b_Mo_touch 73 = .ok (.iload 6, 2) := by decide +kernel
theorem d_Mo_touch_75 : decode b_Mo_touch 75 = .ok (.invokevirtual 95, 3) := by decide +kernel
theorem d_Mo_touch_78 : decode b_Mo_touch 78 = .ok (.imul, 1) := by decide +kernel
theorem d_Mo_touch_79 : decode b_Mo_touch 79 = .ok (.ifCond .ge 24, 3) := by decide +kernel
theorem d_Mo_touch_82 : decode b_Mo_touch 82 = .ok (.aload_n 0, 1) := by decide +kernel
theorem d_Mo_touch_83 : decode b_Mo_touch 83 = .ok (.iload_n 2, 1) := by decide +kernel
theorem d_Mo_touch_84 : decode b_Mo_touch 84 = .ok (.iload_n 3, 1) := by decide +kernel
theorem d_Mo_touch_85 : decode b_Mo_touch 85 = .ok (.invokevirtual 95, 3) := by decide +kernel
theorem d_Mo_touch_88 : decode b_Mo_touch 88 = .ok (.aload_n 0, 1) := by decide +kernel
theorem d_Mo_touch_89 : decode b_Mo_touch 89 = .ok (.iload_n 2, 1) := by decide +kernel
theorem d_Mo_touch_90 : decode b_Mo_touch 90 = .ok (.iload 4, 2) := by decide +kernel
theorem d_Mo_touch_92 : decode b_Mo_touch 92 = .ok (.invokevirtual 95, 3) := by decide +kernel
theorem d_Mo_touch_95 : decode b_Mo_touch 95 = .ok (.imul, 1) := by decide +kernel
theorem d_Mo_touch_96 : decode b_Mo_touch 96 = .ok (.ifCond .ge 7, 3) := by decide +kernel
theorem d_Mo_touch_99 : decode b_Mo_touch 99 = .ok (.iconst 1, 1) := by decide +kernel
theorem d_Mo_touch_100 : decode b_Mo_touch 100 = .ok (.goto 4, 3) := by decide +kernel
theorem d_Mo_touch_103 : decode b_Mo_touch 103 = .ok (.iconst 0, 1) := by decide +kernel
theorem d_Mo_touch_104 : decode b_Mo_touch 104 = .ok (.istore 8, 2) := by decide +kernel
theorem d_Mo_touch_106 : decode b_Mo_touch 106 = .ok (.iload 7, 2) := by decide +kernel
theorem d_Mo_touch_108 : decode b_Mo_touch 108 = .ok (.ifCond .ne 47, 3) := by decide +kernel
theorem d_Mo_touch_111 : decode b_Mo_touch 111 = .ok (.iload 8, 2) := by decide +kernel
theorem d_Mo_touch_113 : decode b_Mo_touch 113 = .ok (.ifCond .ne 42, 3) := by decide +kernel
theorem d_Mo_touch_116 : decode b_Mo_touch 116 = .ok (.aload_n 0, 1) := by decide +kernel
theorem d_Mo_touch_117 : decode b_Mo_touch 117 = .ok (.iload_n 1, 1) := by decide +kernel
theorem d_Mo_touch_118 : decode b_Mo_touch 118 = .ok (.iload 5, 2) := by decide +kernel
theorem d_Mo_touch_120 : decode b_Mo_touch 120 = .ok (.invokevirtual 98, 3) := by decide +kernel
theorem d_Mo_touch_123 : decode b_Mo_touch 123 = .ok (.ifCond .ne 32, 3) := by decide +kernel
theorem d_Mo_touch_126 : decode b_Mo_touch 126 = .ok (.aload_n 0, 1) := by decide +kernel
theorem d_Mo_touch_127 : decode b_Mo_touch 127 = .ok (.iload_n 1, 1) := by decide +kernel
theorem d_Mo_touch_128 : decode b_Mo_touch 128 = .ok (.iload 6, 2) := by decide +kernel
theorem d_Mo_touch_130 : decode b_Mo_touch 130 = .ok (.invokevirtual 98, 3) := by decide +kernel
theorem d_Mo_touch_133 : decode b_Mo_touch 133 = .ok (.ifCond .ne 22, 3) := by decide +kernel
theorem d_Mo_touch_136 : decode b_Mo_touch 136 = .ok (.aload_n 0, 1) := by decide +kernel
theorem d_Mo_touch_137 : decode b_Mo_touch 137 = .ok (.iload_n 2, 1) := by decide +kernel
theorem d_Mo_touch_138 : decode b_Mo_touch 138 = .ok (.iload_n 3, 1) := by decide +kernel
theorem d_Mo_touch_139 : decode b_Mo_touch 139 = .ok (.invokevirtual 98, 3) := by decide +kernel
theorem d_Mo_touch_142 : decode b_Mo_touch 142 = .ok (.ifCond .ne 13, 3) := by decide +kernel
theorem d_Mo_touch_145 : decode b_Mo_touch 145 = .ok (.aload_n 0, 1) := by decide +kernel
theorem d_Mo_touch_146 : decode b_Mo_touch 146 = .ok (.iload_n 2, 1) := by decide +kernel
theorem d_Mo_touch_147 : decode b_Mo_touch 147 = .ok (.iload 4, 2) := by decide +kernel
theorem d_Mo_touch_149 : decode b_Mo_touch 149 = .ok (.invokevirtual 98, 3) := by decide +kernel
theorem d_Mo_touch_152 : decode b_Mo_touch 152 = .ok (.ifCond .eq 7, 3) := by decide +kernel
theorem d_Mo_touch_155 : decode b_Mo_touch 155 = .ok (.iconst 1, 1) := by decide +kernel
theorem d_Mo_touch_156 : decode b_Mo_touch 156 = .ok (.goto 4, 3) := by decide +kernel
theorem d_Mo_touch_159 : decode b_Mo_touch 159 = .ok (.iconst 0, 1) := by decide +kernel
theorem d_Mo_touch_160 : decode b_Mo_touch 160 = .ok (.ireturn, 1) := by decide +kernel
end
section
theorem d_Mo_read_0 : decode b_Mo_read 0 = .ok (.aload_n 0, 1) := by decide +kernel
theorem d_Mo_read_1 : decode b_Mo_read 1 = .ok (.iconst 0, 1) := by decide +kernel
theorem d_Mo_read_2 : decode b_Mo_read 2 = .ok (.putfield 26, 3) := by decide +kernel
theorem d_Mo_read_5 : decode b_Mo_read 5 = .ok (.aload_n 0, 1) := by decide +kernel
theorem d_Mo_read_6 : decode b_Mo_read 6 = .ok (.iconst 0, 1) := by decide +kernel
theorem d_Mo_read_7 : decode b_Mo_read 7 = .ok (.putfield 45, 3) := by decide +kernel
theorem d_Mo_read_10 : decode b_Mo_read 10 = .ok (.aload_n 0, 1) := by decide +kernel
theorem d_Mo_read_11 : decode b_Mo_read 11 = .ok (.iconst 0, 1) := by decide +kernel
theorem d_Mo_read_12 : decode b_Mo_read 12 = .ok (.putfield 32, 3) := by decide +kernel
theorem d_Mo_read_15 : decode b_Mo_read 15 = .ok (.aload_n 0, 1) := by decide +kernel
theorem d_Mo_read_16 : decode b_Mo_read 16 = .ok (.iconst 0, 1) := by decide +kernel
theorem d_Mo_read_17 : decode b_Mo_read 17 = .ok (.putfield 35, 3) := by decide +kernel
theorem d_Mo_read_20 : decode b_Mo_read 20 = .ok (.aload_n 0, 1) := by decide +kernel
theorem d_Mo_read_21 : decode b_Mo_read 21 = .ok (.iconst 0, 1) := by decide +kernel
theorem d_Mo_read_22 : decode b_Mo_read 22 = .ok (.putfield 42, 3) := by decide +kernel
theorem d_Mo_read_25 : decode b_Mo_read 25 = .ok (.aload_n 0, 1) := by decide +kernel
theorem d_Mo_read_26 : decode b_Mo_read 26 = .ok (.iconst (-1), 1) := by decide +kernel
theorem d_Mo_read_27 : decode b_Mo_read 27 = .ok (.putfield 19, 3) := by decide +kernel
theorem d_Mo_read_30 : decode b_Mo_read 30 = .ok (.aload_n 0, 1) := by decide +kernel
theorem d_Mo_read_31 : decode b_Mo_read 31 = .ok (.iconst (-1), 1) := by decide +kernel
theorem d_Mo_read_32 : decode b_Mo_read 32 = .ok (.putfield 23, 3) := by decide +kernel
theorem d_Mo_read_35 : decode b_Mo_read 35 = .ok (.aload_n 0, 1) := by decide +kernel
theorem d_Mo_read_36 : decode b_Mo_read 36 = .ok (.invokevirtual 101, 3) := by decide +kernel
theorem d_Mo_read_39 : decode b_Mo_read 39 = .ok (.aload_n 0, 1) := by decide +kernel
theorem d_Mo_read_40 : decode b_Mo_read 40 = .ok (.getfield 42, 3) := by decide +kernel
theorem d_Mo_read_43 : decode b_Mo_read 43 = .ok (.ifCond .ne 39, 3) := by decide +kernel
theorem d_Mo_read_46 : decode b_Mo_read 46 = .ok (.iconst 0, 1) := by decide +kernel
theorem d_Mo_read_47 : decode b_Mo_read 47 = .ok (.istore_n 1, 1) := by decide +kernel
theorem d_Mo_read_48 : decode b_Mo_read 48 = .ok (.iload_n 1, 1) := by decide +kernel
theorem d_Mo_read_49 : decode b_Mo_read 49 = .ok (.aload_n 0, 1) := by decide +kernel
theorem d_Mo_read_50 : decode b_Mo_read 50 = .ok (.getfield 29, 3) := by decide +kernel
theorem d_Mo_read_53 : decode b_Mo_read 53 = .ok (.if_icmp .ge 21, 3) := by decide +kernel
theorem d_Mo_read_56 : decode b_Mo_read 56 = .ok (.aload_n 0, 1) := by decide +kernel
theorem d_Mo_read_57 : decode b_Mo_read 57 = .ok (.getfield 13, 3) := by decide +kernel
theorem d_Mo_read_60 : decode b_Mo_read 60 = .ok (.iload_n 1, 1) := by decide +kernel
theorem d_Mo_read_61 : decode b_Mo_read 61 = .ok (.aload_n 0, 1) := by decide +kernel
theorem d_Mo_read_62 : decode b_Mo_read 62 = .ok (.getfield 7, 3) := by decide +kernel
theorem d_Mo_read_65 : decode b_Mo_read 65 = .ok (.iload_n 1, 1) := by decide +kernel
theorem d_Mo_read_66 : decode b_Mo_read 66 = .ok (.baload, 1) := by decide +kernel
theorem d_Mo_read_67 : decode b_Mo_read 67 = .ok (.bastore, 1) := by decide +kernel
theorem d_Mo_read_68 : decode b_Mo_read 68 = .ok (.iinc 1 1, 3) := by decide +kernel
theorem d_Mo_read_71 : decode b_Mo_read 71 = .ok (.goto (-23), 3) := by decide +kernel
theorem d_Mo_read_74 : decode b_Mo_read 74 = .ok (.aload_n 0, 1) := by decide +kernel
theorem d_Mo_read_75 : decode b_Mo_read 75 = .ok (.aload_n 0, 1) := by decide +kernel
theorem d_Mo_read_76 : decode b_Mo_read 76 = .ok (.getfield 29, 3) := by decide +kernel
theorem d_Mo_read_79 : decode b_Mo_read 79 = .ok (.putfield 104, 3) := by decide +kernel
theorem d_Mo_read_82 : decode b_Mo_read 82 = .ok (.aload_n 0, 1) := by decide +kernel
theorem d_Mo_read_83 : decode b_Mo_read 83 = .ok (.getfield 42, 3) := by decide +kernel
theorem d_Mo_read_86 : decode b_Mo_read 86 = .ok (.ireturn, 1) := by decide +kernel
theorem d_Mo_write_0 : decode b_Mo_write 0 = .ok (.aload_n 0, 1) := by decide +kernel
theorem d_Mo_write_1 : decode b_Mo_write 1 = .ok (.iconst 0, 1) := by decide +kernel
theorem d_Mo_write_2 : decode b_Mo_write 2 = .ok (.putfield 26, 3) := by decide +kernel
theorem d_Mo_write_5 : decode b_Mo_write 5 = .ok (.aload_n 0, 1) := by decide +kernel
theorem d_Mo_write_6 : decode b_Mo_write 6 = .ok (.getfield 104, 3) := by decide +kernel
theorem d_Mo_write_9 : decode b_Mo_write 9 = .ok (.ifCond .ne 5, 3) := by decide +kernel
theorem d_Mo_write_12 : decode b_Mo_write 12 = .ok (.iconst (-1), 1) := by decide +kernel
theorem d_Mo_write_13 : decode b_Mo_write 13 = .ok (.ireturn, 1) := by decide +kernel
theorem d_Mo_write_14 : decode b_Mo_write 14 = .ok (.iconst 0, 1) := by decide +kernel
theorem d_Mo_write_15 : decode b_Mo_write 15 = .ok (.istore_n 1, 1) := by decide +kernel
theorem d_Mo_write_16 : decode b_Mo_write 16 = .ok (.iload_n 1, 1) := by decide +kernel
theorem d_Mo_write_17 : decode b_Mo_write 17 = .ok (.aload_n 0, 1) := by decide +kernel
theorem d_Mo_write_18 : decode b_Mo_write 18 = .ok (.getfield 104, 3) := by decide +kernel
theorem d_Mo_write_21 : decode b_Mo_write 21 = .ok (.if_icmp .ge 21, 3) := by decide +kernel
theorem d_Mo_write_24 : decode b_Mo_write 24 = .ok (.aload_n 0, 1) := by decide +kernel
theorem d_Mo_write_25 : decode b_Mo_write 25 = .ok (.getfield 16, 3) := by decide +kernel
theorem d_Mo_write_28 : decode b_Mo_write 28 = .ok (.iload_n 1, 1) := by decide +kernel
theorem d_Mo_write_29 : decode b_Mo_write 29 = .ok (.aload_n 0, 1) := by decide +kernel
theorem d_Mo_write_30 : decode b_Mo_write 30 = .ok (.getfield 13, 3) := by decide +kernel
theorem d_Mo_write_33 : decode b_Mo_write 33 = .ok (.iload_n 1, 1) := by decide +kernel
theorem d_Mo_write_34 : decode b_Mo_write 34 = .ok (.baload, 1) := by decide +kernel
theorem d_Mo_write_35 : decode b_Mo_write 35 = .ok (.bastore, 1) := by decide +kernel
theorem d_Mo_write_36 : decode b_Mo_write 36 = .ok (.iinc 1 1, 3) := by decide +kernel
theorem d_Mo_write_39 : decode b_Mo_write 39 = .ok (.goto (-23), 3) := by decide +kernel
theorem d_Mo_write_42 : decode b_Mo_write 42 = .ok (.aload_n 0, 1) := by decide +kernel
theorem d_Mo_write_43 : decode b_Mo_write 43 = .ok (.aload_n 0, 1) := by decide +kernel
theorem d_Mo_write_44 : decode b_Mo_write 44 = .ok (.getfield 104, 3) := by decide +kernel
theorem d_Mo_write_47 : decode b_Mo_write 47 = .ok (.putfield 107, 3) := by decide +kernel
theorem d_Mo_write_50 : decode b_Mo_write 50 = .ok (.aload_n 0, 1) := by decide +kernel
theorem d_Mo_write_51 : decode b_Mo_write 51 = .ok (.getfield 107, 3) := by decide +kernel
theorem d_Mo_write_54 : decode b_Mo_write 54 = .ok (.ireturn, 1) := by decide +kernel
theorem d_Mo_byteAt_0 : decode b_Mo_byteAt 0 = .ok (.aload_n 0, 1) := by decide +kernel
theorem d_Mo_byteAt_1 : decode b_Mo_byteAt 1 = .ok (.iconst 0, 1) := by decide +kernel
theorem d_Mo_byteAt_2 : decode b_Mo_byteAt 2 = .ok (.putfield 26, 3) := by decide +kernel
theorem d_Mo_byteAt_5 : decode b_Mo_byteAt 5 = .ok (.iload_n 1, 1) := by decide +kernel
theorem d_Mo_byteAt_6 : decode b_Mo_byteAt 6 = .ok (.ifCond .lt 22, 3) := by decide +kernel
theorem d_Mo_byteAt_9 : decode b_Mo_byteAt 9 = .ok (.iload_n 1, 1) := by decide +kernel
theorem d_Mo_byteAt_10 : decode b_Mo_byteAt 10 = .ok (.iload_n 2, 1) := by decide +kernel
theorem d_Mo_byteAt_11 : decode b_Mo_byteAt 11 = .ok (.ifCond .eq 10, 3) := by decide +kernel
theorem d_Mo_byteAt_14 : decode b_Mo_byteAt 14 = .ok (.aload_n 0, 1) := by decide +kernel
theorem d_Mo_byteAt_15 : decode b_Mo_byteAt 15 = .ok (.getfield 29, 3) := by decide +kernel
theorem d_Mo_byteAt_18 : decode b_Mo_byteAt 18 = .ok (.goto 7, 3) := by decide +kernel
theorem d_Mo_byteAt_21 : decode b_Mo_byteAt 21 = .ok (.aload_n 0, 1) := by decide +kernel
theorem d_Mo_byteAt_22 : decode b_Mo_byteAt 22 = .ok (.getfield 107, 3) := by decide +kernel
theorem d_Mo_byteAt_25 : decode b_Mo_byteAt 25 = .ok (.if_icmp .lt 5, 3) := by decide +kernel
theorem d_Mo_byteAt_28 : decode b_Mo_byteAt 28 = .ok (.iconst (-1), 1) := by decide +kernel
theorem d_Mo_byteAt_29 : decode b_Mo_byteAt 29 = .ok (.ireturn, 1) := by decide +kernel
theorem d_Mo_byteAt_30 : decode b_Mo_byteAt 30 = .ok (.iload_n 2, 1) := by decide +kernel
theorem d_Mo_byteAt_31 : decode b_Mo_byteAt 31 = .ok (.ifCond .eq 12, 3) := by decide +kernel
theorem d_Mo_byteAt_34 : decode b_Mo_byteAt 34 = .ok (.aload_n 0, 1) := by decide +kernel
theorem d_Mo_byteAt_35 : decode b_Mo_byteAt 35 = .ok (.getfield 7, 3) := by decide +kernel
theorem d_Mo_byteAt_38 : decode b_Mo_byteAt 38 = .ok (.iload_n 1, 1) := by decide +kernel
theorem d_Mo_byteAt_39 : decode b_Mo_byteAt 39 = .ok (.baload, 1) := by decide +kernel
theorem d_Mo_byteAt_40 : decode b_Mo_byteAt 40 = .ok (.goto 9, 3) := by decide +kernel
theorem d_Mo_byteAt_43 : decode b_Mo_byteAt 43 = .ok (.aload_n 0, 1) := by decide +kernel
theorem d_Mo_byteAt_44 : decode b_Mo_byteAt 44 = .ok (.getfield 16, 3) := by decide +kernel
theorem d_Mo_byteAt_47 : decode b_Mo_byteAt 47 = .ok (.iload_n 1, 1) := by decide +kernel
theorem d_Mo_byteAt_48 : decode b_Mo_byteAt 48 = .ok (.baload, 1) := by decide +kernel
theorem d_Mo_byteAt_49 : decode b_Mo_byteAt 49 = .ok (.sipush 255, 3) := by decide +kernel
theorem d_Mo_byteAt_52 : decode b_Mo_byteAt 52 = .ok (.iand, 1) := by decide +kernel
theorem d_Mo_byteAt_53 : decode b_Mo_byteAt 53 = .ok (.ireturn, 1) := by decide +kernel
theorem d_Mo_many_0 : decode b_Mo_many 0 = .ok (.aload_n 0, 1) := by decide +kernel
theorem d_Mo_many_1 : decode b_Mo_many 1 = .ok (.getfield 104, 3) := by decide +kernel
theorem d_Mo_many_4 : decode b_Mo_many 4 = .ok (.ifCond .ne 7, 3) := by decide +kernel
theorem d_Mo_many_7 : decode b_Mo_many 7 = .ok (.iconst 0, 1) := by decide +kernel
theorem d_Mo_many_8 : decode b_Mo_many 8 = .ok (.goto 13, 3) := by decide +kernel
theorem d_Mo_many_11 : decode b_Mo_many 11 = .ok (.aload_n 0, 1) := by decide +kernel
theorem d_Mo_many_12 : decode b_Mo_many 12 = .ok (.getfield 13, 3) := by decide +kernel
theorem d_Mo_many_15 : decode b_Mo_many 15 = .ok (.iload_n 1, 1) := by decide +kernel
theorem d_Mo_many_16 : decode b_Mo_many 16 = .ok (.baload, 1) := by decide +kernel
theorem d_Mo_many_17 : decode b_Mo_many 17 = .ok (.sipush 255, 3) := by decide +kernel
theorem d_Mo_many_20 : decode b_Mo_many 20 = .ok (.iand, 1) := by decide +kernel
theorem d_Mo_many_21 : decode b_Mo_many 21 = .ok (.ireturn, 1) := by decide +kernel
theorem d_Mo_textureAt_0 : decode b_Mo_textureAt 0 = .ok (.bipush 7, 2) := by decide +kernel
theorem d_Mo_textureAt_2 : decode b_Mo_textureAt 2 = .ok (.iconst 4, 1) := by decide +kernel
theorem d_Mo_textureAt_3 : decode b_Mo_textureAt 3 = .ok (.aload_n 0, 1) := by decide +kernel
theorem d_Mo_textureAt_4 : decode b_Mo_textureAt 4 = .ok (.iconst 3, 1) := by decide +kernel
theorem d_Mo_textureAt_5 : decode b_Mo_textureAt 5 = .ok (.invokevirtual 110, 3) := by decide +kernel
theorem d_Mo_textureAt_8 : decode b_Mo_textureAt 8 = .ok (.imul, 1) := by decide +kernel
theorem d_Mo_textureAt_9 : decode b_Mo_textureAt 9 = .ok (.iadd, 1) := by decide +kernel
theorem d_Mo_textureAt_10 : decode b_Mo_textureAt 10 = .ok (.istore_n 2, 1) := by decide +kernel
theorem d_Mo_textureAt_11 : decode b_Mo_textureAt 11 = .ok (.iconst 0, 1) := by decide +kernel
theorem d_Mo_textureAt_12 : decode b_Mo_textureAt 12 = .ok (.istore_n 3, 1) := by decide +kernel
theorem d_Mo_textureAt_13 : decode b_Mo_textureAt 13 = .ok (.iload_n 3, 1) := by decide +kernel
theorem d_Mo_textureAt_14 : decode b_Mo_textureAt 14 = .ok (.iload_n 1, 1) := by decide +kernel
theorem d_Mo_textureAt_15 : decode b_Mo_textureAt 15 = .ok (.if_icmp .ge 31, 3) := by decide +kernel
theorem d_Mo_textureAt_18 : decode b_Mo_textureAt 18 = .ok (.iload_n 2, 1) := by decide +kernel
theorem d_Mo_textureAt_19 : decode b_Mo_textureAt 19 = .ok (.iconst 2, 1) := by decide +kernel
theorem d_Mo_textureAt_20 : decode b_Mo_textureAt 20 = .ok (.iconst 1, 1) := by decide +kernel
theorem d_Mo_textureAt_21 : decode b_Mo_textureAt 21 = .ok (.aload_n 0, 1) := by decide +kernel
theorem d_Mo_textureAt_22 : decode b_Mo_textureAt 22 = .ok (.getfield 13, 3) := by decide +kernel
theorem d_Mo_textureAt_25 : decode b_Mo_textureAt 25 = .ok (.iload_n 2, 1) := by decide +kernel
theorem d_Mo_textureAt_26 : decode b_Mo_textureAt 26 = .ok (.baload, 1) := by decide +kernel
theorem d_Mo_textureAt_27 : decode b_Mo_textureAt 27 = .ok (.aload_n 0, 1) := by decide +kernel
theorem d_Mo_textureAt_28 : decode b_Mo_textureAt 28 = .ok (.getfield 13, 3) := by decide +kernel
theorem d_Mo_textureAt_31 : decode b_Mo_textureAt 31 = .ok (.iload_n 2, 1) := by decide +kernel
theorem d_Mo_textureAt_32 : decode b_Mo_textureAt 32 = .ok (.iconst 1, 1) := by decide +kernel
theorem d_Mo_textureAt_33 : decode b_Mo_textureAt 33 = .ok (.iadd, 1) := by decide +kernel
theorem d_Mo_textureAt_34 : decode b_Mo_textureAt 34 = .ok (.baload, 1) := by decide +kernel
theorem d_Mo_textureAt_35 : decode b_Mo_textureAt 35 = .ok (.iadd, 1) := by decide +kernel
theorem d_Mo_textureAt_36 : decode b_Mo_textureAt 36 = .ok (.ishl, 1) := by decide +kernel
theorem d_Mo_textureAt_37 : decode b_Mo_textureAt 37 = .ok (.iadd, 1) := by decide +kernel
theorem d_Mo_textureAt_38 : decode b_Mo_textureAt 38 = .ok (.iadd, 1) := by decide +kernel
theorem d_Mo_textureAt_39 : decode b_Mo_textureAt 39 = .ok (.istore_n 2, 1) := by decide +kernel
theorem d_Mo_textureAt_40 : decode b_Mo_textureAt 40 = .ok (.iinc 3 1, 3) := by decide +kernel
theorem d_Mo_textureAt_43 : decode b_Mo_textureAt 43 = .ok (.goto (-30), 3) := by decide +kernel
theorem d_Mo_textureAt_46 : decode b_Mo_textureAt 46 = .ok (.iload_n 2, 1) := by decide +kernel
theorem d_Mo_textureAt_47 : decode b_Mo_textureAt 47 = .ok (.ireturn, 1) := by decide +kernel
theorem d_Mo_sectorAt_0 : decode b_Mo_sectorAt 0 = .ok (.aload_n 0, 1) := by decide +kernel
theorem d_Mo_sectorAt_1 : decode b_Mo_sectorAt 1 = .ok (.aload_n 0, 1) := by decide +kernel
theorem d_Mo_sectorAt_2 : decode b_Mo_sectorAt 2 = .ok (.iconst 4, 1) := by decide +kernel
theorem d_Mo_sectorAt_3 : decode b_Mo_sectorAt 3 = .ok (.invokevirtual 110, 3) := by decide +kernel
theorem d_Mo_sectorAt_6 : decode b_Mo_sectorAt 6 = .ok (.invokevirtual 113, 3) := by decide +kernel
theorem d_Mo_sectorAt_9 : decode b_Mo_sectorAt 9 = .ok (.bipush 9, 2) := by decide +kernel
theorem d_Mo_sectorAt_11 : decode b_Mo_sectorAt 11 = .ok (.iload_n 1, 1) := by decide +kernel
theorem d_Mo_sectorAt_12 : decode b_Mo_sectorAt 12 = .ok (.imul, 1) := by decide +kernel
theorem d_Mo_sectorAt_13 : decode b_Mo_sectorAt 13 = .ok (.iadd, 1) := by decide +kernel
theorem d_Mo_sectorAt_14 : decode b_Mo_sectorAt 14 = .ok (.ireturn, 1) := by decide +kernel
theorem d_Mo_wallAt_0 : decode b_Mo_wallAt 0 = .ok (.aload_n 0, 1) := by decide +kernel
theorem d_Mo_wallAt_1 : decode b_Mo_wallAt 1 = .ok (.aload_n 0, 1) := by decide +kernel
theorem d_Mo_wallAt_2 : decode b_Mo_wallAt 2 = .ok (.iconst 5, 1) := by decide +kernel
theorem d_Mo_wallAt_3 : decode b_Mo_wallAt 3 = .ok (.invokevirtual 110, 3) := by decide +kernel
theorem d_Mo_wallAt_6 : decode b_Mo_wallAt 6 = .ok (.invokevirtual 116, 3) := by decide +kernel
theorem d_Mo_wallAt_9 : decode b_Mo_wallAt 9 = .ok (.bipush 14, 2) := by decide +kernel
theorem d_Mo_wallAt_11 : decode b_Mo_wallAt 11 = .ok (.iload_n 1, 1) := by decide +kernel
theorem d_Mo_wallAt_12 : decode b_Mo_wallAt 12 = .ok (.imul, 1) := by decide +kernel
theorem d_Mo_wallAt_13 : decode b_Mo_wallAt 13 = .ok (.iadd, 1) := by decide +kernel
theorem d_Mo_wallAt_14 : decode b_Mo_wallAt 14 = .ok (.ireturn, 1) := by decide +kernel
theorem d_Mo_has_0 : decode b_Mo_has 0 = .ok (.iload_n 2, 1) := by decide +kernel
theorem d_Mo_has_1 : decode b_Mo_has 1 = .ok (.ifCond .lt 16, 3) := by decide +kernel
theorem d_Mo_has_4 : decode b_Mo_has 4 = .ok (.iload_n 2, 1) := by decide +kernel
theorem d_Mo_has_5 : decode b_Mo_has 5 = .ok (.aload_n 0, 1) := by decide +kernel
theorem d_Mo_has_6 : decode b_Mo_has 6 = .ok (.iload_n 1, 1) := by decide +kernel
theorem d_Mo_has_7 : decode b_Mo_has 7 = .ok (.invokevirtual 110, 3) := by decide +kernel
theorem d_Mo_has_10 : decode b_Mo_has 10 = .ok (.if_icmp .ge 7, 3) := by decide +kernel
theorem d_Mo_has_13 : decode b_Mo_has 13 = .ok (.iconst 1, 1) := by decide +kernel
theorem d_Mo_has_14 : decode b_Mo_has 14 = .ok (.goto 4, 3) := by decide +kernel
theorem d_Mo_has_17 : decode b_Mo_has 17 = .ok (.iconst 0, 1) := by decide +kernel
theorem d_Mo_has_18 : decode b_Mo_has 18 = .ok (.ireturn, 1) := by decide +kernel
theorem d_Mo_vertex_0 : decode b_Mo_vertex 0 = .ok (.aload_n 0, 1) := by decide +kernel
theorem d_Mo_vertex_1 : decode b_Mo_vertex 1 = .ok (.iconst 0, 1) := by decide +kernel
theorem d_Mo_vertex_2 : decode b_Mo_vertex 2 = .ok (.putfield 26, 3) := by decide +kernel
theorem d_Mo_vertex_5 : decode b_Mo_vertex 5 = .ok (.aload_n 0, 1) := by decide +kernel
theorem d_Mo_vertex_6 : decode b_Mo_vertex 6 = .ok (.iconst 3, 1) := by decide +kernel
theorem d_Mo_vertex_7 : decode b_Mo_vertex 7 = .ok (.iload_n 1, 1) := by decide +kernel
theorem d_Mo_vertex_8 : decode b_Mo_vertex 8 = .ok (.invokevirtual 119, 3) := by decide +kernel
theorem d_Mo_vertex_11 : decode b_Mo_vertex 11 = .ok (.ifCond .eq 28, 3) := by decide +kernel
theorem d_Mo_vertex_14 : decode b_Mo_vertex 14 = .ok (.aload_n 0, 1) := by decide +kernel
theorem d_Mo_vertex_15 : decode b_Mo_vertex 15 = .ok (.getfield 13, 3) := by decide +kernel
theorem d_Mo_vertex_18 : decode b_Mo_vertex 18 = .ok (.iload_n 2, 1) := by decide +kernel
theorem d_Mo_vertex_19 : decode b_Mo_vertex 19 = .ok (.ifCond .eq 8, 3) := by decide +kernel
theorem d_Mo_vertex_22 : decode b_Mo_vertex 22 = .ok (.bipush 7, 2) := by decide +kernel
theorem d_Mo_vertex_24 : decode b_Mo_vertex 24 = .ok (.goto 5, 3) := by decide +kernel
theorem d_Mo_vertex_27 : decode b_Mo_vertex 27 = .ok (.bipush 9, 2) := by decide +kernel
theorem d_Mo_vertex_29 : decode b_Mo_vertex 29 = .ok (.iconst 4, 1) := by decide +kernel
theorem d_Mo_vertex_30 : decode b_Mo_vertex 30 = .ok (.iload_n 1, 1) := by decide +kernel
theorem d_Mo_vertex_31 : decode b_Mo_vertex 31 = .ok (.imul, 1) := by decide +kernel
theorem d_Mo_vertex_32 : decode b_Mo_vertex 32 = .ok (.iadd, 1) := by decide +kernel
theorem d_Mo_vertex_33 : decode b_Mo_vertex 33 = .ok (.invokestatic 60, 3) := by decide +kernel
theorem d_Mo_vertex_36 : decode b_Mo_vertex 36 = .ok (.goto 5, 3) := by decide +kernel
theorem d_Mo_vertex_39 : decode b_Mo_vertex 39 = .ok (.ldc 122, 2) := by decide +kernel
theorem d_Mo_vertex_41 : decode b_Mo_vertex 41 = .ok (.ireturn, 1) := by decide +kernel
theorem d_Mo_texture_0 : decode b_Mo_texture 0 = .ok (.aload_n 0, 1) := by decide +kernel
theorem d_Mo_texture_1 : decode b_Mo_texture 1 = .ok (.iconst 0, 1) := by decide +kernel
theorem d_Mo_texture_2 : decode b_Mo_texture 2 = .ok (.putfield 26, 3) := by decide +kernel
theorem d_Mo_texture_5 : decode b_Mo_texture 5 = .ok (.aload_n 0, 1) := by decide +kernel
theorem d_Mo_texture_6 : decode b_Mo_texture 6 = .ok (.iconst 4, 1) := by decide +kernel
theorem d_Mo_texture_7 : decode b_Mo_texture 7 = .ok (.iload_n 1, 1) := by decide +kernel
theorem d_Mo_texture_8 : decode b_Mo_texture 8 = .ok (.invokevirtual 119, 3) := by decide +kernel
theorem d_Mo_texture_11 : decode b_Mo_texture 11 = .ok (.ifCond .eq 7, 3) := by decide +kernel
theorem d_Mo_texture_14 : decode b_Mo_texture 14 = .ok (.iload_n 2, 1) := by decide +kernel
theorem d_Mo_texture_15 : decode b_Mo_texture 15 = .ok (.ifCond .ge 5, 3) := by decide +kernel
theorem d_Mo_texture_18 : decode b_Mo_texture 18 = .ok (.iconst (-1), 1) := by decide +kernel
theorem d_Mo_texture_19 : decode b_Mo_texture 19 = .ok (.ireturn, 1) := by decide +kernel
theorem d_Mo_texture_20 : decode b_Mo_texture 20 = .ok (.aload_n 0, 1) := by decide +kernel
theorem d_Mo_texture_21 : decode b_Mo_texture 21 = .ok (.iload_n 1, 1) := by decide +kernel
theorem d_Mo_texture_22 : decode b_Mo_texture 22 = .ok (.invokevirtual 113, 3) := by decide +kernel
theorem d_Mo_texture_25 : decode b_Mo_texture 25 = .ok (.istore_n 3, 1) := by decide +kernel
theorem d_Mo_texture_26 : decode b_Mo_texture 26 = .ok (.iconst 1, 1) := by decide +kernel
theorem d_Mo_texture_27 : decode b_Mo_texture 27 = .ok (.aload_n 0, 1) := by decide +kernel
theorem d_Mo_texture_28 : decode b_Mo_texture 28 = .ok (.getfield 13, 3) := by decide +kernel
theorem d_Mo_texture_31 : decode b_Mo_texture 31 = .ok (.iload_n 3, 1) := by decide +kernel
theorem d_Mo_texture_32 : decode b_Mo_texture 32 = .ok (.baload, 1) := by decide +kernel
theorem d_Mo_texture_33 : decode b_Mo_texture 33 = .ok (.ishl, 1) := by decide +kernel
theorem d_Mo_texture_34 : decode b_Mo_texture 34 = .ok (.istore 4, 2) := by decide +kernel
theorem d_Mo_texture_36 : decode b_Mo_texture 36 = .ok (.iconst 1, 1) := by decide +kernel
theorem d_Mo_texture_37 : decode b_Mo_texture 37 = .ok (.aload_n 0, 1) := by decide +kernel
theorem d_Mo_texture_38 : decode b_Mo_texture 38 = .ok (.getfield 13, 3) := by decide +kernel
theorem d_Mo_texture_41 : decode b_Mo_texture 41 = .ok (.iload_n 3, 1) := by decide +kernel
theorem d_Mo_texture_42 : decode b_Mo_texture 42 = .ok (.iconst 1, 1) := by decide +kernel
theorem d_Mo_texture_43 : decode b_Mo_texture 43 = .ok (.iadd, 1) := by decide +kernel
theorem d_Mo_texture_44 : decode b_Mo_texture 44 = .ok (.baload, 1) := by decide +kernel
theorem d_Mo_texture_45 : decode b_Mo_texture 45 = .ok (.ishl, 1) := by decide +kernel
theorem d_Mo_texture_46 : decode b_Mo_texture 46 = .ok (.istore 5, 2) := by decide +kernel
theorem d_Mo_texture_48 : decode b_Mo_texture 48 = .ok (.iload_n 2, 1) := by decide +kernel
theorem d_Mo_texture_49 : decode b_Mo_texture 49 = .ok (.iconst 2, 1) := by decide +kernel
theorem d_Mo_texture_50 : decode b_Mo_texture 50 = .ok (.if_icmp .ge 15, 3) := by decide +kernel
theorem d_Mo_texture_53 : decode b_Mo_texture 53 = .ok (.iload_n 2, 1) := by decide +kernel
theorem d_Mo_texture_54 : decode b_Mo_texture 54 = .ok (.ifCond .ne 8, 3) := by decide +kernel
theorem d_Mo_texture_57 : decode b_Mo_texture 57 = .ok (.iload 4, 2) := by decide +kernel
theorem d_Mo_texture_59 : decode b_Mo_texture 59 = .ok (.goto 5, 3) := by decide +kernel
theorem d_Mo_texture_62 : decode b_Mo_texture 62 = .ok (.iload 5, 2) := by decide +kernel
theorem d_Mo_texture_64 : decode b_Mo_texture 64 = .ok (.ireturn, 1) := by decide +kernel
theorem d_Mo_texture_65 : decode b_Mo_texture 65 = .ok (.iload_n 2, 1) := by decide +kernel
theorem d_Mo_texture_66 : decode b_Mo_texture 66 = .ok (.iconst 2, 1) := by decide +kernel
theorem d_Mo_texture_67 : decode b_Mo_texture 67 = .ok (.isub, 1) := by decide +kernel
theorem d_Mo_texture_68 : decode b_Mo_texture 68 = .ok (.bipush 16, 2) := by decide +kernel
theorem d_Mo_texture_70 : decode b_Mo_texture 70 = .ok (.idiv, 1) := by decide +kernel
theorem d_Mo_texture_71 : decode b_Mo_texture 71 = .ok (.istore 6, 2) := by decide +kernel
theorem d_Mo_texture_73 : decode b_Mo_texture 73 = .ok (.iload_n 2, 1) := by decide +kernel
theorem d_Mo_texture_74 : decode b_Mo_texture 74 = .ok (.iconst 2, 1) := by decide +kernel
theorem d_Mo_texture_75 : decode b_Mo_texture 75 = .ok (.isub, 1) := by decide +kernel
theorem d_Mo_texture_76 : decode b_Mo_texture 76 = .ok (.bipush 16, 2) := by decide +kernel
theorem d_Mo_texture_78 : decode b_Mo_texture 78 = .ok (.irem, 1) := by decide +kernel
theorem d_Mo_texture_79 : decode b_Mo_texture 79 = .ok (.istore 7, 2) := by decide +kernel
theorem d_Mo_texture_81 : decode b_Mo_texture 81 = .ok (.iload 6, 2) := by decide +kernel
theorem d_Mo_texture_83 : decode b_Mo_texture 83 = .ok (.iload 5, 2) := by decide +kernel
theorem d_Mo_texture_85 : decode b_Mo_texture 85 = .ok (.if_icmp .ge 30, 3) := by decide +kernel
theorem d_Mo_texture_88 : decode b_Mo_texture 88 = .ok (.iload 7, 2) := by decide +kernel
theorem d_Mo_texture_90 : decode b_Mo_texture 90 = .ok (.iload 4, 2) := by decide +kernel
theorem d_Mo_texture_92 : decode b_Mo_texture 92 = .ok (.if_icmp .ge 23, 3) := by decide +kernel
theorem d_Mo_texture_95 : decode b_Mo_texture 95 = .ok (.aload_n 0, 1) := by decide +kernel
theorem d_Mo_texture_96 : decode b_Mo_texture 96 = .ok (.getfield 13, 3) := by decide +kernel
theorem d_Mo_texture_99 : decode b_Mo_texture 99 = .ok (.iload_n 3, 1) := by decide +kernel
theorem d_Mo_texture_100 : decode b_Mo_texture 100 = .ok (.iconst 2, 1) := by decide +kernel
theorem d_Mo_texture_101 : decode b_Mo_texture 101 = .ok (.iadd, 1) := by decide +kernel
theorem d_Mo_texture_102 : decode b_Mo_texture 102 = .ok (.iload 4, 2) := by decide +kernel
theorem d_Mo_texture_104 : decode b_Mo_texture 104 = .ok (.iload 6, 2) := by decide +kernel
theorem d_Mo_texture_106 : decode b_Mo_texture 106 = .ok (.imul, 1) := by decide +kernel
theorem d_Mo_texture_107 : decode b_Mo_texture 107 = .ok (.iadd, 1) := by decide +kernel
theorem d_Mo_texture_108 : decode b_Mo_texture 108 = .ok (.iload 7, 2) := by decide +kernel
theorem d_Mo_texture_110 : decode b_Mo_texture 110 = .ok (.iadd, 1) := by decide +kernel
theorem d_Mo_texture_111 : decode b_Mo_texture 111 = .ok (.baload, 1) := by decide +kernel
theorem d_Mo_texture_112 : decode b_Mo_texture 112 = .ok (.goto 4, 3) := by decide +kernel
theorem d_Mo_texture_115 : decode b_Mo_texture 115 = .ok (.iconst (-1), 1) := by decide +kernel
theorem d_Mo_texture_116 : decode b_Mo_texture 116 = .ok (.ireturn, 1) := by decide +kernel
theorem d_Mo_sector_0 : decode b_Mo_sector 0 = .ok (.aload_n 0, 1) := by decide +kernel
theorem d_Mo_sector_1 : decode b_Mo_sector 1 = .ok (.iconst 0, 1) := by decide +kernel
theorem d_Mo_sector_2 : decode b_Mo_sector 2 = .ok (.putfield 26, 3) := by decide +kernel
theorem d_Mo_sector_5 : decode b_Mo_sector 5 = .ok (.aload_n 0, 1) := by decide +kernel
theorem d_Mo_sector_6 : decode b_Mo_sector 6 = .ok (.iconst 5, 1) := by decide +kernel
theorem d_Mo_sector_7 : decode b_Mo_sector 7 = .ok (.iload_n 1, 1) := by decide +kernel
theorem d_Mo_sector_8 : decode b_Mo_sector 8 = .ok (.invokevirtual 119, 3) := by decide +kernel
theorem d_Mo_sector_11 : decode b_Mo_sector 11 = .ok (.ifCond .eq 13, 3) := by decide +kernel
theorem d_Mo_sector_14 : decode b_Mo_sector 14 = .ok (.iload_n 2, 1) := by decide +kernel
theorem d_Mo_sector_15 : decode b_Mo_sector 15 = .ok (.ifCond .lt 9, 3) := by decide +kernel
theorem d_Mo_sector_18 : decode b_Mo_sector 18 = .ok (.iload_n 2, 1) := by decide +kernel
theorem d_Mo_sector_19 : decode b_Mo_sector 19 = .ok (.bipush 6, 2) := by decide +kernel
theorem d_Mo_sector_21 : decode b_Mo_sector 21 = .ok (.if_icmp .le 6, 3) := by decide +kernel
theorem d_Mo_sector_24 : decode b_Mo_sector 24 = .ok (.ldc 122, 2) := by decide +kernel
theorem d_Mo_sector_26 : decode b_Mo_sector 26 = .ok (.ireturn, 1) := by decide +kernel
theorem d_Mo_sector_27 : decode b_Mo_sector 27 = .ok (.aload_n 0, 1) := by decide +kernel
theorem d_Mo_sector_28 : decode b_Mo_sector 28 = .ok (.iload_n 1, 1) := by decide +kernel
theorem d_Mo_sector_29 : decode b_Mo_sector 29 = .ok (.invokevirtual 116, 3) := by decide +kernel
theorem d_Mo_sector_32 : decode b_Mo_sector 32 = .ok (.istore_n 3, 1) := by decide +kernel
theorem d_Mo_sector_33 : decode b_Mo_sector 33 = .ok (.iload_n 2, 1) := by decide +kernel
theorem d_Mo_sector_34 : decode b_Mo_sector 34 = .ok (.iconst 2, 1) := by decide +kernel
theorem d_Mo_sector_35 : decode b_Mo_sector 35 = .ok (.if_icmp .ge 18, 3) := by decide +kernel
theorem d_Mo_sector_38 : decode b_Mo_sector 38 = .ok (.aload_n 0, 1) := by decide +kernel
theorem d_Mo_sector_39 : decode b_Mo_sector 39 = .ok (.getfield 13, 3) := by decide +kernel
theorem d_Mo_sector_42 : decode b_Mo_sector 42 = .ok (.iload_n 3, 1) := by decide +kernel
theorem d_Mo_sector_43 : decode b_Mo_sector 43 = .ok (.iconst 2, 1) := by decide +kernel
theorem d_Mo_sector_44 : decode b_Mo_sector 44 = .ok (.iload_n 2, 1) := by decide +kernel
theorem d_Mo_sector_45 : decode b_Mo_sector 45 = .ok (.imul, 1) := by decide +kernel
theorem d_Mo_sector_46 : decode b_Mo_sector 46 = .ok (.iadd, 1) := by decide +kernel
theorem d_Mo_sector_47 : decode b_Mo_sector 47 = .ok (.invokestatic 60, 3) := by decide +kernel
theorem d_Mo_sector_50 : decode b_Mo_sector 50 = .ok (.goto 17, 3) := by decide +kernel
theorem d_Mo_sector_53 : decode b_Mo_sector 53 = .ok (.aload_n 0, 1) := by decide +kernel
theorem d_Mo_sector_54 : decode b_Mo_sector 54 = .ok (.getfield 13, 3) := by decide +kernel
theorem d_Mo_sector_57 : decode b_Mo_sector 57 = .ok (.iload_n 3, 1) := by decide +kernel
theorem d_Mo_sector_58 : decode b_Mo_sector 58 = .ok (.iconst 2, 1) := by decide +kernel
theorem d_Mo_sector_59 : decode b_Mo_sector 59 = .ok (.iadd, 1) := by decide +kernel
theorem d_Mo_sector_60 : decode b_Mo_sector 60 = .ok (.iload_n 2, 1) := by decide +kernel
theorem d_Mo_sector_61 : decode b_Mo_sector 61 = .ok (.iadd, 1) := by decide +kernel
theorem d_Mo_sector_62 : decode b_Mo_sector 62 = .ok (.baload, 1) := by decide +kernel
theorem d_Mo_sector_63 : decode b_Mo_sector 63 = .ok (.sipush 255, 3) := by decide +kernel
theorem d_Mo_sector_66 : decode b_Mo_sector 66 = .ok (.iand, 1) := by decide +kernel
theorem d_Mo_sector_67 : decode b_Mo_sector 67 = .ok (.ireturn, 1) := by decide +kernel
theorem d_Mo_wall_0 : decode b_Mo_wall 0 = .ok (.aload_n 0, 1) := by decide +kernel
theorem d_Mo_wall_1 : decode b_Mo_wall 1 = .ok (.iconst 0, 1) := by decide +kernel
theorem d_Mo_wall_2 : decode b_Mo_wall 2 = .ok (.putfield 26, 3) := by decide +kernel
theorem d_Mo_wall_5 : decode b_Mo_wall 5 = .ok (.aload_n 0, 1) := by decide +kernel
theorem d_Mo_wall_6 : decode b_Mo_wall 6 = .ok (.bipush 6, 2) := by decide +kernel
theorem d_Mo_wall_8 : decode b_Mo_wall 8 = .ok (.iload_n 1, 1) := by decide +kernel
theorem d_Mo_wall_9 : decode b_Mo_wall 9 = .ok (.invokevirtual 119, 3) := by decide +kernel
theorem d_Mo_wall_12 : decode b_Mo_wall 12 = .ok (.ifCond .eq 13, 3) := by decide +kernel
theorem d_Mo_wall_15 : decode b_Mo_wall 15 = .ok (.iload_n 2, 1) := by decide +kernel
theorem d_Mo_wall_16 : decode b_Mo_wall 16 = .ok (.ifCond .lt 9, 3) := by decide +kernel
theorem d_Mo_wall_19 : decode b_Mo_wall 19 = .ok (.iload_n 2, 1) := by decide +kernel
theorem d_Mo_wall_20 : decode b_Mo_wall 20 = .ok (.bipush 14, 2) := by decide +kernel
theorem d_Mo_wall_22 : decode b_Mo_wall 22 = .ok (.if_icmp .le 5, 3) := by decide +kernel
theorem d_Mo_wall_25 : decode b_Mo_wall 25 = .ok (.iconst (-1), 1) := by decide +kernel
theorem d_Mo_wall_26 : decode b_Mo_wall 26 = .ok (.ireturn, 1) := by decide +kernel
theorem d_Mo_wall_27 : decode b_Mo_wall 27 = .ok (.aload_n 0, 1) := by decide +kernel
theorem d_Mo_wall_28 : decode b_Mo_wall 28 = .ok (.iload_n 1, 1) := by decide +kernel
theorem d_Mo_wall_29 : decode b_Mo_wall 29 = .ok (.invokevirtual 123, 3) := by decide +kernel
theorem d_Mo_wall_32 : decode b_Mo_wall 32 = .ok (.istore_n 3, 1) := by decide +kernel
theorem d_Mo_wall_33 : decode b_Mo_wall 33 = .ok (.iload_n 2, 1) := by decide +kernel
theorem d_Mo_wall_34 : decode b_Mo_wall 34 = .ok (.bipush 10, 2) := by decide +kernel
theorem d_Mo_wall_36 : decode b_Mo_wall 36 = .ok (.if_icmp .eq 9, 3) := by decide +kernel
theorem d_Mo_wall_39 : decode b_Mo_wall 39 = .ok (.iload_n 2, 1) := by decide +kernel
theorem d_Mo_wall_40 : decode b_Mo_wall 40 = .ok (.bipush 11, 2) := by decide +kernel
theorem d_Mo_wall_42 : decode b_Mo_wall 42 = .ok (.if_icmp .ne 45, 3) := by decide +kernel
theorem d_Mo_wall_45 : decode b_Mo_wall 45 = .ok (.iload_n 2, 1) := by decide +kernel
theorem d_Mo_wall_46 : decode b_Mo_wall 46 = .ok (.bipush 10, 2) := by decide +kernel
theorem d_Mo_wall_48 : decode b_Mo_wall 48 = .ok (.if_icmp .ne 22, 3) := by decide +kernel
theorem d_Mo_wall_51 : decode b_Mo_wall 51 = .ok (.aload_n 0, 1) := by decide +kernel
theorem d_Mo_wall_52 : decode b_Mo_wall 52 = .ok (.getfield 13, 3) := by decide +kernel
theorem d_Mo_wall_55 : decode b_Mo_wall 55 = .ok (.iload_n 3, 1) := by decide +kernel
theorem d_Mo_wall_56 : decode b_Mo_wall 56 = .ok (.bipush 10, 2) := by decide +kernel
theorem d_Mo_wall_58 : decode b_Mo_wall 58 = .ok (.iadd, 1) := by decide +kernel
theorem d_Mo_wall_59 : decode b_Mo_wall 59 = .ok (.baload, 1) := by decide +kernel
theorem d_Mo_wall_60 : decode b_Mo_wall 60 = .ok (.sipush 255, 3) := by decide +kernel
theorem d_Mo_wall_63 : decode b_Mo_wall 63 = .ok (.iand, 1) := by decide +kernel
theorem d_Mo_wall_64 : decode b_Mo_wall 64 = .ok (.bipush 16, 2) := by decide +kernel
theorem d_Mo_wall_66 : decode b_Mo_wall 66 = .ok (.idiv, 1) := by decide +kernel
theorem d_Mo_wall_67 : decode b_Mo_wall 67 = .ok (.goto 19, 3) := by decide +kernel
theorem d_Mo_wall_70 : decode b_Mo_wall 70 = .ok (.aload_n 0, 1) := by decide +kernel
theorem d_Mo_wall_71 : decode b_Mo_wall 71 = .ok (.getfield 13, 3) := by decide +kernel
theorem d_Mo_wall_74 : decode b_Mo_wall 74 = .ok (.iload_n 3, 1) := by decide +kernel
theorem d_Mo_wall_75 : decode b_Mo_wall 75 = .ok (.bipush 10, 2) := by decide +kernel
theorem d_Mo_wall_77 : decode b_Mo_wall 77 = .ok (.iadd, 1) := by decide +kernel
theorem d_Mo_wall_78 : decode b_Mo_wall 78 = .ok (.baload, 1) := by decide +kernel
theorem d_Mo_wall_79 : decode b_Mo_wall 79 = .ok (.sipush 255, 3) := by decide +kernel
theorem d_Mo_wall_82 : decode b_Mo_wall 82 = .ok (.iand, 1) := by decide +kernel
theorem d_Mo_wall_83 : decode b_Mo_wall 83 = .ok (.bipush 16, 2) := by decide +kernel
theorem d_Mo_wall_85 : decode b_Mo_wall 85 = .ok (.irem, 1) := by decide +kernel
theorem d_Mo_wall_86 : decode b_Mo_wall 86 = .ok (.ireturn, 1) := by decide +kernel
theorem d_Mo_wall_87 : decode b_Mo_wall 87 = .ok (.aload_n 0, 1) := by decide +kernel
theorem d_Mo_wall_88 : decode b_Mo_wall 88 = .ok (.getfield 13, 3) := by decide +kernel
theorem d_Mo_wall_91 : decode b_Mo_wall 91 = .ok (.iload_n 3, 1) := by decide +kernel
theorem d_Mo_wall_92 : decode b_Mo_wall 92 = .ok (.iload_n 2, 1) := by decide +kernel
theorem d_Mo_wall_93 : decode b_Mo_wall 93 = .ok (.bipush 11, 2) := by decide +kernel
theorem d_Mo_wall_95 : decode b_Mo_wall 95 = .ok (.if_icmp .le 9, 3) := by decide +kernel
theorem d_Mo_wall_98 : decode b_Mo_wall 98 = .ok (.iload_n 2, 1) := by decide +kernel
theorem d_Mo_wall_99 : decode b_Mo_wall 99 = .ok (.iconst 1, 1) := by decide +kernel
theorem d_Mo_wall_100 : decode b_Mo_wall 100 = .ok (.isub, 1) := by decide +kernel
theorem d_Mo_wall_101 : decode b_Mo_wall 101 = .ok (.goto 4, 3) := by decide +kernel
theorem d_Mo_wall_104 : decode b_Mo_wall 104 = .ok (.iload_n 2, 1) := by decide +kernel
theorem d_Mo_wall_105 : decode b_Mo_wall 105 = .ok (.iadd, 1) := by decide +kernel
theorem d_Mo_wall_106 : decode b_Mo_wall 106 = .ok (.baload, 1) := by decide +kernel
theorem d_Mo_wall_107 : decode b_Mo_wall 107 = .ok (.sipush 255, 3) := by decide +kernel
theorem d_Mo_wall_110 : decode b_Mo_wall 110 = .ok (.iand, 1) := by decide +kernel
theorem d_Mo_wall_111 : decode b_Mo_wall 111 = .ok (.ireturn, 1) := by decide +kernel
theorem d_Mo_start_0 : decode b_Mo_start 0 = .ok (.aload_n 0, 1) := by decide +kernel
theorem d_Mo_start_1 : decode b_Mo_start 1 = .ok (.iconst 0, 1) := by decide +kernel
theorem d_Mo_start_2 : decode b_Mo_start 2 = .ok (.putfield 26, 3) := by decide +kernel
theorem d_Mo_start_5 : decode b_Mo_start 5 = .ok (.aload_n 0, 1) := by decide +kernel
theorem d_Mo_start_6 : decode b_Mo_start 6 = .ok (.getfield 104, 3) := by decide +kernel
theorem d_Mo_start_9 : decode b_Mo_start 9 = .ok (.ifCond .eq 12, 3) := by decide +kernel
theorem d_Mo_start_12 : decode b_Mo_start 12 = .ok (.iload_n 1, 1) := by decide +kernel
theorem d_Mo_start_13 : decode b_Mo_start 13 = .ok (.ifCond .lt 8, 3) := by decide +kernel
theorem d_Mo_start_16 : decode b_Mo_start 16 = .ok (.iload_n 1, 1) := by decide +kernel
theorem d_Mo_start_17 : decode b_Mo_start 17 = .ok (.iconst 3, 1) := by decide +kernel
theorem d_Mo_start_18 : decode b_Mo_start 18 = .ok (.if_icmp .le 6, 3) := by decide +kernel
theorem d_Mo_start_21 : decode b_Mo_start 21 = .ok (.ldc 122, 2) := by decide +kernel
theorem d_Mo_start_23 : decode b_Mo_start 23 = .ok (.ireturn, 1) := by decide +kernel
theorem d_Mo_start_24 : decode b_Mo_start 24 = .ok (.aload_n 0, 1) := by decide +kernel
theorem d_Mo_start_25 : decode b_Mo_start 25 = .ok (.aload_n 0, 1) := by decide +kernel
theorem d_Mo_start_26 : decode b_Mo_start 26 = .ok (.bipush 6, 2) := by decide +kernel
theorem d_Mo_start_28 : decode b_Mo_start 28 = .ok (.invokevirtual 110, 3) := by decide +kernel
theorem d_Mo_start_31 : decode b_Mo_start 31 = .ok (.invokevirtual 123, 3) := by decide +kernel
theorem d_Mo_start_34 : decode b_Mo_start 34 = .ok (.istore_n 2, 1) := by decide +kernel
theorem d_Mo_start_35 : decode b_Mo_start 35 = .ok (.iload_n 1, 1) := by decide +kernel
theorem d_Mo_start_36 : decode b_Mo_start 36 = .ok (.iconst 2, 1) := by decide +kernel
theorem d_Mo_start_37 : decode b_Mo_start 37 = .ok (.if_icmp .ge 18, 3) := by decide +kernel
theorem d_Mo_start_40 : decode b_Mo_start 40 = .ok (.aload_n 0, 1) := by decide +kernel
theorem d_Mo_start_41 : decode b_Mo_start 41 = .ok (.getfield 13, 3) := by decide +kernel
theorem d_Mo_start_44 : decode b_Mo_start 44 = .ok (.iload_n 2, 1) := by decide +kernel
theorem d_Mo_start_45 : decode b_Mo_start 45 = .ok (.iconst 2, 1) := by decide +kernel
theorem d_Mo_start_46 : decode b_Mo_start 46 = .ok (.iload_n 1, 1) := by decide +kernel
theorem d_Mo_start_47 : decode b_Mo_start 47 = .ok (.imul, 1) := by decide +kernel
theorem d_Mo_start_48 : decode b_Mo_start 48 = .ok (.iadd, 1) := by decide +kernel
theorem d_Mo_start_49 : decode b_Mo_start 49 = .ok (.invokestatic 60, 3) := by decide +kernel
theorem d_Mo_start_52 : decode b_Mo_start 52 = .ok (.goto 17, 3) := by decide +kernel
theorem d_Mo_start_55 : decode b_Mo_start 55 = .ok (.aload_n 0, 1) := by decide +kernel
theorem d_Mo_start_56 : decode b_Mo_start 56 = .ok (.getfield 13, 3) := by decide +kernel
theorem d_Mo_start_59 : decode b_Mo_start 59 = .ok (.iload_n 2, 1) := by decide +kernel
theorem d_Mo_start_60 : decode b_Mo_start 60 = .ok (.iconst 2, 1) := by decide +kernel
theorem d_Mo_start_61 : decode b_Mo_start 61 = .ok (.iadd, 1) := by decide +kernel
theorem d_Mo_start_62 : decode b_Mo_start 62 = .ok (.iload_n 1, 1) := by decide +kernel
theorem d_Mo_start_63 : decode b_Mo_start 63 = .ok (.iadd, 1) := by decide +kernel
theorem d_Mo_start_64 : decode b_Mo_start 64 = .ok (.baload, 1) := by decide +kernel
theorem d_Mo_start_65 : decode b_Mo_start 65 = .ok (.sipush 255, 3) := by decide +kernel
theorem d_Mo_start_68 : decode b_Mo_start 68 = .ok (.iand, 1) := by decide +kernel
theorem d_Mo_start_69 : decode b_Mo_start 69 = .ok (.ireturn, 1) := by decide +kernel
theorem d_Mo_look_0 : decode b_Mo_look 0 = .ok (.aload_n 0, 1) := by decide +kernel
theorem d_Mo_look_1 : decode b_Mo_look 1 = .ok (.iconst 0, 1) := by decide +kernel
theorem d_Mo_look_2 : decode b_Mo_look 2 = .ok (.putfield 26, 3) := by decide +kernel
theorem d_Mo_look_5 : decode b_Mo_look 5 = .ok (.iload_n 1, 1) := by decide +kernel
theorem d_Mo_look_6 : decode b_Mo_look 6 = .ok (.tableswitch 94 0 8 #[50, 55, 60, 60, 60, 60, 79, 84, 89], 50) := by decide +kernel
theorem d_Mo_look_56 : decode b_Mo_look 56 = .ok (.aload_n 0, 1) := by decide +kernel
theorem d_Mo_look_57 : decode b_Mo_look 57 = .ok (.getfield 29, 3) := by decide +kernel
theorem d_Mo_look_60 : decode b_Mo_look 60 = .ok (.ireturn, 1) := by decide +kernel
theorem d_Mo_look_61 : decode b_Mo_look 61 = .ok (.aload_n 0, 1) := by decide +kernel
theorem d_Mo_look_62 : decode b_Mo_look 62 = .ok (.getfield 107, 3) := by decide +kernel
theorem d_Mo_look_65 : decode b_Mo_look 65 = .ok (.ireturn, 1) := by decide +kernel
theorem d_Mo_look_66 : decode b_Mo_look 66 = .ok (.aload_n 0, 1) := by decide +kernel
theorem d_Mo_look_67 : decode b_Mo_look 67 = .ok (.getfield 104, 3) := by decide +kernel
theorem d_Mo_look_70 : decode b_Mo_look 70 = .ok (.ifCond .ne 7, 3) := by decide +kernel
theorem d_Mo_look_73 : decode b_Mo_look 73 = .ok (.iconst (-1), 1) := by decide +kernel
theorem d_Mo_look_74 : decode b_Mo_look 74 = .ok (.goto 10, 3) := by decide +kernel
theorem d_Mo_look_77 : decode b_Mo_look 77 = .ok (.aload_n 0, 1) := by decide +kernel
theorem d_Mo_look_78 : decode b_Mo_look 78 = .ok (.iload_n 1, 1) := by decide +kernel
theorem d_Mo_look_79 : decode b_Mo_look 79 = .ok (.iconst 1, 1) := by decide +kernel
theorem d_Mo_look_80 : decode b_Mo_look 80 = .ok (.iadd, 1) := by decide +kernel
theorem d_Mo_look_81 : decode b_Mo_look 81 = .ok (.invokevirtual 110, 3) := by decide +kernel
theorem d_Mo_look_84 : decode b_Mo_look 84 = .ok (.ireturn, 1) := by decide +kernel
theorem d_Mo_look_85 : decode b_Mo_look 85 = .ok (.aload_n 0, 1) := by decide +kernel
theorem d_Mo_look_86 : decode b_Mo_look 86 = .ok (.getfield 42, 3) := by decide +kernel
theorem d_Mo_look_89 : decode b_Mo_look 89 = .ok (.ireturn, 1) := by decide +kernel
theorem d_Mo_look_90 : decode b_Mo_look 90 = .ok (.aload_n 0, 1) := by decide +kernel
theorem d_Mo_look_91 : decode b_Mo_look 91 = .ok (.getfield 19, 3) := by decide +kernel
theorem d_Mo_look_94 : decode b_Mo_look 94 = .ok (.ireturn, 1) := by decide +kernel
theorem d_Mo_look_95 : decode b_Mo_look 95 = .ok (.aload_n 0, 1) := by decide +kernel
theorem d_Mo_look_96 : decode b_Mo_look 96 = .ok (.getfield 23, 3) := by decide +kernel
theorem d_Mo_look_99 : decode b_Mo_look 99 = .ok (.ireturn, 1) := by decide +kernel
theorem d_Mo_look_100 : decode b_Mo_look 100 = .ok (.iconst (-1), 1) := by decide +kernel
theorem d_Mo_look_101 : decode b_Mo_look 101 = .ok (.ireturn, 1) := by decide +kernel
theorem d_Rd_init_0 : decode b_Rd_init 0 = .ok (.aload_n 0, 1) := by decide +kernel
theorem d_Rd_init_1 : decode b_Rd_init 1 = .ok (.invokespecial 3, 3) := by decide +kernel
theorem d_Rd_init_4 : decode b_Rd_init 4 = .ok (.aload_n 0, 1) := by decide +kernel
theorem d_Rd_init_5 : decode b_Rd_init 5 = .ok (.new 9, 3) := by decide +kernel
theorem d_Rd_init_8 : decode b_Rd_init 8 = .ok (.dup, 1) := by decide +kernel
theorem d_Rd_init_9 : decode b_Rd_init 9 = .ok (.invokespecial 11, 3) := by decide +kernel
theorem d_Rd_init_12 : decode b_Rd_init 12 = .ok (.putfield 12, 3) := by decide +kernel
theorem d_Rd_init_15 : decode b_Rd_init 15 = .ok (.aload_n 0, 1) := by decide +kernel
theorem d_Rd_init_16 : decode b_Rd_init 16 = .ok (.sipush 128, 3) := by decide +kernel
theorem d_Rd_init_19 : decode b_Rd_init 19 = .ok (.newarray .int, 2) := by decide +kernel
theorem d_Rd_init_21 : decode b_Rd_init 21 = .ok (.putfield 18, 3) := by decide +kernel
theorem d_Rd_init_24 : decode b_Rd_init 24 = .ok (.aload_n 0, 1) := by decide +kernel
theorem d_Rd_init_25 : decode b_Rd_init 25 = .ok (.sipush 128, 3) := by decide +kernel
theorem d_Rd_init_28 : decode b_Rd_init 28 = .ok (.newarray .int, 2) := by decide +kernel
theorem d_Rd_init_30 : decode b_Rd_init 30 = .ok (.putfield 22, 3) := by decide +kernel
theorem d_Rd_init_33 : decode b_Rd_init 33 = .ok (.aload_n 0, 1) := by decide +kernel
theorem d_Rd_init_34 : decode b_Rd_init 34 = .ok (.sipush 128, 3) := by decide +kernel
theorem d_Rd_init_37 : decode b_Rd_init 37 = .ok (.anewarray 25, 3) := by decide +kernel
theorem d_Rd_init_40 : decode b_Rd_init 40 = .ok (.putfield 27, 3) := by decide +kernel
theorem d_Rd_init_43 : decode b_Rd_init 43 = .ok (.aload_n 0, 1) := by decide +kernel
theorem d_Rd_init_44 : decode b_Rd_init 44 = .ok (.iconst (-1), 1) := by decide +kernel
theorem d_Rd_init_45 : decode b_Rd_init 45 = .ok (.putfield 31, 3) := by decide +kernel
theorem d_Rd_init_48 : decode b_Rd_init 48 = .ok (.aload_n 0, 1) := by decide +kernel
theorem d_Rd_init_49 : decode b_Rd_init 49 = .ok (.iconst (-1), 1) := by decide +kernel
theorem d_Rd_init_50 : decode b_Rd_init 50 = .ok (.putfield 35, 3) := by decide +kernel
theorem d_Rd_init_53 : decode b_Rd_init 53 = .ok (.iconst 0, 1) := by decide +kernel
theorem d_Rd_init_54 : decode b_Rd_init 54 = .ok (.istore_n 1, 1) := by decide +kernel
theorem d_Rd_init_55 : decode b_Rd_init 55 = .ok (.iload_n 1, 1) := by decide +kernel
theorem d_Rd_init_56 : decode b_Rd_init 56 = .ok (.aload_n 0, 1) := by decide +kernel
theorem d_Rd_init_57 : decode b_Rd_init 57 = .ok (.getfield 27, 3) := by decide +kernel
theorem d_Rd_init_60 : decode b_Rd_init 60 = .ok (.arraylength, 1) := by decide +kernel
theorem d_Rd_init_61 : decode b_Rd_init 61 = .ok (.if_icmp .ge 22, 3) := by decide +kernel
theorem d_Rd_init_64 : decode b_Rd_init 64 = .ok (.aload_n 0, 1) := by decide +kernel
theorem d_Rd_init_65 : decode b_Rd_init 65 = .ok (.getfield 27, 3) := by decide +kernel
theorem d_Rd_init_68 : decode b_Rd_init 68 = .ok (.iload_n 1, 1) := by decide +kernel
theorem d_Rd_init_69 : decode b_Rd_init 69 = .ok (.new 25, 3) := by decide +kernel
theorem d_Rd_init_72 : decode b_Rd_init 72 = .ok (.dup, 1) := by decide +kernel
theorem d_Rd_init_73 : decode b_Rd_init 73 = .ok (.invokespecial 38, 3) := by decide +kernel
theorem d_Rd_init_76 : decode b_Rd_init 76 = .ok (.aastore, 1) := by decide +kernel
theorem d_Rd_init_77 : decode b_Rd_init 77 = .ok (.iinc 1 1, 3) := by decide +kernel
theorem d_Rd_init_80 : decode b_Rd_init 80 = .ok (.goto (-25), 3) := by decide +kernel
theorem d_Rd_init_83 : decode b_Rd_init 83 = .ok (.return_, 1) := by decide +kernel
theorem d_Rd_judge_0 : decode b_Rd_judge 0 = .ok (.aload_n 0, 1) := by decide +kernel
theorem d_Rd_judge_1 : decode b_Rd_judge 1 = .ok (.iconst 0, 1) := by decide +kernel
theorem d_Rd_judge_2 : decode b_Rd_judge 2 = .ok (.putfield 39, 3) := by decide +kernel
theorem d_Rd_judge_5 : decode b_Rd_judge 5 = .ok (.aload_n 0, 1) := by decide +kernel
theorem d_Rd_judge_6 : decode b_Rd_judge 6 = .ok (.iconst 0, 1) := by decide +kernel
theorem d_Rd_judge_7 : decode b_Rd_judge 7 = .ok (.putfield 42, 3) := by decide +kernel
theorem d_Rd_judge_10 : decode b_Rd_judge 10 = .ok (.aload_n 0, 1) := by decide +kernel
theorem d_Rd_judge_11 : decode b_Rd_judge 11 = .ok (.iconst (-1), 1) := by decide +kernel
theorem d_Rd_judge_12 : decode b_Rd_judge 12 = .ok (.putfield 31, 3) := by decide +kernel
theorem d_Rd_judge_15 : decode b_Rd_judge 15 = .ok (.aload_n 0, 1) := by decide +kernel
theorem d_Rd_judge_16 : decode b_Rd_judge 16 = .ok (.iconst (-1), 1) := by decide +kernel
theorem d_Rd_judge_17 : decode b_Rd_judge 17 = .ok (.putfield 35, 3) := by decide +kernel
theorem d_Rd_judge_20 : decode b_Rd_judge 20 = .ok (.aload_n 0, 1) := by decide +kernel
theorem d_Rd_judge_21 : decode b_Rd_judge 21 = .ok (.invokevirtual 45, 3) := by decide +kernel
theorem d_Rd_judge_24 : decode b_Rd_judge 24 = .ok (.aload_n 0, 1) := by decide +kernel
theorem d_Rd_judge_25 : decode b_Rd_judge 25 = .ok (.invokevirtual 48, 3) := by decide +kernel
theorem d_Rd_judge_28 : decode b_Rd_judge 28 = .ok (.aload_n 0, 1) := by decide +kernel
theorem d_Rd_judge_29 : decode b_Rd_judge 29 = .ok (.invokevirtual 51, 3) := by decide +kernel
theorem d_Rd_judge_32 : decode b_Rd_judge 32 = .ok (.aload_n 0, 1) := by decide +kernel
theorem d_Rd_judge_33 : decode b_Rd_judge 33 = .ok (.invokevirtual 54, 3) := by decide +kernel
theorem d_Rd_judge_36 : decode b_Rd_judge 36 = .ok (.aload_n 0, 1) := by decide +kernel
theorem d_Rd_judge_37 : decode b_Rd_judge 37 = .ok (.invokevirtual 57, 3) := by decide +kernel
theorem d_Rd_judge_40 : decode b_Rd_judge 40 = .ok (.aload_n 0, 1) := by decide +kernel
theorem d_Rd_judge_41 : decode b_Rd_judge 41 = .ok (.invokevirtual 60, 3) := by decide +kernel
theorem d_Rd_judge_44 : decode b_Rd_judge 44 = .ok (.aload_n 0, 1) := by decide +kernel
theorem d_Rd_judge_45 : decode b_Rd_judge 45 = .ok (.invokevirtual 63, 3) := by decide +kernel
theorem d_Rd_judge_48 : decode b_Rd_judge 48 = .ok (.aload_n 0, 1) := by decide +kernel
theorem d_Rd_judge_49 : decode b_Rd_judge 49 = .ok (.invokevirtual 66, 3) := by decide +kernel
theorem d_Rd_judge_52 : decode b_Rd_judge 52 = .ok (.aload_n 0, 1) := by decide +kernel
theorem d_Rd_judge_53 : decode b_Rd_judge 53 = .ok (.getfield 42, 3) := by decide +kernel
theorem d_Rd_judge_56 : decode b_Rd_judge 56 = .ok (.ireturn, 1) := by decide +kernel
theorem d_Rd_passHead_0 : decode b_Rd_passHead 0 = .ok (.aload_n 0, 1) := by decide +kernel
theorem d_Rd_passHead_1 : decode b_Rd_passHead 1 = .ok (.bipush 77, 2) := by decide +kernel
theorem d_Rd_passHead_3 : decode b_Rd_passHead 3 = .ok (.iconst 2, 1) := by decide +kernel
theorem d_Rd_passHead_4 : decode b_Rd_passHead 4 = .ok (.invokevirtual 69, 3) := by decide +kernel
theorem d_Rd_passHead_7 : decode b_Rd_passHead 7 = .ok (.aload_n 0, 1) := by decide +kernel
theorem d_Rd_passHead_8 : decode b_Rd_passHead 8 = .ok (.bipush 72, 2) := by decide +kernel
theorem d_Rd_passHead_10 : decode b_Rd_passHead 10 = .ok (.iconst 2, 1) := by decide +kernel
theorem d_Rd_passHead_11 : decode b_Rd_passHead 11 = .ok (.invokevirtual 69, 3) := by decide +kernel
theorem d_Rd_passHead_14 : decode b_Rd_passHead 14 = .ok (.aload_n 0, 1) := by decide +kernel
theorem d_Rd_passHead_15 : decode b_Rd_passHead 15 = .ok (.iconst 1, 1) := by decide +kernel
theorem d_Rd_passHead_16 : decode b_Rd_passHead 16 = .ok (.iconst 2, 1) := by decide +kernel
theorem d_Rd_passHead_17 : decode b_Rd_passHead 17 = .ok (.invokevirtual 69, 3) := by decide +kernel
theorem d_Rd_passHead_20 : decode b_Rd_passHead 20 = .ok (.aload_n 0, 1) := by decide +kernel
theorem d_Rd_passHead_21 : decode b_Rd_passHead 21 = .ok (.aload_n 0, 1) := by decide +kernel
theorem d_Rd_passHead_22 : decode b_Rd_passHead 22 = .ok (.iconst 0, 1) := by decide +kernel
theorem d_Rd_passHead_23 : decode b_Rd_passHead 23 = .ok (.sipush 128, 3) := by decide +kernel
theorem d_Rd_passHead_26 : decode b_Rd_passHead 26 = .ok (.invokevirtual 73, 3) := by decide +kernel
theorem d_Rd_passHead_29 : decode b_Rd_passHead 29 = .ok (.putfield 77, 3) := by decide +kernel
theorem d_Rd_passHead_32 : decode b_Rd_passHead 32 = .ok (.aload_n 0, 1) := by decide +kernel
theorem d_Rd_passHead_33 : decode b_Rd_passHead 33 = .ok (.aload_n 0, 1) := by decide +kernel
theorem d_Rd_passHead_34 : decode b_Rd_passHead 34 = .ok (.iconst 0, 1) := by decide +kernel
theorem d_Rd_passHead_35 : decode b_Rd_passHead 35 = .ok (.bipush 16, 2) := by decide +kernel
theorem d_Rd_passHead_37 : decode b_Rd_passHead 37 = .ok (.invokevirtual 73, 3) := by decide +kernel
theorem d_Rd_passHead_40 : decode b_Rd_passHead 40 = .ok (.putfield 80, 3) := by decide +kernel
theorem d_Rd_passHead_43 : decode b_Rd_passHead 43 = .ok (.aload_n 0, 1) := by decide +kernel
theorem d_Rd_passHead_44 : decode b_Rd_passHead 44 = .ok (.aload_n 0, 1) := by decide +kernel
theorem d_Rd_passHead_45 : decode b_Rd_passHead 45 = .ok (.iconst 1, 1) := by decide +kernel
theorem d_Rd_passHead_46 : decode b_Rd_passHead 46 = .ok (.bipush 32, 2) := by decide +kernel
theorem d_Rd_passHead_48 : decode b_Rd_passHead 48 = .ok (.invokevirtual 73, 3) := by decide +kernel
theorem d_Rd_passHead_51 : decode b_Rd_passHead 51 = .ok (.putfield 83, 3) := by decide +kernel
theorem d_Rd_passHead_54 : decode b_Rd_passHead 54 = .ok (.aload_n 0, 1) := by decide +kernel
theorem d_Rd_passHead_55 : decode b_Rd_passHead 55 = .ok (.aload_n 0, 1) := by decide +kernel
theorem d_Rd_passHead_56 : decode b_Rd_passHead 56 = .ok (.iconst 0, 1) := by decide +kernel
theorem d_Rd_passHead_57 : decode b_Rd_passHead 57 = .ok (.sipush 128, 3) := by decide +kernel
theorem d_Rd_passHead_60 : decode b_Rd_passHead 60 = .ok (.invokevirtual 73, 3) := by decide +kernel
theorem d_Rd_passHead_63 : decode b_Rd_passHead 63 = .ok (.putfield 86, 3) := by decide +kernel
theorem d_Rd_passHead_66 : decode b_Rd_passHead 66 = .ok (.return_, 1) := by decide +kernel
theorem d_Rd_passVertices_0 : decode b_Rd_passVertices 0 = .ok (.iconst 0, 1) := by decide +kernel
theorem d_Rd_passVertices_1 : decode b_Rd_passVertices 1 = .ok (.istore_n 1, 1) := by decide +kernel
theorem d_Rd_passVertices_2 : decode b_Rd_passVertices 2 = .ok (.iload_n 1, 1) := by decide +kernel
theorem d_Rd_passVertices_3 : decode b_Rd_passVertices 3 = .ok (.aload_n 0, 1) := by decide +kernel
theorem d_Rd_passVertices_4 : decode b_Rd_passVertices 4 = .ok (.getfield 77, 3) := by decide +kernel
theorem d_Rd_passVertices_7 : decode b_Rd_passVertices 7 = .ok (.if_icmp .ge 76, 3) := by decide +kernel
theorem d_Rd_passVertices_10 : decode b_Rd_passVertices 10 = .ok (.iload_n 1, 1) := by decide +kernel
theorem d_Rd_passVertices_11 : decode b_Rd_passVertices 11 = .ok (.aload_n 0, 1) := by decide +kernel
theorem d_Rd_passVertices_12 : decode b_Rd_passVertices 12 = .ok (.getfield 18, 3) := by decide +kernel
theorem d_Rd_passVertices_15 : decode b_Rd_passVertices 15 = .ok (.arraylength, 1) := by decide +kernel
theorem d_Rd_passVertices_16 : decode b_Rd_passVertices 16 = .ok (.if_icmp .ge 67, 3) := by decide +kernel
theorem d_Rd_passVertices_19 : decode b_Rd_passVertices 19 = .ok (.aload_n 0, 1) := by decide +kernel
theorem d_Rd_passVertices_20 : decode b_Rd_passVertices 20 = .ok (.getfield 42, 3) := by decide +kernel
theorem d_Rd_passVertices_23 : decode b_Rd_passVertices 23 = .ok (.ifCond .ne 60, 3) := by decide +kernel
theorem d_Rd_passVertices_26 : decode b_Rd_passVertices 26 = .ok (.aload_n 0, 1) := by decide +kernel
theorem d_Rd_passVertices_27 : decode b_Rd_passVertices 27 = .ok (.getfield 18, 3) := by decide +kernel
theorem d_Rd_passVertices_30 : decode b_Rd_passVertices 30 = .ok (.iload_n 1, 1) := by decide +kernel
theorem d_Rd_passVertices_31 : decode b_Rd_passVertices 31 = .ok (.aload_n 0, 1) := by decide +kernel
theorem d_Rd_passVertices_32 : decode b_Rd_passVertices 32 = .ok (.sipush (-32768), 3) := by decide +kernel
theorem d_Rd_passVertices_35 : decode b_Rd_passVertices 35 = .ok (.sipush 32767, 3) := by decide +kernel
theorem d_Rd_passVertices_38 : decode b_Rd_passVertices 38 = .ok (.invokevirtual 89, 3) := by decide +kernel
theorem d_Rd_passVertices_41 : decode b_Rd_passVertices 41 = .ok (.iastore, 1) := by decide +kernel
theorem d_Rd_passVertices_42 : decode b_Rd_passVertices 42 = .ok (.aload_n 0, 1) := by decide +kernel
theorem d_Rd_passVertices_43 : decode b_Rd_passVertices 43 = .ok (.getfield 39, 3) := by decide +kernel
theorem d_Rd_passVertices_46 : decode b_Rd_passVertices 46 = .ok (.istore_n 2, 1) := by decide +kernel
theorem d_Rd_passVertices_47 : decode b_Rd_passVertices 47 = .ok (.aload_n 0, 1) := by decide +kernel
theorem d_Rd_passVertices_48 : decode b_Rd_passVertices 48 = .ok (.getfield 22, 3) := by decide +kernel
theorem d_Rd_passVertices_51 : decode b_Rd_passVertices 51 = .ok (.iload_n 1, 1) := by decide +kernel
theorem d_Rd_passVertices_52 : decode b_Rd_passVertices 52 = .ok (.aload_n 0, 1) := by decide +kernel
theorem d_Rd_passVertices_53 : decode b_Rd_passVertices 53 = .ok (.sipush (-32768), 3) := by decide +kernel
theorem d_Rd_passVertices_56 : decode b_Rd_passVertices 56 = .ok (.sipush 32767, 3) := by decide +kernel
theorem d_Rd_passVertices_59 : decode b_Rd_passVertices 59 = .ok (.invokevirtual 89, 3) := by decide +kernel
theorem d_Rd_passVertices_62 : decode b_Rd_passVertices 62 = .ok (.iastore, 1) := by decide +kernel
theorem d_Rd_passVertices_63 : decode b_Rd_passVertices 63 = .ok (.aload_n 0, 1) := by decide +kernel
theorem d_Rd_passVertices_64 : decode b_Rd_passVertices 64 = .ok (.iload_n 1, 1) := by decide +kernel
theorem d_Rd_passVertices_65 : decode b_Rd_passVertices 65 = .ok (.invokevirtual 92, 3) := by decide +kernel
theorem d_Rd_passVertices_68 : decode b_Rd_passVertices 68 = .ok (.ifCond .eq 9, 3) := by decide +kernel
theorem d_Rd_passVertices_71 : decode b_Rd_passVertices 71 = .ok (.aload_n 0, 1) := by decide +kernel
theorem d_Rd_passVertices_72 : decode b_Rd_passVertices 72 = .ok (.iconst 3, 1) := by decide +kernel
theorem d_Rd_passVertices_73 : decode b_Rd_passVertices 73 = .ok (.iload_n 2, 1) := by decide +kernel
theorem d_Rd_passVertices_74 : decode b_Rd_passVertices 74 = .ok (.invokevirtual 96, 3) := by decide +kernel
theorem d_Rd_passVertices_77 : decode b_Rd_passVertices 77 = .ok (.iinc 1 1, 3) := by decide +kernel
theorem d_Rd_passVertices_80 : decode b_Rd_passVertices 80 = .ok (.goto (-78), 3) := by decide +kernel
theorem d_Rd_passVertices_83 : decode b_Rd_passVertices 83 = .ok (.return_, 1) := by decide +kernel
theorem d_Rd_isTaken_0 : decode b_Rd_isTaken 0 = .ok (.iconst 0, 1) := by decide +kernel
theorem d_Rd_isTaken_1 : decode b_Rd_isTaken 1 = .ok (.istore_n 2, 1) := by decide +kernel
theorem d_Rd_isTaken_2 : decode b_Rd_isTaken 2 = .ok (.iload_n 2, 1) := by decide +kernel
theorem d_Rd_isTaken_3 : decode b_Rd_isTaken 3 = .ok (.iload_n 1, 1) := by decide +kernel
theorem d_Rd_isTaken_4 : decode b_Rd_isTaken 4 = .ok (.if_icmp .ge 50, 3) := by decide +kernel
theorem d_Rd_isTaken_7 : decode b_Rd_isTaken 7 = .ok (.iload_n 1, 1) := by decide +kernel
theorem d_Rd_isTaken_8 : decode b_Rd_isTaken 8 = .ok (.aload_n 0, 1) := by decide +kernel
theorem d_Rd_isTaken_9 : decode b_Rd_isTaken 9 = .ok (.getfield 18, 3) := by decide +kernel
theorem d_Rd_isTaken_12 : decode b_Rd_isTaken 12 = .ok (.arraylength, 1) := by decide +kernel
theorem d_Rd_isTaken_13 : decode b_Rd_isTaken 13 = .ok (.if_icmp .ge 41, 3) := by decide +kernel
theorem d_Rd_isTaken_16 : decode b_Rd_isTaken 16 = .ok (.aload_n 0, 1) := by decide +kernel
theorem d_Rd_isTaken_17 : decode b_Rd_isTaken 17 = .ok (.getfield 18, 3) := by decide +kernel
theorem d_Rd_isTaken_20 : decode b_Rd_isTaken 20 = .ok (.iload_n 2, 1) := by decide +kernel
theorem d_Rd_isTaken_21 : decode b_Rd_isTaken 21 = .ok (.iaload, 1) := by decide +kernel
theorem d_Rd_isTaken_22 : decode b_Rd_isTaken 22 = .ok (.aload_n 0, 1) := by decide +kernel
theorem d_Rd_isTaken_23 : decode b_Rd_isTaken 23 = .ok (.getfield 18, 3) := by decide +kernel
theorem d_Rd_isTaken_26 : decode b_Rd_isTaken 26 = .ok (.iload_n 1, 1) := by decide +kernel
theorem d_Rd_isTaken_27 : decode b_Rd_isTaken 27 = .ok (.iaload, 1) := by decide +kernel
theorem d_Rd_isTaken_28 : decode b_Rd_isTaken 28 = .ok (.if_icmp .ne 20, 3) := by decide +kernel
theorem d_Rd_isTaken_31 : decode b_Rd_isTaken 31 = .ok (.aload_n 0, 1) := by decide +kernel
theorem d_Rd_isTaken_32 : decode b_Rd_isTaken 32 = .ok (.getfield 22, 3) := by decide +kernel
theorem d_Rd_isTaken_35 : decode b_Rd_isTaken 35 = .ok (.iload_n 2, 1) := by decide +kernel
theorem d_Rd_isTaken_36 : decode b_Rd_isTaken 36 = .ok (.iaload, 1) := by decide +kernel
theorem d_Rd_isTaken_37 : decode b_Rd_isTaken 37 = .ok (.aload_n 0, 1) := by decide +kernel
theorem d_Rd_isTaken_38 : decode b_Rd_isTaken 38 = .ok (.getfield 22, 3) := by decide +kernel
theorem d_Rd_isTaken_41 : decode b_Rd_isTaken 41 = .ok (.iload_n 1, 1) := by decide +kernel
theorem d_Rd_isTaken_42 : decode b_Rd_isTaken 42 = .ok (.iaload, 1) := by decide +kernel
theorem d_Rd_isTaken_43 : decode b_Rd_isTaken 43 = .ok (.if_icmp .ne 5, 3) := by decide +kernel
theorem d_Rd_isTaken_46 : decode b_Rd_isTaken 46 = .ok (.iconst 1, 1) := by decide +kernel
theorem d_Rd_isTaken_47 : decode b_Rd_isTaken 47 = .ok (.ireturn, 1) := by decide +kernel
theorem d_Rd_isTaken_48 : decode b_Rd_isTaken 48 = .ok (.iinc 2 1, 3) := by decide +kernel
theorem d_Rd_isTaken_51 : decode b_Rd_isTaken 51 = .ok (.goto (-49), 3) := by decide +kernel
theorem d_Rd_isTaken_54 : decode b_Rd_isTaken 54 = .ok (.iconst 0, 1) := by decide +kernel
theorem d_Rd_isTaken_55 : decode b_Rd_isTaken 55 = .ok (.ireturn, 1) := by decide +kernel
theorem d_Rd_passTextures_0 : decode b_Rd_passTextures 0 = .ok (.iconst 0, 1) := by decide +kernel
theorem d_Rd_passTextures_1 : decode b_Rd_passTextures 1 = .ok (.istore_n 1, 1) := by decide +kernel
theorem d_Rd_passTextures_2 : decode b_Rd_passTextures 2 = .ok (.iload_n 1, 1) := by decide +kernel
theorem d_Rd_passTextures_3 : decode b_Rd_passTextures 3 = .ok (.aload_n 0, 1) := by decide +kernel
theorem d_Rd_passTextures_4 : decode b_Rd_passTextures 4 = .ok (.getfield 80, 3) := by decide +kernel
theorem d_Rd_passTextures_7 : decode b_Rd_passTextures 7 = .ok (.if_icmp .ge 66, 3) := by decide +kernel
theorem d_Rd_passTextures_10 : decode b_Rd_passTextures 10 = .ok (.aload_n 0, 1) := by decide +kernel
theorem d_Rd_passTextures_11 : decode b_Rd_passTextures 11 = .ok (.getfield 42, 3) := by decide +kernel
theorem d_Rd_passTextures_14 : decode b_Rd_passTextures 14 = .ok (.ifCond .ne 59, 3) := by decide +kernel
theorem d_Rd_passTextures_17 : decode b_Rd_passTextures 17 = .ok (.iconst 1, 1) := by decide +kernel
theorem d_Rd_passTextures_18 : decode b_Rd_passTextures 18 = .ok (.aload_n 0, 1) := by decide +kernel
theorem d_Rd_passTextures_19 : decode b_Rd_passTextures 19 = .ok (.iconst 0, 1) := by decide +kernel
theorem d_Rd_passTextures_20 : decode b_Rd_passTextures 20 = .ok (.iconst 4, 1) := by decide +kernel
theorem d_Rd_passTextures_21 : decode b_Rd_passTextures 21 = .ok (.invokevirtual 73, 3) := by decide +kernel
theorem d_Rd_passTextures_24 : decode b_Rd_passTextures 24 = .ok (.ishl, 1) := by decide +kernel
theorem d_Rd_passTextures_25 : decode b_Rd_passTextures 25 = .ok (.istore_n 2, 1) := by decide +kernel
theorem d_Rd_passTextures_26 : decode b_Rd_passTextures 26 = .ok (.iconst 1, 1) := by decide +kernel
theorem d_Rd_passTextures_27 : decode b_Rd_passTextures 27 = .ok (.aload_n 0, 1) := by decide +kernel
theorem d_Rd_passTextures_28 : decode b_Rd_passTextures 28 = .ok (.iconst 0, 1) := by decide +kernel
theorem d_Rd_passTextures_29 : decode b_Rd_passTextures 29 = .ok (.iconst 4, 1) := by decide +kernel
theorem d_Rd_passTextures_30 : decode b_Rd_passTextures 30 = .ok (.invokevirtual 73, 3) := by decide +kernel
theorem d_Rd_passTextures_33 : decode b_Rd_passTextures 33 = .ok (.ishl, 1) := by decide +kernel
theorem d_Rd_passTextures_34 : decode b_Rd_passTextures 34 = .ok (.istore_n 3, 1) := by decide +kernel
theorem d_Rd_passTextures_35 : decode b_Rd_passTextures 35 = .ok (.iconst 0, 1) := by decide +kernel
theorem d_Rd_passTextures_36 : decode b_Rd_passTextures 36 = .ok (.istore 4, 2) := by decide +kernel
theorem d_Rd_passTextures_38 : decode b_Rd_passTextures 38 = .ok (.iload 4, 2) := by decide +kernel
theorem d_Rd_passTextures_40 : decode b_Rd_passTextures 40 = .ok (.iload_n 2, 1) := by decide +kernel
theorem d_Rd_passTextures_41 : decode b_Rd_passTextures 41 = .ok (.iload_n 3, 1) := by decide +kernel
theorem d_Rd_passTextures_42 : decode b_Rd_passTextures 42 = .ok (.imul, 1) := by decide +kernel
theorem d_Rd_passTextures_43 : decode b_Rd_passTextures 43 = .ok (.if_icmp .ge 24, 3) := by decide +kernel
theorem d_Rd_passTextures_46 : decode b_Rd_passTextures 46 = .ok (.aload_n 0, 1) := by decide +kernel
theorem d_Rd_passTextures_47 : decode b_Rd_passTextures 47 = .ok (.getfield 42, 3) := by decide +kernel
theorem d_Rd_passTextures_50 : decode b_Rd_passTextures 50 = .ok (.ifCond .ne 17, 3) := by decide +kernel
theorem d_Rd_passTextures_53 : decode b_Rd_passTextures 53 = .ok (.aload_n 0, 1) := by decide +kernel
theorem d_Rd_passTextures_54 : decode b_Rd_passTextures 54 = .ok (.iconst 0, 1) := by decide +kernel
theorem d_Rd_passTextures_55 : decode b_Rd_passTextures 55 = .ok (.bipush 15, 2) := by decide +kernel
theorem d_Rd_passTextures_57 : decode b_Rd_passTextures 57 = .ok (.invokevirtual 73, 3) := by decide +kernel
theorem d_Rd_passTextures_60 : decode b_Rd_passTextures 60 = .ok (.pop, 1) := by decide +kernel
theorem d_Rd_passTextures_61 : decode b_Rd_passTextures 61 = .ok (.iinc 4 1, 3) := by decide +kernel
theorem d_Rd_passTextures_64 : decode b_Rd_passTextures 64 = .ok (.goto (-26), 3) := by decide +kernel
theorem d_Rd_passTextures_67 : decode b_Rd_passTextures 67 = .ok (.iinc 1 1, 3) := by decide +kernel
theorem d_Rd_passTextures_70 : decode b_Rd_passTextures 70 = .ok (.goto (-68), 3) := by decide +kernel
theorem d_Rd_passTextures_73 : decode b_Rd_passTextures 73 = .ok (.return_, 1) := by decide +kernel
theorem d_Rd_passSectors_0 : decode b_Rd_passSectors 0 = .ok (.iconst 0, 1) := by decide +kernel
theorem d_Rd_passSectors_1 : decode b_Rd_passSectors 1 = .ok (.istore_n 1, 1) := by decide +kernel
theorem d_Rd_passSectors_2 : decode b_Rd_passSectors 2 = .ok (.iload_n 1, 1) := by decide +kernel
theorem d_Rd_passSectors_3 : decode b_Rd_passSectors 3 = .ok (.aload_n 0, 1) := by decide +kernel
theorem d_Rd_passSectors_4 : decode b_Rd_passSectors 4 = .ok (.getfield 83, 3) := by decide +kernel
theorem d_Rd_passSectors_7 : decode b_Rd_passSectors 7 = .ok (.if_icmp .ge 85, 3) := by decide +kernel
theorem d_Rd_passSectors_10 : decode b_Rd_passSectors 10 = .ok (.aload_n 0, 1) := by decide +kernel
theorem d_Rd_passSectors_11 : decode b_Rd_passSectors 11 = .ok (.getfield 42, 3) := by decide +kernel
theorem d_Rd_passSectors_14 : decode b_Rd_passSectors 14 = .ok (.ifCond .ne 78, 3) := by decide +kernel
theorem d_Rd_passSectors_17 : decode b_Rd_passSectors 17 = .ok (.aload_n 0, 1) := by decide +kernel
theorem d_Rd_passSectors_18 : decode b_Rd_passSectors 18 = .ok (.sipush (-1024), 3) := by decide +kernel
theorem d_Rd_passSectors_21 : decode b_Rd_passSectors 21 = .ok (.sipush 1024, 3) := by decide +kernel
theorem d_Rd_passSectors_24 : decode b_Rd_passSectors 24 = .ok (.invokevirtual 89, 3) := by decide +kernel
theorem d_Rd_passSectors_27 : decode b_Rd_passSectors 27 = .ok (.istore_n 2, 1) := by decide +kernel
theorem d_Rd_passSectors_28 : decode b_Rd_passSectors 28 = .ok (.aload_n 0, 1) := by decide +kernel
theorem d_Rd_passSectors_29 : decode b_Rd_passSectors 29 = .ok (.iload_n 2, 1) := by decide +kernel
theorem d_Rd_passSectors_30 : decode b_Rd_passSectors 30 = .ok (.iconst 1, 1) := by decide +kernel
theorem d_Rd_passSectors_31 : decode b_Rd_passSectors 31 = .ok (.iadd, 1) := by decide +kernel
theorem d_Rd_passSectors_32 : decode b_Rd_passSectors 32 = .ok (.sipush 1024, 3) := by decide +kernel
theorem d_Rd_passSectors_35 : decode b_Rd_passSectors 35 = .ok (.invokevirtual 89, 3) := by decide +kernel
theorem d_Rd_passSectors_38 : decode b_Rd_passSectors 38 = .ok (.pop, 1) := by decide +kernel
theorem d_Rd_passSectors_39 : decode b_Rd_passSectors 39 = .ok (.aload_n 0, 1) := by decide +kernel
theorem d_Rd_passSectors_40 : decode b_Rd_passSectors 40 = .ok (.iconst 0, 1) := by decide +kernel
theorem d_Rd_passSectors_41 : decode b_Rd_passSectors 41 = .ok (.aload_n 0, 1) := by decide +kernel
theorem d_Rd_passSectors_42 : decode b_Rd_passSectors 42 = .ok (.getfield 80, 3) := by decide +kernel
theorem d_Rd_passSectors_45 : decode b_Rd_passSectors 45 = .ok (.iconst 1, 1) := by decide +kernel
theorem d_Rd_passSectors_46 : decode b_Rd_passSectors 46 = .ok (.isub, 1) := by decide +kernel
theorem d_Rd_passSectors_47 : decode b_Rd_passSectors 47 = .ok (.invokevirtual 73, 3) := by decide +kernel
theorem d_Rd_passSectors_50 : decode b_Rd_passSectors 50 = .ok (.pop, 1) := by decide +kernel
theorem d_Rd_passSectors_51 : decode b_Rd_passSectors 51 = .ok (.aload_n 0, 1) := by decide +kernel
theorem d_Rd_passSectors_52 : decode b_Rd_passSectors 52 = .ok (.aload_n 0, 1) := by decide +kernel
theorem d_Rd_passSectors_53 : decode b_Rd_passSectors 53 = .ok (.getfield 80, 3) := by decide +kernel
theorem d_Rd_passSectors_56 : decode b_Rd_passSectors 56 = .ok (.iconst 1, 1) := by decide +kernel
theorem d_Rd_passSectors_57 : decode b_Rd_passSectors 57 = .ok (.isub, 1) := by decide +kernel
theorem d_Rd_passSectors_58 : decode b_Rd_passSectors 58 = .ok (.invokevirtual 99, 3) := by decide +kernel
theorem d_Rd_passSectors_61 : decode b_Rd_passSectors 61 = .ok (.pop, 1) := by decide +kernel
theorem d_Rd_passSectors_62 : decode b_Rd_passSectors 62 = .ok (.aload_n 0, 1) := by decide +kernel
theorem d_Rd_passSectors_63 : decode b_Rd_passSectors 63 = .ok (.iconst 0, 1) := by decide +kernel
theorem d_Rd_passSectors_64 : decode b_Rd_passSectors 64 = .ok (.bipush 15, 2) := by decide +kernel
theorem d_Rd_passSectors_66 : decode b_Rd_passSectors 66 = .ok (.invokevirtual 73, 3) := by decide +kernel
theorem d_Rd_passSectors_69 : decode b_Rd_passSectors 69 = .ok (.pop, 1) := by decide +kernel
theorem d_Rd_passSectors_70 : decode b_Rd_passSectors 70 = .ok (.aload_n 0, 1) := by decide +kernel
theorem d_Rd_passSectors_71 : decode b_Rd_passSectors 71 = .ok (.iconst 0, 1) := by decide +kernel
theorem d_Rd_passSectors_72 : decode b_Rd_passSectors 72 = .ok (.iconst 3, 1) := by decide +kernel
theorem d_Rd_passSectors_73 : decode b_Rd_passSectors 73 = .ok (.invokevirtual 73, 3) := by decide +kernel
theorem d_Rd_passSectors_76 : decode b_Rd_passSectors 76 = .ok (.pop, 1) := by decide +kernel
theorem d_Rd_passSectors_77 : decode b_Rd_passSectors 77 = .ok (.aload_n 0, 1) := by decide +kernel
theorem d_Rd_passSectors_78 : decode b_Rd_passSectors 78 = .ok (.iconst 0, 1) := by decide +kernel
theorem d_Rd_passSectors_79 : decode b_Rd_passSectors 79 = .ok (.sipush 255, 3) := by decide +kernel
theorem d_Rd_passSectors_82 : decode b_Rd_passSectors 82 = .ok (.invokevirtual 73, 3) := by decide +kernel
theorem d_Rd_passSectors_85 : decode b_Rd_passSectors 85 = .ok (.pop, 1) := by decide +kernel
theorem d_Rd_passSectors_86 : decode b_Rd_passSectors 86 = .ok (.iinc 1 1, 3) := by decide +kernel
theorem d_Rd_passSectors_89 : decode b_Rd_passSectors 89 = .ok (.goto (-87), 3) := by decide +kernel
theorem d_Rd_passSectors_92 : decode b_Rd_passSectors 92 = .ok (.return_, 1) := by decide +kernel
end
section
theorem d_Rd_passWalls_0 : decode b_Rd_passWalls 0 = .ok (.aload_n 0, 1) := by decide +kernel
theorem d_Rd_passWalls_1 : decode b_Rd_passWalls 1 = .ok (.aload_n 0, 1) := by decide +kernel
theorem d_Rd_passWalls_2 : decode b_Rd_passWalls 2 = .ok (.getfield 39, 3) := by decide +kernel
theorem d_Rd_passWalls_5 : decode b_Rd_passWalls 5 = .ok (.putfield 103, 3) := by decide +kernel
theorem d_Rd_passWalls_8 : decode b_Rd_passWalls 8 = .ok (.iconst 0, 1) := by decide +kernel
theorem d_Rd_passWalls_9 : decode b_Rd_passWalls 9 = .ok (.istore_n 1, 1) := by decide +kernel
theorem d_Rd_passWalls_10 : decode b_Rd_passWalls 10 = .ok (.iload_n 1, 1) := by decide +kernel
theorem d_Rd_passWalls_11 : decode b_Rd_passWalls 11 = .ok (.aload_n 0, 1) := by decide +kernel
theorem d_Rd_passWalls_12 : decode b_Rd_passWalls 12 = .ok (.getfield 86, 3) := by decide +kernel
theorem d_Rd_passWalls_15 : decode b_Rd_passWalls 15 = .ok (.if_icmp .ge 121, 3) := by decide +kernel
theorem d_Rd_passWalls_18 : decode b_Rd_passWalls 18 = .ok (.iload_n 1, 1) := by decide +kernel
theorem d_Rd_passWalls_19 : decode b_Rd_passWalls 19 = .ok (.aload_n 0, 1) := by decide +kernel
theorem d_Rd_passWalls_20 : decode b_Rd_passWalls 20 = .ok (.getfield 27, 3) := by decide +kernel
theorem d_Rd_passWalls_23 : decode b_Rd_passWalls 23 = .ok (.arraylength, 1) := by decide +kernel
theorem d_Rd_passWalls_24 : decode b_Rd_passWalls 24 = .ok (.if_icmp .ge 112, 3) := by decide +kernel
theorem d_Rd_passWalls_27 : decode b_Rd_passWalls 27 = .ok (.aload_n 0, 1) := by decide +kernel
theorem d_Rd_passWalls_28 : decode b_Rd_passWalls 28 = .ok (.getfield 42, 3) := by decide +kernel
theorem d_Rd_passWalls_31 : decode b_Rd_passWalls 31 = .ok (.ifCond .ne 105, 3) := by decide +kernel
theorem d_Rd_passWalls_34 : decode b_Rd_passWalls 34 = .ok (.aload_n 0, 1) := by decide +kernel
theorem d_Rd_passWalls_35 : decode b_Rd_passWalls 35 = .ok (.aload_n 0, 1) := by decide +kernel
theorem d_Rd_passWalls_36 : decode b_Rd_passWalls 36 = .ok (.getfield 27, 3) := by decide +kernel
theorem d_Rd_passWalls_39 : decode b_Rd_passWalls 39 = .ok (.iload_n 1, 1) := by decide +kernel
theorem d_Rd_passWalls_40 : decode b_Rd_passWalls 40 = .ok (.aaload, 1) := by decide +kernel
theorem d_Rd_passWalls_41 : decode b_Rd_passWalls 41 = .ok (.invokevirtual 106, 3) := by decide +kernel
theorem d_Rd_passWalls_44 : decode b_Rd_passWalls 44 = .ok (.aload_n 0, 1) := by decide +kernel
theorem d_Rd_passWalls_45 : decode b_Rd_passWalls 45 = .ok (.iconst 0, 1) := by decide +kernel
theorem d_Rd_passWalls_46 : decode b_Rd_passWalls 46 = .ok (.aload_n 0, 1) := by decide +kernel
theorem d_Rd_passWalls_47 : decode b_Rd_passWalls 47 = .ok (.getfield 83, 3) := by decide +kernel
theorem d_Rd_passWalls_50 : decode b_Rd_passWalls 50 = .ok (.iconst 1, 1) := by decide +kernel
theorem d_Rd_passWalls_51 : decode b_Rd_passWalls 51 = .ok (.isub, 1) := by decide +kernel
theorem d_Rd_passWalls_52 : decode b_Rd_passWalls 52 = .ok (.invokevirtual 73, 3) := by decide +kernel
theorem d_Rd_passWalls_55 : decode b_Rd_passWalls 55 = .ok (.pop, 1) := by decide +kernel
theorem d_Rd_passWalls_56 : decode b_Rd_passWalls 56 = .ok (.aload_n 0, 1) := by decide +kernel
theorem d_Rd_passWalls_57 : decode b_Rd_passWalls 57 = .ok (.aload_n 0, 1) := by decide +kernel
theorem d_Rd_passWalls_58 : decode b_Rd_passWalls 58 = .ok (.getfield 83, 3) := by decide +kernel
theorem d_Rd_passWalls_61 : decode b_Rd_passWalls 61 = .ok (.iconst 1, 1) := by decide +kernel
theorem d_Rd_passWalls_62 : decode b_Rd_passWalls 62 = .ok (.isub, 1) := by decide +kernel
theorem d_Rd_passWalls_63 : decode b_Rd_passWalls 63 = .ok (.invokevirtual 99, 3) := by decide +kernel
theorem d_Rd_passWalls_66 : decode b_Rd_passWalls 66 = .ok (.istore_n 2, 1) := by decide +kernel
theorem d_Rd_passWalls_67 : decode b_Rd_passWalls 67 = .ok (.aload_n 0, 1) := by decide +kernel
theorem d_Rd_passWalls_68 : decode b_Rd_passWalls 68 = .ok (.aload_n 0, 1) := by decide +kernel
theorem d_Rd_passWalls_69 : decode b_Rd_passWalls 69 = .ok (.getfield 80, 3) := by decide +kernel
theorem d_Rd_passWalls_72 : decode b_Rd_passWalls 72 = .ok (.iconst 1, 1) := by decide +kernel
theorem d_Rd_passWalls_73 : decode b_Rd_passWalls 73 = .ok (.isub, 1) := by decide +kernel
theorem d_Rd_passWalls_74 : decode b_Rd_passWalls 74 = .ok (.invokevirtual 110, 3) := by decide +kernel
theorem d_Rd_passWalls_77 : decode b_Rd_passWalls 77 = .ok (.aload_n 0, 1) := by decide +kernel
theorem d_Rd_passWalls_78 : decode b_Rd_passWalls 78 = .ok (.iload_n 2, 1) := by decide +kernel
theorem d_Rd_passWalls_79 : decode b_Rd_passWalls 79 = .ok (.sipush 255, 3) := by decide +kernel
theorem d_Rd_passWalls_82 : decode b_Rd_passWalls 82 = .ok (.if_icmp .ne 7, 3) := by decide +kernel
theorem d_Rd_passWalls_85 : decode b_Rd_passWalls 85 = .ok (.iconst (-1), 1) := by decide +kernel
theorem d_Rd_passWalls_86 : decode b_Rd_passWalls 86 = .ok (.goto 9, 3) := by decide +kernel
theorem d_Rd_passWalls_89 : decode b_Rd_passWalls 89 = .ok (.aload_n 0, 1) := by decide +kernel
theorem d_Rd_passWalls_90 : decode b_Rd_passWalls 90 = .ok (.getfield 80, 3) := by decide +kernel
theorem d_Rd_passWalls_93 : decode b_Rd_passWalls 93 = .ok (.iconst 1, 1) := by decide +kernel
theorem d_Rd_passWalls_94 : decode b_Rd_passWalls 94 = .ok (.isub, 1) := by decide +kernel
theorem d_Rd_passWalls_95 : decode b_Rd_passWalls 95 = .ok (.invokevirtual 110, 3) := by decide +kernel
theorem d_Rd_passWalls_98 : decode b_Rd_passWalls 98 = .ok (.aload_n 0, 1) := by decide +kernel
theorem d_Rd_passWalls_99 : decode b_Rd_passWalls 99 = .ok (.iconst 0, 1) := by decide +kernel
theorem d_Rd_passWalls_100 : decode b_Rd_passWalls 100 = .ok (.sipush 255, 3) := by decide +kernel
theorem d_Rd_passWalls_103 : decode b_Rd_passWalls 103 = .ok (.invokevirtual 73, 3) := by decide +kernel
theorem d_Rd_passWalls_106 : decode b_Rd_passWalls 106 = .ok (.pop, 1) := by decide +kernel
theorem d_Rd_passWalls_107 : decode b_Rd_passWalls 107 = .ok (.aload_n 0, 1) := by decide +kernel
theorem d_Rd_passWalls_108 : decode b_Rd_passWalls 108 = .ok (.iconst 0, 1) := by decide +kernel
theorem d_Rd_passWalls_109 : decode b_Rd_passWalls 109 = .ok (.iconst 3, 1) := by decide +kernel
theorem d_Rd_passWalls_110 : decode b_Rd_passWalls 110 = .ok (.invokevirtual 73, 3) := by decide +kernel
theorem d_Rd_passWalls_113 : decode b_Rd_passWalls 113 = .ok (.pop, 1) := by decide +kernel
theorem d_Rd_passWalls_114 : decode b_Rd_passWalls 114 = .ok (.aload_n 0, 1) := by decide +kernel
theorem d_Rd_passWalls_115 : decode b_Rd_passWalls 115 = .ok (.iconst 0, 1) := by decide +kernel
theorem d_Rd_passWalls_116 : decode b_Rd_passWalls 116 = .ok (.iconst 5, 1) := by decide +kernel
theorem d_Rd_passWalls_117 : decode b_Rd_passWalls 117 = .ok (.invokevirtual 73, 3) := by decide +kernel
theorem d_Rd_passWalls_120 : decode b_Rd_passWalls 120 = .ok (.pop, 1) := by decide +kernel
theorem d_Rd_passWalls_121 : decode b_Rd_passWalls 121 = .ok (.aload_n 0, 1) := by decide +kernel
theorem d_Rd_passWalls_122 : decode b_Rd_passWalls 122 = .ok (.iconst 0, 1) := by decide +kernel
theorem d_Rd_passWalls_123 : decode b_Rd_passWalls 123 = .ok (.sipush 255, 3) := by decide +kernel
theorem d_Rd_passWalls_126 : decode b_Rd_passWalls 126 = .ok (.invokevirtual 73, 3) := by decide +kernel
theorem d_Rd_passWalls_129 : decode b_Rd_passWalls 129 = .ok (.pop, 1) := by decide +kernel
theorem d_Rd_passWalls_130 : decode b_Rd_passWalls 130 = .ok (.iinc 1 1, 3) := by decide +kernel
theorem d_Rd_passWalls_133 : decode b_Rd_passWalls 133 = .ok (.goto (-123), 3) := by decide +kernel
theorem d_Rd_passWalls_136 : decode b_Rd_passWalls 136 = .ok (.return_, 1) := by decide +kernel
theorem d_Rd_passWallEnds_0 : decode b_Rd_passWallEnds 0 = .ok (.aload_n 0, 1) := by decide +kernel
theorem d_Rd_passWallEnds_1 : decode b_Rd_passWallEnds 1 = .ok (.iconst 0, 1) := by decide +kernel
theorem d_Rd_passWallEnds_2 : decode b_Rd_passWallEnds 2 = .ok (.aload_n 0, 1) := by decide +kernel
theorem d_Rd_passWallEnds_3 : decode b_Rd_passWallEnds 3 = .ok (.getfield 77, 3) := by decide +kernel
theorem d_Rd_passWallEnds_6 : decode b_Rd_passWallEnds 6 = .ok (.iconst 1, 1) := by decide +kernel
theorem d_Rd_passWallEnds_7 : decode b_Rd_passWallEnds 7 = .ok (.isub, 1) := by decide +kernel
theorem d_Rd_passWallEnds_8 : decode b_Rd_passWallEnds 8 = .ok (.invokevirtual 73, 3) := by decide +kernel
theorem d_Rd_passWallEnds_11 : decode b_Rd_passWallEnds 11 = .ok (.istore_n 2, 1) := by decide +kernel
theorem d_Rd_passWallEnds_12 : decode b_Rd_passWallEnds 12 = .ok (.aload_n 0, 1) := by decide +kernel
theorem d_Rd_passWallEnds_13 : decode b_Rd_passWallEnds 13 = .ok (.getfield 39, 3) := by decide +kernel
theorem d_Rd_passWallEnds_16 : decode b_Rd_passWallEnds 16 = .ok (.istore_n 3, 1) := by decide +kernel
theorem d_Rd_passWallEnds_17 : decode b_Rd_passWallEnds 17 = .ok (.aload_n 0, 1) := by decide +kernel
theorem d_Rd_passWallEnds_18 : decode b_Rd_passWallEnds 18 = .ok (.iconst 0, 1) := by decide +kernel
theorem d_Rd_passWallEnds_19 : decode b_Rd_passWallEnds 19 = .ok (.aload_n 0, 1) := by decide +kernel
theorem d_Rd_passWallEnds_20 : decode b_Rd_passWallEnds 20 = .ok (.getfield 77, 3) := by decide +kernel
theorem d_Rd_passWallEnds_23 : decode b_Rd_passWallEnds 23 = .ok (.iconst 1, 1) := by decide +kernel
theorem d_Rd_passWallEnds_24 : decode b_Rd_passWallEnds 24 = .ok (.isub, 1) := by decide +kernel
theorem d_Rd_passWallEnds_25 : decode b_Rd_passWallEnds 25 = .ok (.invokevirtual 73, 3) := by decide +kernel
theorem d_Rd_passWallEnds_28 : decode b_Rd_passWallEnds 28 = .ok (.istore 4, 2) := by decide +kernel
theorem d_Rd_passWallEnds_30 : decode b_Rd_passWallEnds 30 = .ok (.iload_n 2, 1) := by decide +kernel
theorem d_Rd_passWallEnds_31 : decode b_Rd_passWallEnds 31 = .ok (.iload 4, 2) := by decide +kernel
theorem d_Rd_passWallEnds_33 : decode b_Rd_passWallEnds 33 = .ok (.if_icmp .ne 9, 3) := by decide +kernel
theorem d_Rd_passWallEnds_36 : decode b_Rd_passWallEnds 36 = .ok (.aload_n 0, 1) := by decide +kernel
theorem d_Rd_passWallEnds_37 : decode b_Rd_passWallEnds 37 = .ok (.iconst 3, 1) := by decide +kernel
theorem d_Rd_passWallEnds_38 : decode b_Rd_passWallEnds 38 = .ok (.iload_n 3, 1) := by decide +kernel
theorem d_Rd_passWallEnds_39 : decode b_Rd_passWallEnds 39 = .ok (.invokevirtual 96, 3) := by decide +kernel
theorem d_Rd_passWallEnds_42 : decode b_Rd_passWallEnds 42 = .ok (.iload_n 2, 1) := by decide +kernel
theorem d_Rd_passWallEnds_43 : decode b_Rd_passWallEnds 43 = .ok (.aload_n 0, 1) := by decide +kernel
theorem d_Rd_passWallEnds_44 : decode b_Rd_passWallEnds 44 = .ok (.getfield 18, 3) := by decide +kernel
theorem d_Rd_passWallEnds_47 : decode b_Rd_passWallEnds 47 = .ok (.arraylength, 1) := by decide +kernel
theorem d_Rd_passWallEnds_48 : decode b_Rd_passWallEnds 48 = .ok (.if_icmp .ge 43, 3) := by decide +kernel
theorem d_Rd_passWallEnds_51 : decode b_Rd_passWallEnds 51 = .ok (.iload 4, 2) := by decide +kernel
theorem d_Rd_passWallEnds_53 : decode b_Rd_passWallEnds 53 = .ok (.aload_n 0, 1) := by decide +kernel
theorem d_Rd_passWallEnds_54 : decode b_Rd_passWallEnds 54 = .ok (.getfield 18, 3) := by decide +kernel
theorem d_Rd_passWallEnds_57 : decode b_Rd_passWallEnds 57 = .ok (.arraylength, 1) := by decide +kernel
theorem d_Rd_passWallEnds_58 : decode b_Rd_passWallEnds 58 = .ok (.if_icmp .ge 33, 3) := by decide +kernel
theorem d_Rd_passWallEnds_61 : decode b_Rd_passWallEnds 61 = .ok (.aload_n 1, 1) := by decide +kernel
theorem d_Rd_passWallEnds_62 : decode b_Rd_passWallEnds 62 = .ok (.aload_n 0, 1) := by decide +kernel
theorem d_Rd_passWallEnds_63 : decode b_Rd_passWallEnds 63 = .ok (.getfield 18, 3) := by decide +kernel
theorem d_Rd_passWallEnds_66 : decode b_Rd_passWallEnds 66 = .ok (.iload_n 2, 1) := by decide +kernel
theorem d_Rd_passWallEnds_67 : decode b_Rd_passWallEnds 67 = .ok (.iaload, 1) := by decide +kernel
theorem d_Rd_passWallEnds_68 : decode b_Rd_passWallEnds 68 = .ok (.aload_n 0, 1) := by decide +kernel
theorem d_Rd_passWallEnds_69 : decode b_Rd_passWallEnds 69 = .ok (.getfield 22, 3) := by decide +kernel
theorem d_Rd_passWallEnds_72 : decode b_Rd_passWallEnds 72 = .ok (.iload_n 2, 1) := by decide +kernel
theorem d_Rd_passWallEnds_73 : decode b_Rd_passWallEnds 73 = .ok (.iaload, 1) := by decide +kernel
theorem d_Rd_passWallEnds_74 : decode b_Rd_passWallEnds 74 = .ok (.aload_n 0, 1) := by decide +kernel
theorem d_Rd_passWallEnds_75 : decode b_Rd_passWallEnds 75 = .ok (.getfield 18, 3) := by decide +kernel
theorem d_Rd_passWallEnds_78 : decode b_Rd_passWallEnds 78 = .ok (.iload 4, 2) := by decide +kernel
theorem d_Rd_passWallEnds_80 : decode b_Rd_passWallEnds 80 = .ok (.iaload, 1) := by decide +kernel
theorem d_Rd_passWallEnds_81 : decode b_Rd_passWallEnds 81 = .ok (.aload_n 0, 1) := by decide +kernel
theorem d_Rd_passWallEnds_82 : decode b_Rd_passWallEnds 82 = .ok (.getfield 22, 3) := by decide +kernel
theorem d_Rd_passWallEnds_85 : decode b_Rd_passWallEnds 85 = .ok (.iload 4, 2) := by decide +kernel
theorem d_Rd_passWallEnds_87 : decode b_Rd_passWallEnds 87 = .ok (.iaload, 1) := by decide +kernel
theorem d_Rd_passWallEnds_88 : decode b_Rd_passWallEnds 88 = .ok (.invokevirtual 114, 3) := by decide +kernel
theorem d_Rd_passWallEnds_91 : decode b_Rd_passWallEnds 91 = .ok (.return_, 1) := by decide +kernel
theorem d_Rd_passWallTextures_0 : decode b_Rd_passWallTextures 0 = .ok (.iconst 0, 1) := by decide +kernel
theorem d_Rd_passWallTextures_1 : decode b_Rd_passWallTextures 1 = .ok (.istore_n 2, 1) := by decide +kernel
theorem d_Rd_passWallTextures_2 : decode b_Rd_passWallTextures 2 = .ok (.iload_n 2, 1) := by decide +kernel
theorem d_Rd_passWallTextures_3 : decode b_Rd_passWallTextures 3 = .ok (.iconst 3, 1) := by decide +kernel
theorem d_Rd_passWallTextures_4 : decode b_Rd_passWallTextures 4 = .ok (.if_icmp .ge 15, 3) := by decide +kernel
theorem d_Rd_passWallTextures_7 : decode b_Rd_passWallTextures 7 = .ok (.aload_n 0, 1) := by decide +kernel
theorem d_Rd_passWallTextures_8 : decode b_Rd_passWallTextures 8 = .ok (.iload_n 1, 1) := by decide +kernel
theorem d_Rd_passWallTextures_9 : decode b_Rd_passWallTextures 9 = .ok (.invokevirtual 99, 3) := by decide +kernel
theorem d_Rd_passWallTextures_12 : decode b_Rd_passWallTextures 12 = .ok (.pop, 1) := by decide +kernel
theorem d_Rd_passWallTextures_13 : decode b_Rd_passWallTextures 13 = .ok (.iinc 2 1, 3) := by decide +kernel
theorem d_Rd_passWallTextures_16 : decode b_Rd_passWallTextures 16 = .ok (.goto (-14), 3) := by decide +kernel
theorem d_Rd_passWallTextures_19 : decode b_Rd_passWallTextures 19 = .ok (.return_, 1) := by decide +kernel
theorem d_Rd_passStart_0 : decode b_Rd_passStart 0 = .ok (.aload_n 0, 1) := by decide +kernel
theorem d_Rd_passStart_1 : decode b_Rd_passStart 1 = .ok (.sipush (-32768), 3) := by decide +kernel
theorem d_Rd_passStart_4 : decode b_Rd_passStart 4 = .ok (.sipush 32767, 3) := by decide +kernel
theorem d_Rd_passStart_7 : decode b_Rd_passStart 7 = .ok (.invokevirtual 89, 3) := by decide +kernel
theorem d_Rd_passStart_10 : decode b_Rd_passStart 10 = .ok (.pop, 1) := by decide +kernel
theorem d_Rd_passStart_11 : decode b_Rd_passStart 11 = .ok (.aload_n 0, 1) := by decide +kernel
theorem d_Rd_passStart_12 : decode b_Rd_passStart 12 = .ok (.sipush (-32768), 3) := by decide +kernel
theorem d_Rd_passStart_15 : decode b_Rd_passStart 15 = .ok (.sipush 32767, 3) := by decide +kernel
theorem d_Rd_passStart_18 : decode b_Rd_passStart 18 = .ok (.invokevirtual 89, 3) := by decide +kernel
theorem d_Rd_passStart_21 : decode b_Rd_passStart 21 = .ok (.pop, 1) := by decide +kernel
theorem d_Rd_passStart_22 : decode b_Rd_passStart 22 = .ok (.aload_n 0, 1) := by decide +kernel
theorem d_Rd_passStart_23 : decode b_Rd_passStart 23 = .ok (.iconst 0, 1) := by decide +kernel
theorem d_Rd_passStart_24 : decode b_Rd_passStart 24 = .ok (.bipush 63, 2) := by decide +kernel
theorem d_Rd_passStart_26 : decode b_Rd_passStart 26 = .ok (.invokevirtual 73, 3) := by decide +kernel
theorem d_Rd_passStart_29 : decode b_Rd_passStart 29 = .ok (.pop, 1) := by decide +kernel
theorem d_Rd_passStart_30 : decode b_Rd_passStart 30 = .ok (.aload_n 0, 1) := by decide +kernel
theorem d_Rd_passStart_31 : decode b_Rd_passStart 31 = .ok (.iconst 0, 1) := by decide +kernel
theorem d_Rd_passStart_32 : decode b_Rd_passStart 32 = .ok (.aload_n 0, 1) := by decide +kernel
theorem d_Rd_passStart_33 : decode b_Rd_passStart 33 = .ok (.getfield 83, 3) := by decide +kernel
theorem d_Rd_passStart_36 : decode b_Rd_passStart 36 = .ok (.iconst 1, 1) := by decide +kernel
theorem d_Rd_passStart_37 : decode b_Rd_passStart 37 = .ok (.isub, 1) := by decide +kernel
theorem d_Rd_passStart_38 : decode b_Rd_passStart 38 = .ok (.invokevirtual 73, 3) := by decide +kernel
theorem d_Rd_passStart_41 : decode b_Rd_passStart 41 = .ok (.pop, 1) := by decide +kernel
theorem d_Rd_passStart_42 : decode b_Rd_passStart 42 = .ok (.return_, 1) := by decide +kernel
theorem d_Rd_passEnd_0 : decode b_Rd_passEnd 0 = .ok (.aload_n 0, 1) := by decide +kernel
theorem d_Rd_passEnd_1 : decode b_Rd_passEnd 1 = .ok (.getfield 12, 3) := by decide +kernel
theorem d_Rd_passEnd_4 : decode b_Rd_passEnd 4 = .ok (.aload_n 0, 1) := by decide +kernel
theorem d_Rd_passEnd_5 : decode b_Rd_passEnd 5 = .ok (.getfield 39, 3) := by decide +kernel
theorem d_Rd_passEnd_8 : decode b_Rd_passEnd 8 = .ok (.invokevirtual 118, 3) := by decide +kernel
theorem d_Rd_passEnd_11 : decode b_Rd_passEnd 11 = .ok (.istore_n 1, 1) := by decide +kernel
theorem d_Rd_passEnd_12 : decode b_Rd_passEnd 12 = .ok (.aload_n 0, 1) := by decide +kernel
theorem d_Rd_passEnd_13 : decode b_Rd_passEnd 13 = .ok (.iload_n 1, 1) := by decide +kernel
theorem d_Rd_passEnd_14 : decode b_Rd_passEnd 14 = .ok (.bipush 8, 2) := by decide +kernel
theorem d_Rd_passEnd_16 : decode b_Rd_passEnd 16 = .ok (.ishr, 1) := by decide +kernel
theorem d_Rd_passEnd_17 : decode b_Rd_passEnd 17 = .ok (.iconst 4, 1) := by decide +kernel
theorem d_Rd_passEnd_18 : decode b_Rd_passEnd 18 = .ok (.invokevirtual 69, 3) := by decide +kernel
theorem d_Rd_passEnd_21 : decode b_Rd_passEnd 21 = .ok (.aload_n 0, 1) := by decide +kernel
theorem d_Rd_passEnd_22 : decode b_Rd_passEnd 22 = .ok (.iload_n 1, 1) := by decide +kernel
theorem d_Rd_passEnd_23 : decode b_Rd_passEnd 23 = .ok (.sipush 255, 3) := by decide +kernel
theorem d_Rd_passEnd_26 : decode b_Rd_passEnd 26 = .ok (.iand, 1) := by decide +kernel
theorem d_Rd_passEnd_27 : decode b_Rd_passEnd 27 = .ok (.iconst 4, 1) := by decide +kernel
theorem d_Rd_passEnd_28 : decode b_Rd_passEnd 28 = .ok (.invokevirtual 69, 3) := by decide +kernel
theorem d_Rd_passEnd_31 : decode b_Rd_passEnd 31 = .ok (.aload_n 0, 1) := by decide +kernel
theorem d_Rd_passEnd_32 : decode b_Rd_passEnd 32 = .ok (.getfield 39, 3) := by decide +kernel
theorem d_Rd_passEnd_35 : decode b_Rd_passEnd 35 = .ok (.aload_n 0, 1) := by decide +kernel
theorem d_Rd_passEnd_36 : decode b_Rd_passEnd 36 = .ok (.getfield 12, 3) := by decide +kernel
theorem d_Rd_passEnd_39 : decode b_Rd_passEnd 39 = .ok (.getfield 121, 3) := by decide +kernel
theorem d_Rd_passEnd_42 : decode b_Rd_passEnd 42 = .ok (.if_icmp .ge 12, 3) := by decide +kernel
theorem d_Rd_passEnd_45 : decode b_Rd_passEnd 45 = .ok (.aload_n 0, 1) := by decide +kernel
theorem d_Rd_passEnd_46 : decode b_Rd_passEnd 46 = .ok (.iconst 5, 1) := by decide +kernel
theorem d_Rd_passEnd_47 : decode b_Rd_passEnd 47 = .ok (.aload_n 0, 1) := by decide +kernel
theorem d_Rd_passEnd_48 : decode b_Rd_passEnd 48 = .ok (.getfield 39, 3) := by decide +kernel
theorem d_Rd_passEnd_51 : decode b_Rd_passEnd 51 = .ok (.invokevirtual 96, 3) := by decide +kernel
theorem d_Rd_passEnd_54 : decode b_Rd_passEnd 54 = .ok (.return_, 1) := by decide +kernel
theorem d_Rd_seekMeeting_0 : decode b_Rd_seekMeeting 0 = .ok (.iconst 1, 1) := by decide +kernel
theorem d_Rd_seekMeeting_1 : decode b_Rd_seekMeeting 1 = .ok (.istore_n 1, 1) := by decide +kernel
theorem d_Rd_seekMeeting_2 : decode b_Rd_seekMeeting 2 = .ok (.iload_n 1, 1) := by decide +kernel
theorem d_Rd_seekMeeting_3 : decode b_Rd_seekMeeting 3 = .ok (.aload_n 0, 1) := by decide +kernel
theorem d_Rd_seekMeeting_4 : decode b_Rd_seekMeeting 4 = .ok (.getfield 86, 3) := by decide +kernel
theorem d_Rd_seekMeeting_7 : decode b_Rd_seekMeeting 7 = .ok (.if_icmp .ge 83, 3) := by decide +kernel
theorem d_Rd_seekMeeting_10 : decode b_Rd_seekMeeting 10 = .ok (.iload_n 1, 1) := by decide +kernel
theorem d_Rd_seekMeeting_11 : decode b_Rd_seekMeeting 11 = .ok (.aload_n 0, 1) := by decide +kernel
theorem d_Rd_seekMeeting_12 : decode b_Rd_seekMeeting 12 = .ok (.getfield 27, 3) := by decide +kernel
theorem d_Rd_seekMeeting_15 : decode b_Rd_seekMeeting 15 = .ok (.arraylength, 1) := by decide +kernel
theorem d_Rd_seekMeeting_16 : decode b_Rd_seekMeeting 16 = .ok (.if_icmp .ge 74, 3) := by decide +kernel
theorem d_Rd_seekMeeting_19 : decode b_Rd_seekMeeting 19 = .ok (.aload_n 0, 1) := by decide +kernel
theorem d_Rd_seekMeeting_20 : decode b_Rd_seekMeeting 20 = .ok (.getfield 42, 3) := by decide +kernel
theorem d_Rd_seekMeeting_23 : decode b_Rd_seekMeeting 23 = .ok (.ifCond .ne 67, 3) := by decide +kernel
theorem d_Rd_seekMeeting_26 : decode b_Rd_seekMeeting 26 = .ok (.iconst 0, 1) := by decide +kernel
theorem d_Rd_seekMeeting_27 : decode b_Rd_seekMeeting 27 = .ok (.istore_n 2, 1) := by decide +kernel
theorem d_Rd_seekMeeting_28 : decode b_Rd_seekMeeting 28 = .ok (.iload_n 2, 1) := by decide +kernel
theorem d_Rd_seekMeeting_29 : decode b_Rd_seekMeeting 29 = .ok (.iload_n 1, 1) := by decide +kernel
theorem d_Rd_seekMeeting_30 : decode b_Rd_seekMeeting 30 = .ok (.if_icmp .ge 54, 3) := by decide +kernel
theorem d_Rd_seekMeeting_33 : decode b_Rd_seekMeeting 33 = .ok (.aload_n 0, 1) := by decide +kernel
theorem d_Rd_seekMeeting_34 : decode b_Rd_seekMeeting 34 = .ok (.getfield 42, 3) := by decide +kernel
theorem d_Rd_seekMeeting_37 : decode b_Rd_seekMeeting 37 = .ok (.ifCond .ne 47, 3) := by decide +kernel
theorem d_Rd_seekMeeting_40 : decode b_Rd_seekMeeting 40 = .ok (.aload_n 0, 1) := by decide +kernel
theorem d_Rd_seekMeeting_41 : decode b_Rd_seekMeeting 41 = .ok (.getfield 27, 3) := by decide +kernel
theorem d_Rd_seekMeeting_44 : decode b_Rd_seekMeeting 44 = .ok (.iload_n 1, 1) := by decide +kernel
theorem d_Rd_seekMeeting_45 : decode b_Rd_seekMeeting 45 = .ok (.aaload, 1) := by decide +kernel
theorem d_Rd_seekMeeting_46 : decode b_Rd_seekMeeting 46 = .ok (.aload_n 0, 1) := by decide +kernel
theorem d_Rd_seekMeeting_47 : decode b_Rd_seekMeeting 47 = .ok (.getfield 27, 3) := by decide +kernel
theorem d_Rd_seekMeeting_50 : decode b_Rd_seekMeeting 50 = .ok (.iload_n 2, 1) := by decide +kernel
theorem d_Rd_seekMeeting_51 : decode b_Rd_seekMeeting 51 = .ok (.aaload, 1) := by decide +kernel
theorem d_Rd_seekMeeting_52 : decode b_Rd_seekMeeting 52 = .ok (.invokevirtual 124, 3) := by decide +kernel
theorem d_Rd_seekMeeting_55 : decode b_Rd_seekMeeting 55 = .ok (.ifCond .eq 23, 3) := by decide +kernel
theorem d_Rd_seekMeeting_58 : decode b_Rd_seekMeeting 58 = .ok (.aload_n 0, 1) := by decide +kernel
theorem d_Rd_seekMeeting_59 : decode b_Rd_seekMeeting 59 = .ok (.bipush 6, 2) := by decide +kernel
theorem d_Rd_seekMeeting_61 : decode b_Rd_seekMeeting 61 = .ok (.aload_n 0, 1) := by decide +kernel
theorem d_Rd_seekMeeting_62 : decode b_Rd_seekMeeting 62 = .ok (.getfield 103, 3) := by decide +kernel
theorem d_Rd_seekMeeting_65 : decode b_Rd_seekMeeting 65 = .ok (.bipush 14, 2) := by decide +kernel
theorem d_Rd_seekMeeting_67 : decode b_Rd_seekMeeting 67 = .ok (.iload_n 1, 1) := by decide +kernel
theorem d_Rd_seekMeeting_68 : decode b_Rd_seekMeeting 68 = .ok (.imul, 1) := by decide +kernel
theorem d_Rd_seekMeeting_69 : decode b_Rd_seekMeeting 69 = .ok (.iadd, 1) := by decide +kernel
theorem d_Rd_seekMeeting_70 : decode b_Rd_seekMeeting 70 = .ok (.invokevirtual 96, 3) := by decide +kernel
theorem d_Rd_seekMeeting_73 : decode b_Rd_seekMeeting 73 = .ok (.aload_n 0, 1) := by decide +kernel
theorem d_Rd_seekMeeting_74 : decode b_Rd_seekMeeting 74 = .ok (.iload_n 1, 1) := by decide +kernel
theorem d_Rd_seekMeeting_75 : decode b_Rd_seekMeeting 75 = .ok (.putfield 35, 3) := by decide +kernel
theorem d_Rd_seekMeeting_78 : decode b_Rd_seekMeeting 78 = .ok (.iinc 2 1, 3) := by decide +kernel
theorem d_Rd_seekMeeting_81 : decode b_Rd_seekMeeting 81 = .ok (.goto (-53), 3) := by decide +kernel
theorem d_Rd_seekMeeting_84 : decode b_Rd_seekMeeting 84 = .ok (.iinc 1 1, 3) := by decide +kernel
theorem d_Rd_seekMeeting_87 : decode b_Rd_seekMeeting 87 = .ok (.goto (-85), 3) := by decide +kernel
theorem d_Rd_seekMeeting_90 : decode b_Rd_seekMeeting 90 = .ok (.return_, 1) := by decide +kernel
theorem d_Rd_next_0 : decode b_Rd_next 0 = .ok (.aload_n 0, 1) := by decide +kernel
theorem d_Rd_next_1 : decode b_Rd_next 1 = .ok (.getfield 42, 3) := by decide +kernel
theorem d_Rd_next_4 : decode b_Rd_next 4 = .ok (.ifCond .eq 5, 3) := by decide +kernel
theorem d_Rd_next_7 : decode b_Rd_next 7 = .ok (.iconst 0, 1) := by decide +kernel
theorem d_Rd_next_8 : decode b_Rd_next 8 = .ok (.ireturn, 1) := by decide +kernel
theorem d_Rd_next_9 : decode b_Rd_next 9 = .ok (.aload_n 0, 1) := by decide +kernel
theorem d_Rd_next_10 : decode b_Rd_next 10 = .ok (.getfield 12, 3) := by decide +kernel
theorem d_Rd_next_13 : decode b_Rd_next 13 = .ok (.aload_n 0, 1) := by decide +kernel
theorem d_Rd_next_14 : decode b_Rd_next 14 = .ok (.getfield 39, 3) := by decide +kernel
theorem d_Rd_next_17 : decode b_Rd_next 17 = .ok (.invokevirtual 128, 3) := by decide +kernel
theorem d_Rd_next_20 : decode b_Rd_next 20 = .ok (.istore_n 1, 1) := by decide +kernel
theorem d_Rd_next_21 : decode b_Rd_next 21 = .ok (.iload_n 1, 1) := by decide +kernel
theorem d_Rd_next_22 : decode b_Rd_next 22 = .ok (.iconst (-1), 1) := by decide +kernel
theorem d_Rd_next_23 : decode b_Rd_next 23 = .ok (.if_icmp .ne 17, 3) := by decide +kernel
theorem d_Rd_next_26 : decode b_Rd_next 26 = .ok (.aload_n 0, 1) := by decide +kernel
theorem d_Rd_next_27 : decode b_Rd_next 27 = .ok (.iconst 1, 1) := by decide +kernel
theorem d_Rd_next_28 : decode b_Rd_next 28 = .ok (.aload_n 0, 1) := by decide +kernel
theorem d_Rd_next_29 : decode b_Rd_next 29 = .ok (.getfield 12, 3) := by decide +kernel
theorem d_Rd_next_32 : decode b_Rd_next 32 = .ok (.getfield 121, 3) := by decide +kernel
theorem d_Rd_next_35 : decode b_Rd_next 35 = .ok (.invokevirtual 96, 3) := by decide +kernel
theorem d_Rd_next_38 : decode b_Rd_next 38 = .ok (.iconst 0, 1) := by decide +kernel
theorem d_Rd_next_39 : decode b_Rd_next 39 = .ok (.ireturn, 1) := by decide +kernel
theorem d_Rd_next_40 : decode b_Rd_next 40 = .ok (.aload_n 0, 1) := by decide +kernel
theorem d_Rd_next_41 : decode b_Rd_next 41 = .ok (.dup, 1) := by decide +kernel
theorem d_Rd_next_42 : decode b_Rd_next 42 = .ok (.getfield 39, 3) := by decide +kernel
theorem d_Rd_next_45 : decode b_Rd_next 45 = .ok (.iconst 1, 1) := by decide +kernel
theorem d_Rd_next_46 : decode b_Rd_next 46 = .ok (.iadd, 1) := by decide +kernel
theorem d_Rd_next_47 : decode b_Rd_next 47 = .ok (.putfield 39, 3) := by decide +kernel
theorem d_Rd_next_50 : decode b_Rd_next 50 = .ok (.iload_n 1, 1) := by decide +kernel
theorem d_Rd_next_51 : decode b_Rd_next 51 = .ok (.ireturn, 1) := by decide +kernel
theorem d_Rd_expect_0 : decode b_Rd_expect 0 = .ok (.aload_n 0, 1) := by decide +kernel
theorem d_Rd_expect_1 : decode b_Rd_expect 1 = .ok (.getfield 39, 3) := by decide +kernel
theorem d_Rd_expect_4 : decode b_Rd_expect 4 = .ok (.istore_n 3, 1) := by decide +kernel
theorem d_Rd_expect_5 : decode b_Rd_expect 5 = .ok (.aload_n 0, 1) := by decide +kernel
theorem d_Rd_expect_6 : decode b_Rd_expect 6 = .ok (.invokevirtual 131, 3) := by decide +kernel
theorem d_Rd_expect_9 : decode b_Rd_expect 9 = .ok (.iload_n 1, 1) := by decide +kernel
theorem d_Rd_expect_10 : decode b_Rd_expect 10 = .ok (.if_icmp .eq 9, 3) := by decide +kernel
theorem d_Rd_expect_13 : decode b_Rd_expect 13 = .ok (.aload_n 0, 1) := by decide +kernel
theorem d_Rd_expect_14 : decode b_Rd_expect 14 = .ok (.iload_n 2, 1) := by decide +kernel
theorem d_Rd_expect_15 : decode b_Rd_expect 15 = .ok (.iload_n 3, 1) := by decide +kernel
theorem d_Rd_expect_16 : decode b_Rd_expect 16 = .ok (.invokevirtual 96, 3) := by decide +kernel
theorem d_Rd_expect_19 : decode b_Rd_expect 19 = .ok (.return_, 1) := by decide +kernel
theorem d_Rd_small_0 : decode b_Rd_small 0 = .ok (.aload_n 0, 1) := by decide +kernel
theorem d_Rd_small_1 : decode b_Rd_small 1 = .ok (.getfield 39, 3) := by decide +kernel
theorem d_Rd_small_4 : decode b_Rd_small 4 = .ok (.istore_n 3, 1) := by decide +kernel
theorem d_Rd_small_5 : decode b_Rd_small 5 = .ok (.aload_n 0, 1) := by decide +kernel
theorem d_Rd_small_6 : decode b_Rd_small 6 = .ok (.aload_n 0, 1) := by decide +kernel
theorem d_Rd_small_7 : decode b_Rd_small 7 = .ok (.invokevirtual 131, 3) := by decide +kernel
theorem d_Rd_small_10 : decode b_Rd_small 10 = .ok (.iload_n 1, 1) := by decide +kernel
theorem d_Rd_small_11 : decode b_Rd_small 11 = .ok (.iload_n 2, 1) := by decide +kernel
theorem d_Rd_small_12 : decode b_Rd_small 12 = .ok (.iload_n 3, 1) := by decide +kernel
theorem d_Rd_small_13 : decode b_Rd_small 13 = .ok (.invokevirtual 135, 3) := by decide +kernel
theorem d_Rd_small_16 : decode b_Rd_small 16 = .ok (.ireturn, 1) := by decide +kernel
theorem d_Rd_smallOrAbsent_0 : decode b_Rd_smallOrAbsent 0 = .ok (.aload_n 0, 1) := by decide +kernel
theorem d_Rd_smallOrAbsent_1 : decode b_Rd_smallOrAbsent 1 = .ok (.getfield 39, 3) := by decide +kernel
theorem d_Rd_smallOrAbsent_4 : decode b_Rd_smallOrAbsent 4 = .ok (.istore_n 2, 1) := by decide +kernel
theorem d_Rd_smallOrAbsent_5 : decode b_Rd_smallOrAbsent 5 = .ok (.aload_n 0, 1) := by decide +kernel
theorem d_Rd_smallOrAbsent_6 : decode b_Rd_smallOrAbsent 6 = .ok (.invokevirtual 131, 3) := by decide +kernel
theorem d_Rd_smallOrAbsent_9 : decode b_Rd_smallOrAbsent 9 = .ok (.istore_n 3, 1) := by decide +kernel
theorem d_Rd_smallOrAbsent_10 : decode b_Rd_smallOrAbsent 10 = .ok (.iload_n 3, 1) := by decide +kernel
theorem d_Rd_smallOrAbsent_11 : decode b_Rd_smallOrAbsent 11 = .ok (.sipush 255, 3) := by decide +kernel
theorem d_Rd_smallOrAbsent_14 : decode b_Rd_smallOrAbsent 14 = .ok (.if_icmp .ne 7, 3) := by decide +kernel
theorem d_Rd_smallOrAbsent_17 : decode b_Rd_smallOrAbsent 17 = .ok (.iload_n 3, 1) := by decide +kernel
theorem d_Rd_smallOrAbsent_18 : decode b_Rd_smallOrAbsent 18 = .ok (.goto 11, 3) := by decide +kernel
theorem d_Rd_smallOrAbsent_21 : decode b_Rd_smallOrAbsent 21 = .ok (.aload_n 0, 1) := by decide +kernel
theorem d_Rd_smallOrAbsent_22 : decode b_Rd_smallOrAbsent 22 = .ok (.iload_n 3, 1) := by decide +kernel
theorem d_Rd_smallOrAbsent_23 : decode b_Rd_smallOrAbsent 23 = .ok (.iconst 0, 1) := by decide +kernel
theorem d_Rd_smallOrAbsent_24 : decode b_Rd_smallOrAbsent 24 = .ok (.iload_n 1, 1) := by decide +kernel
theorem d_Rd_smallOrAbsent_25 : decode b_Rd_smallOrAbsent 25 = .ok (.iload_n 2, 1) := by decide +kernel
theorem d_Rd_smallOrAbsent_26 : decode b_Rd_smallOrAbsent 26 = .ok (.invokevirtual 135, 3) := by decide +kernel
theorem d_Rd_smallOrAbsent_29 : decode b_Rd_smallOrAbsent 29 = .ok (.ireturn, 1) := by decide +kernel
theorem d_Rd_wide_0 : decode b_Rd_wide 0 = .ok (.aload_n 0, 1) := by decide +kernel
theorem d_Rd_wide_1 : decode b_Rd_wide 1 = .ok (.getfield 39, 3) := by decide +kernel
theorem d_Rd_wide_4 : decode b_Rd_wide 4 = .ok (.istore_n 3, 1) := by decide +kernel
theorem d_Rd_wide_5 : decode b_Rd_wide 5 = .ok (.aload_n 0, 1) := by decide +kernel
theorem d_Rd_wide_6 : decode b_Rd_wide 6 = .ok (.invokevirtual 131, 3) := by decide +kernel
theorem d_Rd_wide_9 : decode b_Rd_wide 9 = .ok (.istore 4, 2) := by decide +kernel
theorem d_Rd_wide_11 : decode b_Rd_wide 11 = .ok (.sipush 256, 3) := by decide +kernel
theorem d_Rd_wide_14 : decode b_Rd_wide 14 = .ok (.iload 4, 2) := by decide +kernel
theorem d_Rd_wide_16 : decode b_Rd_wide 16 = .ok (.imul, 1) := by decide +kernel
theorem d_Rd_wide_17 : decode b_Rd_wide 17 = .ok (.aload_n 0, 1) := by decide +kernel
theorem d_Rd_wide_18 : decode b_Rd_wide 18 = .ok (.invokevirtual 131, 3) := by decide +kernel
theorem d_Rd_wide_21 : decode b_Rd_wide 21 = .ok (.iadd, 1) := by decide +kernel
theorem d_Rd_wide_22 : decode b_Rd_wide 22 = .ok (.istore 5, 2) := by decide +kernel
theorem d_Rd_wide_24 : decode b_Rd_wide 24 = .ok (.aload_n 0, 1) := by decide +kernel
theorem d_Rd_wide_25 : decode b_Rd_wide 25 = .ok (.iload 5, 2) := by decide +kernel
theorem d_Rd_wide_27 : decode b_Rd_wide 27 = .ok (.sipush 32767, 3) := by decide +kernel
theorem d_Rd_wide_30 : decode b_Rd_wide 30 = .ok (.if_icmp .le 11, 3) := by decide +kernel
theorem d_Rd_wide_33 : decode b_Rd_wide 33 = .ok (.iload 5, 2) := by decide +kernel
theorem d_Rd_wide_35 : decode b_Rd_wide 35 = .ok (.ldc 139, 2) := by decide +kernel
theorem d_Rd_wide_37 : decode b_Rd_wide 37 = .ok (.isub, 1) := by decide +kernel
theorem d_Rd_wide_38 : decode b_Rd_wide 38 = .ok (.goto 5, 3) := by decide +kernel
theorem d_Rd_wide_41 : decode b_Rd_wide 41 = .ok (.iload 5, 2) := by decide +kernel
theorem d_Rd_wide_43 : decode b_Rd_wide 43 = .ok (.iload_n 1, 1) := by decide +kernel
theorem d_Rd_wide_44 : decode b_Rd_wide 44 = .ok (.iload_n 2, 1) := by decide +kernel
theorem d_Rd_wide_45 : decode b_Rd_wide 45 = .ok (.iload_n 3, 1) := by decide +kernel
theorem d_Rd_wide_46 : decode b_Rd_wide 46 = .ok (.invokevirtual 135, 3) := by decide +kernel
theorem d_Rd_wide_49 : decode b_Rd_wide 49 = .ok (.ireturn, 1) := by decide +kernel
theorem d_Rd_judged_0 : decode b_Rd_judged 0 = .ok (.iload_n 1, 1) := by decide +kernel
theorem d_Rd_judged_1 : decode b_Rd_judged 1 = .ok (.iload_n 2, 1) := by decide +kernel
theorem d_Rd_judged_2 : decode b_Rd_judged 2 = .ok (.if_icmp .lt 8, 3) := by decide +kernel
theorem d_Rd_judged_5 : decode b_Rd_judged 5 = .ok (.iload_n 1, 1) := by decide +kernel
theorem d_Rd_judged_6 : decode b_Rd_judged 6 = .ok (.iload_n 3, 1) := by decide +kernel
theorem d_Rd_judged_7 : decode b_Rd_judged 7 = .ok (.if_icmp .le 10, 3) := by decide +kernel
theorem d_Rd_judged_10 : decode b_Rd_judged 10 = .ok (.aload_n 0, 1) := by decide +kernel
theorem d_Rd_judged_11 : decode b_Rd_judged 11 = .ok (.iconst 3, 1) := by decide +kernel
theorem d_Rd_judged_12 : decode b_Rd_judged 12 = .ok (.iload 4, 2) := by decide +kernel
theorem d_Rd_judged_14 : decode b_Rd_judged 14 = .ok (.invokevirtual 96, 3) := by decide +kernel
theorem d_Rd_judged_17 : decode b_Rd_judged 17 = .ok (.aload_n 0, 1) := by decide +kernel
theorem d_Rd_judged_18 : decode b_Rd_judged 18 = .ok (.getfield 42, 3) := by decide +kernel
theorem d_Rd_judged_21 : decode b_Rd_judged 21 = .ok (.ifCond .ne 7, 3) := by decide +kernel
theorem d_Rd_judged_24 : decode b_Rd_judged 24 = .ok (.iload_n 1, 1) := by decide +kernel
theorem d_Rd_judged_25 : decode b_Rd_judged 25 = .ok (.goto 4, 3) := by decide +kernel
theorem d_Rd_judged_28 : decode b_Rd_judged 28 = .ok (.iconst 0, 1) := by decide +kernel
theorem d_Rd_judged_29 : decode b_Rd_judged 29 = .ok (.ireturn, 1) := by decide +kernel
theorem d_Rd_fail_0 : decode b_Rd_fail 0 = .ok (.aload_n 0, 1) := by decide +kernel
theorem d_Rd_fail_1 : decode b_Rd_fail 1 = .ok (.getfield 42, 3) := by decide +kernel
theorem d_Rd_fail_4 : decode b_Rd_fail 4 = .ok (.ifCond .ne 13, 3) := by decide +kernel
theorem d_Rd_fail_7 : decode b_Rd_fail 7 = .ok (.aload_n 0, 1) := by decide +kernel
theorem d_Rd_fail_8 : decode b_Rd_fail 8 = .ok (.iload_n 1, 1) := by decide +kernel
theorem d_Rd_fail_9 : decode b_Rd_fail 9 = .ok (.putfield 42, 3) := by decide +kernel
theorem d_Rd_fail_12 : decode b_Rd_fail 12 = .ok (.aload_n 0, 1) := by decide +kernel
theorem d_Rd_fail_13 : decode b_Rd_fail 13 = .ok (.iload_n 2, 1) := by decide +kernel
theorem d_Rd_fail_14 : decode b_Rd_fail 14 = .ok (.putfield 31, 3) := by decide +kernel
theorem d_Rd_fail_17 : decode b_Rd_fail 17 = .ok (.return_, 1) := by decide +kernel
theorem d_Mp_init_0 : decode b_Mp_init 0 = .ok (.aload_n 0, 1) := by decide +kernel
theorem d_Mp_init_1 : decode b_Mp_init 1 = .ok (.invokespecial 3, 3) := by decide +kernel
theorem d_Mp_init_4 : decode b_Mp_init 4 = .ok (.aload_n 0, 1) := by decide +kernel
theorem d_Mp_init_5 : decode b_Mp_init 5 = .ok (.new 9, 3) := by decide +kernel
theorem d_Mp_init_8 : decode b_Mp_init 8 = .ok (.dup, 1) := by decide +kernel
theorem d_Mp_init_9 : decode b_Mp_init 9 = .ok (.invokespecial 11, 3) := by decide +kernel
theorem d_Mp_init_12 : decode b_Mp_init 12 = .ok (.putfield 12, 3) := by decide +kernel
theorem d_Mp_init_15 : decode b_Mp_init 15 = .ok (.aload_n 0, 1) := by decide +kernel
theorem d_Mp_init_16 : decode b_Mp_init 16 = .ok (.bipush 16, 2) := by decide +kernel
theorem d_Mp_init_18 : decode b_Mp_init 18 = .ok (.newarray .int, 2) := by decide +kernel
theorem d_Mp_init_20 : decode b_Mp_init 20 = .ok (.putfield 18, 3) := by decide +kernel
theorem d_Mp_init_23 : decode b_Mp_init 23 = .ok (.return_, 1) := by decide +kernel
theorem d_Mp_take_0 : decode b_Mp_take 0 = .ok (.aload_n 0, 1) := by decide +kernel
theorem d_Mp_take_1 : decode b_Mp_take 1 = .ok (.getfield 12, 3) := by decide +kernel
theorem d_Mp_take_4 : decode b_Mp_take 4 = .ok (.aload_n 1, 1) := by decide +kernel
theorem d_Mp_take_5 : decode b_Mp_take 5 = .ok (.invokevirtual 22, 3) := by decide +kernel
theorem d_Mp_take_8 : decode b_Mp_take 8 = .ok (.aload_n 0, 1) := by decide +kernel
theorem d_Mp_take_9 : decode b_Mp_take 9 = .ok (.iconst 1, 1) := by decide +kernel
theorem d_Mp_take_10 : decode b_Mp_take 10 = .ok (.putfield 26, 3) := by decide +kernel
theorem d_Mp_take_13 : decode b_Mp_take 13 = .ok (.aload_n 0, 1) := by decide +kernel
theorem d_Mp_take_14 : decode b_Mp_take 14 = .ok (.aload_n 0, 1) := by decide +kernel
theorem d_Mp_take_15 : decode b_Mp_take 15 = .ok (.getfield 12, 3) := by decide +kernel
theorem d_Mp_take_18 : decode b_Mp_take 18 = .ok (.iconst 3, 1) := by decide +kernel
theorem d_Mp_take_19 : decode b_Mp_take 19 = .ok (.invokevirtual 30, 3) := by decide +kernel
theorem d_Mp_take_22 : decode b_Mp_take 22 = .ok (.putfield 34, 3) := by decide +kernel
theorem d_Mp_take_25 : decode b_Mp_take 25 = .ok (.aload_n 0, 1) := by decide +kernel
theorem d_Mp_take_26 : decode b_Mp_take 26 = .ok (.aload_n 0, 1) := by decide +kernel
theorem d_Mp_take_27 : decode b_Mp_take 27 = .ok (.getfield 12, 3) := by decide +kernel
theorem d_Mp_take_30 : decode b_Mp_take 30 = .ok (.iconst 4, 1) := by decide +kernel
theorem d_Mp_take_31 : decode b_Mp_take 31 = .ok (.invokevirtual 30, 3) := by decide +kernel
theorem d_Mp_take_34 : decode b_Mp_take 34 = .ok (.putfield 38, 3) := by decide +kernel
theorem d_Mp_take_37 : decode b_Mp_take 37 = .ok (.aload_n 0, 1) := by decide +kernel
theorem d_Mp_take_38 : decode b_Mp_take 38 = .ok (.aload_n 0, 1) := by decide +kernel
theorem d_Mp_take_39 : decode b_Mp_take 39 = .ok (.getfield 12, 3) := by decide +kernel
theorem d_Mp_take_42 : decode b_Mp_take 42 = .ok (.iconst 5, 1) := by decide +kernel
theorem d_Mp_take_43 : decode b_Mp_take 43 = .ok (.invokevirtual 30, 3) := by decide +kernel
theorem d_Mp_take_46 : decode b_Mp_take 46 = .ok (.putfield 41, 3) := by decide +kernel
theorem d_Mp_take_49 : decode b_Mp_take 49 = .ok (.aload_n 0, 1) := by decide +kernel
theorem d_Mp_take_50 : decode b_Mp_take 50 = .ok (.aload_n 0, 1) := by decide +kernel
theorem d_Mp_take_51 : decode b_Mp_take 51 = .ok (.getfield 12, 3) := by decide +kernel
theorem d_Mp_take_54 : decode b_Mp_take 54 = .ok (.bipush 6, 2) := by decide +kernel
theorem d_Mp_take_56 : decode b_Mp_take 56 = .ok (.invokevirtual 30, 3) := by decide +kernel
theorem d_Mp_take_59 : decode b_Mp_take 59 = .ok (.putfield 44, 3) := by decide +kernel
theorem d_Mp_take_62 : decode b_Mp_take 62 = .ok (.bipush 7, 2) := by decide +kernel
theorem d_Mp_take_64 : decode b_Mp_take 64 = .ok (.iconst 4, 1) := by decide +kernel
theorem d_Mp_take_65 : decode b_Mp_take 65 = .ok (.aload_n 0, 1) := by decide +kernel
theorem d_Mp_take_66 : decode b_Mp_take 66 = .ok (.getfield 34, 3) := by decide +kernel
theorem d_Mp_take_69 : decode b_Mp_take 69 = .ok (.imul, 1) := by decide +kernel
theorem d_Mp_take_70 : decode b_Mp_take 70 = .ok (.iadd, 1) := by decide +kernel
theorem d_Mp_take_71 : decode b_Mp_take 71 = .ok (.istore_n 2, 1) := by decide +kernel
theorem d_Mp_take_72 : decode b_Mp_take 72 = .ok (.iconst 0, 1) := by decide +kernel
theorem d_Mp_take_73 : decode b_Mp_take 73 = .ok (.istore_n 3, 1) := by decide +kernel
theorem d_Mp_take_74 : decode b_Mp_take 74 = .ok (.iload_n 3, 1) := by decide +kernel
theorem d_Mp_take_75 : decode b_Mp_take 75 = .ok (.aload_n 0, 1) := by decide +kernel
theorem d_Mp_take_76 : decode b_Mp_take 76 = .ok (.getfield 38, 3) := by decide +kernel
theorem d_Mp_take_79 : decode b_Mp_take 79 = .ok (.if_icmp .ge 41, 3) := by decide +kernel
theorem d_Mp_take_82 : decode b_Mp_take 82 = .ok (.iload_n 3, 1) := by decide +kernel
theorem d_Mp_take_83 : decode b_Mp_take 83 = .ok (.aload_n 0, 1) := by decide +kernel
theorem d_Mp_take_84 : decode b_Mp_take 84 = .ok (.getfield 18, 3) := by decide +kernel
theorem d_Mp_take_87 : decode b_Mp_take 87 = .ok (.arraylength, 1) := by decide +kernel
theorem d_Mp_take_88 : decode b_Mp_take 88 = .ok (.if_icmp .ge 32, 3) := by decide +kernel
theorem d_Mp_take_91 : decode b_Mp_take 91 = .ok (.aload_n 0, 1) := by decide +kernel
theorem d_Mp_take_92 : decode b_Mp_take 92 = .ok (.getfield 18, 3) := by decide +kernel
theorem d_Mp_take_95 : decode b_Mp_take 95 = .ok (.iload_n 3, 1) := by decide +kernel
theorem d_Mp_take_96 : decode b_Mp_take 96 = .ok (.iload_n 2, 1) := by decide +kernel
theorem d_Mp_take_97 : decode b_Mp_take 97 = .ok (.iastore, 1) := by decide +kernel
theorem d_Mp_take_98 : decode b_Mp_take 98 = .ok (.iload_n 2, 1) := by decide +kernel
theorem d_Mp_take_99 : decode b_Mp_take 99 = .ok (.iconst 2, 1) := by decide +kernel
theorem d_Mp_take_100 : decode b_Mp_take 100 = .ok (.aload_n 0, 1) := by decide +kernel
theorem d_Mp_take_101 : decode b_Mp_take 101 = .ok (.iload_n 3, 1) := by decide +kernel
theorem d_Mp_take_102 : decode b_Mp_take 102 = .ok (.invokevirtual 47, 3) := by decide +kernel
theorem d_Mp_take_105 : decode b_Mp_take 105 = .ok (.aload_n 0, 1) := by decide +kernel
theorem d_Mp_take_106 : decode b_Mp_take 106 = .ok (.iload_n 3, 1) := by decide +kernel
theorem d_Mp_take_107 : decode b_Mp_take 107 = .ok (.invokevirtual 50, 3) := by decide +kernel
theorem d_Mp_take_110 : decode b_Mp_take 110 = .ok (.imul, 1) := by decide +kernel
theorem d_Mp_take_111 : decode b_Mp_take 111 = .ok (.iadd, 1) := by decide +kernel
theorem d_Mp_take_112 : decode b_Mp_take 112 = .ok (.iadd, 1) := by decide +kernel
theorem d_Mp_take_113 : decode b_Mp_take 113 = .ok (.istore_n 2, 1) := by decide +kernel
theorem d_Mp_take_114 : decode b_Mp_take 114 = .ok (.iinc 3 1, 3) := by decide +kernel
theorem d_Mp_take_117 : decode b_Mp_take 117 = .ok (.goto (-43), 3) := by decide +kernel
theorem d_Mp_take_120 : decode b_Mp_take 120 = .ok (.aload_n 0, 1) := by decide +kernel
theorem d_Mp_take_121 : decode b_Mp_take 121 = .ok (.iload_n 2, 1) := by decide +kernel
theorem d_Mp_take_122 : decode b_Mp_take 122 = .ok (.putfield 53, 3) := by decide +kernel
theorem d_Mp_take_125 : decode b_Mp_take 125 = .ok (.aload_n 0, 1) := by decide +kernel
theorem d_Mp_take_126 : decode b_Mp_take 126 = .ok (.aload_n 0, 1) := by decide +kernel
theorem d_Mp_take_127 : decode b_Mp_take 127 = .ok (.getfield 53, 3) := by decide +kernel
theorem d_Mp_take_130 : decode b_Mp_take 130 = .ok (.bipush 9, 2) := by decide +kernel
theorem d_Mp_take_132 : decode b_Mp_take 132 = .ok (.aload_n 0, 1) := by decide +kernel
theorem d_Mp_take_133 : decode b_Mp_take 133 = .ok (.getfield 41, 3) := by decide +kernel
theorem d_Mp_take_136 : decode b_Mp_take 136 = .ok (.imul, 1) := by decide +kernel
theorem d_Mp_take_137 : decode b_Mp_take 137 = .ok (.iadd, 1) := by decide +kernel
theorem d_Mp_take_138 : decode b_Mp_take 138 = .ok (.putfield 56, 3) := by decide +kernel
theorem d_Mp_take_141 : decode b_Mp_take 141 = .ok (.aload_n 0, 1) := by decide +kernel
theorem d_Mp_take_142 : decode b_Mp_take 142 = .ok (.aload_n 0, 1) := by decide +kernel
theorem d_Mp_take_143 : decode b_Mp_take 143 = .ok (.getfield 56, 3) := by decide +kernel
theorem d_Mp_take_146 : decode b_Mp_take 146 = .ok (.bipush 14, 2) := by decide +kernel
theorem d_Mp_take_148 : decode b_Mp_take 148 = .ok (.aload_n 0, 1) := by decide +kernel
theorem d_Mp_take_149 : decode b_Mp_take 149 = .ok (.getfield 44, 3) := by decide +kernel
theorem d_Mp_take_152 : decode b_Mp_take 152 = .ok (.imul, 1) := by decide +kernel
theorem d_Mp_take_153 : decode b_Mp_take 153 = .ok (.iadd, 1) := by decide +kernel
theorem d_Mp_take_154 : decode b_Mp_take 154 = .ok (.putfield 59, 3) := by decide +kernel
theorem d_Mp_take_157 : decode b_Mp_take 157 = .ok (.return_, 1) := by decide +kernel
theorem d_Mp_counted_0 : decode b_Mp_counted 0 = .ok (.aload_n 0, 1) := by decide +kernel
theorem d_Mp_counted_1 : decode b_Mp_counted 1 = .ok (.getfield 26, 3) := by decide +kernel
theorem d_Mp_counted_4 : decode b_Mp_counted 4 = .ok (.ifCond .eq 7, 3) := by decide +kernel
theorem d_Mp_counted_7 : decode b_Mp_counted 7 = .ok (.iload_n 1, 1) := by decide +kernel
theorem d_Mp_counted_8 : decode b_Mp_counted 8 = .ok (.goto 4, 3) := by decide +kernel
theorem d_Mp_counted_11 : decode b_Mp_counted 11 = .ok (.iconst (-1), 1) := by decide +kernel
theorem d_Mp_counted_12 : decode b_Mp_counted 12 = .ok (.ireturn, 1) := by decide +kernel
theorem d_Mp_width_0 : decode b_Mp_width 0 = .ok (.iconst 1, 1) := by decide +kernel
theorem d_Mp_width_1 : decode b_Mp_width 1 = .ok (.aload_n 0, 1) := by decide +kernel
theorem d_Mp_width_2 : decode b_Mp_width 2 = .ok (.getfield 12, 3) := by decide +kernel
theorem d_Mp_width_5 : decode b_Mp_width 5 = .ok (.aload_n 0, 1) := by decide +kernel
theorem d_Mp_width_6 : decode b_Mp_width 6 = .ok (.iload_n 1, 1) := by decide +kernel
theorem d_Mp_width_7 : decode b_Mp_width 7 = .ok (.invokevirtual 62, 3) := by decide +kernel
theorem d_Mp_width_10 : decode b_Mp_width 10 = .ok (.invokevirtual 30, 3) := by decide +kernel
theorem d_Mp_width_13 : decode b_Mp_width 13 = .ok (.ishl, 1) := by decide +kernel
theorem d_Mp_width_14 : decode b_Mp_width 14 = .ok (.ireturn, 1) := by decide +kernel
theorem d_Mp_height_0 : decode b_Mp_height 0 = .ok (.iconst 1, 1) := by decide +kernel
theorem d_Mp_height_1 : decode b_Mp_height 1 = .ok (.aload_n 0, 1) := by decide +kernel
theorem d_Mp_height_2 : decode b_Mp_height 2 = .ok (.getfield 12, 3) := by decide +kernel
theorem d_Mp_height_5 : decode b_Mp_height 5 = .ok (.aload_n 0, 1) := by decide +kernel
theorem d_Mp_height_6 : decode b_Mp_height 6 = .ok (.iload_n 1, 1) := by decide +kernel
theorem d_Mp_height_7 : decode b_Mp_height 7 = .ok (.invokevirtual 62, 3) := by decide +kernel
theorem d_Mp_height_10 : decode b_Mp_height 10 = .ok (.iconst 1, 1) := by decide +kernel
theorem d_Mp_height_11 : decode b_Mp_height 11 = .ok (.iadd, 1) := by decide +kernel
theorem d_Mp_height_12 : decode b_Mp_height 12 = .ok (.invokevirtual 30, 3) := by decide +kernel
theorem d_Mp_height_15 : decode b_Mp_height 15 = .ok (.ishl, 1) := by decide +kernel
theorem d_Mp_height_16 : decode b_Mp_height 16 = .ok (.ireturn, 1) := by decide +kernel
theorem d_Mp_texel_0 : decode b_Mp_texel 0 = .ok (.aload_n 0, 1) := by decide +kernel
theorem d_Mp_texel_1 : decode b_Mp_texel 1 = .ok (.iload_n 1, 1) := by decide +kernel
theorem d_Mp_texel_2 : decode b_Mp_texel 2 = .ok (.invokevirtual 47, 3) := by decide +kernel
theorem d_Mp_texel_5 : decode b_Mp_texel 5 = .ok (.istore 4, 2) := by decide +kernel
theorem d_Mp_texel_7 : decode b_Mp_texel 7 = .ok (.iload_n 2, 1) := by decide +kernel
theorem d_Mp_texel_8 : decode b_Mp_texel 8 = .ok (.ifCond .lt 22, 3) := by decide +kernel
theorem d_Mp_texel_11 : decode b_Mp_texel 11 = .ok (.iload_n 2, 1) := by decide +kernel
theorem d_Mp_texel_12 : decode b_Mp_texel 12 = .ok (.aload_n 0, 1) := by decide +kernel
theorem d_Mp_texel_13 : decode b_Mp_texel 13 = .ok (.iload_n 1, 1) := by decide +kernel
theorem d_Mp_texel_14 : decode b_Mp_texel 14 = .ok (.invokevirtual 50, 3) := by decide +kernel
theorem d_Mp_texel_17 : decode b_Mp_texel 17 = .ok (.if_icmp .ge 13, 3) := by decide +kernel
theorem d_Mp_texel_20 : decode b_Mp_texel 20 = .ok (.iload_n 3, 1) := by decide +kernel
theorem d_Mp_texel_21 : decode b_Mp_texel 21 = .ok (.ifCond .lt 9, 3) := by decide +kernel
theorem d_Mp_texel_24 : decode b_Mp_texel 24 = .ok (.iload_n 3, 1) := by decide +kernel
theorem d_Mp_texel_25 : decode b_Mp_texel 25 = .ok (.iload 4, 2) := by decide +kernel
theorem d_Mp_texel_27 : decode b_Mp_texel 27 = .ok (.if_icmp .lt 5, 3) := by decide +kernel
theorem d_Mp_texel_30 : decode b_Mp_texel 30 = .ok (.iconst (-1), 1) := by decide +kernel
theorem d_Mp_texel_31 : decode b_Mp_texel 31 = .ok (.ireturn, 1) := by decide +kernel
theorem d_Mp_texel_32 : decode b_Mp_texel 32 = .ok (.aload_n 0, 1) := by decide +kernel
theorem d_Mp_texel_33 : decode b_Mp_texel 33 = .ok (.getfield 12, 3) := by decide +kernel
theorem d_Mp_texel_36 : decode b_Mp_texel 36 = .ok (.aload_n 0, 1) := by decide +kernel
theorem d_Mp_texel_37 : decode b_Mp_texel 37 = .ok (.iload_n 1, 1) := by decide +kernel
theorem d_Mp_texel_38 : decode b_Mp_texel 38 = .ok (.invokevirtual 62, 3) := by decide +kernel
theorem d_Mp_texel_41 : decode b_Mp_texel 41 = .ok (.iconst 2, 1) := by decide +kernel
theorem d_Mp_texel_42 : decode b_Mp_texel 42 = .ok (.iadd, 1) := by decide +kernel
theorem d_Mp_texel_43 : decode b_Mp_texel 43 = .ok (.iload 4, 2) := by decide +kernel
theorem d_Mp_texel_45 : decode b_Mp_texel 45 = .ok (.iload_n 2, 1) := by decide +kernel
theorem d_Mp_texel_46 : decode b_Mp_texel 46 = .ok (.imul, 1) := by decide +kernel
theorem d_Mp_texel_47 : decode b_Mp_texel 47 = .ok (.iadd, 1) := by decide +kernel
theorem d_Mp_texel_48 : decode b_Mp_texel 48 = .ok (.iload_n 3, 1) := by decide +kernel
theorem d_Mp_texel_49 : decode b_Mp_texel 49 = .ok (.iadd, 1) := by decide +kernel
theorem d_Mp_texel_50 : decode b_Mp_texel 50 = .ok (.invokevirtual 30, 3) := by decide +kernel
theorem d_Mp_texel_53 : decode b_Mp_texel 53 = .ok (.ireturn, 1) := by decide +kernel
theorem d_Mp_textureAt_0 : decode b_Mp_textureAt 0 = .ok (.iload_n 1, 1) := by decide +kernel
theorem d_Mp_textureAt_1 : decode b_Mp_textureAt 1 = .ok (.ifCond .lt 21, 3) := by decide +kernel
theorem d_Mp_textureAt_4 : decode b_Mp_textureAt 4 = .ok (.iload_n 1, 1) := by decide +kernel
theorem d_Mp_textureAt_5 : decode b_Mp_textureAt 5 = .ok (.aload_n 0, 1) := by decide +kernel
theorem d_Mp_textureAt_6 : decode b_Mp_textureAt 6 = .ok (.getfield 18, 3) := by decide +kernel
theorem d_Mp_textureAt_9 : decode b_Mp_textureAt 9 = .ok (.arraylength, 1) := by decide +kernel
theorem d_Mp_textureAt_10 : decode b_Mp_textureAt 10 = .ok (.if_icmp .ge 12, 3) := by decide +kernel
theorem d_Mp_textureAt_13 : decode b_Mp_textureAt 13 = .ok (.aload_n 0, 1) := by decide +kernel
theorem d_Mp_textureAt_14 : decode b_Mp_textureAt 14 = .ok (.getfield 18, 3) := by decide +kernel
theorem d_Mp_textureAt_17 : decode b_Mp_textureAt 17 = .ok (.iload_n 1, 1) := by decide +kernel
theorem d_Mp_textureAt_18 : decode b_Mp_textureAt 18 = .ok (.iaload, 1) := by decide +kernel
theorem d_Mp_textureAt_19 : decode b_Mp_textureAt 19 = .ok (.goto 4, 3) := by decide +kernel
theorem d_Mp_textureAt_22 : decode b_Mp_textureAt 22 = .ok (.iconst 0, 1) := by decide +kernel
theorem d_Mp_textureAt_23 : decode b_Mp_textureAt 23 = .ok (.ireturn, 1) := by decide +kernel
theorem d_Rw_init_0 : decode b_Rw_init 0 = .ok (.aload_n 0, 1) := by decide +kernel
theorem d_Rw_init_1 : decode b_Rw_init 1 = .ok (.invokespecial 3, 3) := by decide +kernel
theorem d_Rw_init_4 : decode b_Rw_init 4 = .ok (.aload_n 0, 1) := by decide +kernel
theorem d_Rw_init_5 : decode b_Rw_init 5 = .ok (.sipush 8192, 3) := by decide +kernel
theorem d_Rw_init_8 : decode b_Rw_init 8 = .ok (.newarray .byte, 2) := by decide +kernel
theorem d_Rw_init_10 : decode b_Rw_init 10 = .ok (.putfield 9, 3) := by decide +kernel
theorem d_Rw_init_13 : decode b_Rw_init 13 = .ok (.return_, 1) := by decide +kernel
theorem d_Rw_free_0 : decode b_Rw_free 0 = .ok (.aload_n 0, 1) := by decide +kernel
theorem d_Rw_free_1 : decode b_Rw_free 1 = .ok (.getfield 9, 3) := by decide +kernel
theorem d_Rw_free_4 : decode b_Rw_free 4 = .ok (.arraylength, 1) := by decide +kernel
theorem d_Rw_free_5 : decode b_Rw_free 5 = .ok (.aload_n 0, 1) := by decide +kernel
theorem d_Rw_free_6 : decode b_Rw_free 6 = .ok (.getfield 15, 3) := by decide +kernel
theorem d_Rw_free_9 : decode b_Rw_free 9 = .ok (.isub, 1) := by decide +kernel
theorem d_Rw_free_10 : decode b_Rw_free 10 = .ok (.ireturn, 1) := by decide +kernel
theorem d_Rw_get_0 : decode b_Rw_get 0 = .ok (.iload_n 1, 1) := by decide +kernel
theorem d_Rw_get_1 : decode b_Rw_get 1 = .ok (.ifCond .lt 24, 3) := by decide +kernel
theorem d_Rw_get_4 : decode b_Rw_get 4 = .ok (.iload_n 1, 1) := by decide +kernel
theorem d_Rw_get_5 : decode b_Rw_get 5 = .ok (.aload_n 0, 1) := by decide +kernel
theorem d_Rw_get_6 : decode b_Rw_get 6 = .ok (.getfield 15, 3) := by decide +kernel
theorem d_Rw_get_9 : decode b_Rw_get 9 = .ok (.if_icmp .ge 16, 3) := by decide +kernel
theorem d_Rw_get_12 : decode b_Rw_get 12 = .ok (.aload_n 0, 1) := by decide +kernel
theorem d_Rw_get_13 : decode b_Rw_get 13 = .ok (.getfield 9, 3) := by decide +kernel
theorem d_Rw_get_16 : decode b_Rw_get 16 = .ok (.iload_n 1, 1) := by decide +kernel
theorem d_Rw_get_17 : decode b_Rw_get 17 = .ok (.baload, 1) := by decide +kernel
theorem d_Rw_get_18 : decode b_Rw_get 18 = .ok (.sipush 255, 3) := by decide +kernel
theorem d_Rw_get_21 : decode b_Rw_get 21 = .ok (.iand, 1) := by decide +kernel
theorem d_Rw_get_22 : decode b_Rw_get 22 = .ok (.goto 4, 3) := by decide +kernel
theorem d_Rw_get_25 : decode b_Rw_get 25 = .ok (.iconst (-1), 1) := by decide +kernel
theorem d_Rw_get_26 : decode b_Rw_get 26 = .ok (.ireturn, 1) := by decide +kernel
theorem d_Rw_put_0 : decode b_Rw_put 0 = .ok (.iload_n 1, 1) := by decide +kernel
theorem d_Rw_put_1 : decode b_Rw_put 1 = .ok (.ifCond .lt 11, 3) := by decide +kernel
theorem d_Rw_put_4 : decode b_Rw_put 4 = .ok (.iload_n 1, 1) := by decide +kernel
theorem d_Rw_put_5 : decode b_Rw_put 5 = .ok (.aload_n 0, 1) := by decide +kernel
theorem d_Rw_put_6 : decode b_Rw_put 6 = .ok (.getfield 15, 3) := by decide +kernel
theorem d_Rw_put_9 : decode b_Rw_put 9 = .ok (.if_icmp .lt 5, 3) := by decide +kernel
theorem d_Rw_put_12 : decode b_Rw_put 12 = .ok (.iconst 0, 1) := by decide +kernel
theorem d_Rw_put_13 : decode b_Rw_put 13 = .ok (.ireturn, 1) := by decide +kernel
theorem d_Rw_put_14 : decode b_Rw_put 14 = .ok (.aload_n 0, 1) := by decide +kernel
theorem d_Rw_put_15 : decode b_Rw_put 15 = .ok (.getfield 9, 3) := by decide +kernel
theorem d_Rw_put_18 : decode b_Rw_put 18 = .ok (.iload_n 1, 1) := by decide +kernel
theorem d_Rw_put_19 : decode b_Rw_put 19 = .ok (.iload_n 2, 1) := by decide +kernel
theorem d_Rw_put_20 : decode b_Rw_put 20 = .ok (.i2b, 1) := by decide +kernel
theorem d_Rw_put_21 : decode b_Rw_put 21 = .ok (.bastore, 1) := by decide +kernel
theorem d_Rw_put_22 : decode b_Rw_put 22 = .ok (.iconst 1, 1) := by decide +kernel
theorem d_Rw_put_23 : decode b_Rw_put 23 = .ok (.ireturn, 1) := by decide +kernel
theorem d_Rw_append_0 : decode b_Rw_append 0 = .ok (.aload_n 0, 1) := by decide +kernel
theorem d_Rw_append_1 : decode b_Rw_append 1 = .ok (.getfield 15, 3) := by decide +kernel
theorem d_Rw_append_4 : decode b_Rw_append 4 = .ok (.aload_n 0, 1) := by decide +kernel
theorem d_Rw_append_5 : decode b_Rw_append 5 = .ok (.getfield 9, 3) := by decide +kernel
theorem d_Rw_append_8 : decode b_Rw_append 8 = .ok (.arraylength, 1) := by decide +kernel
theorem d_Rw_append_9 : decode b_Rw_append 9 = .ok (.if_icmp .ge 24, 3) := by decide +kernel
theorem d_Rw_append_12 : decode b_Rw_append 12 = .ok (.aload_n 0, 1) := by decide +kernel
theorem d_Rw_append_13 : decode b_Rw_append 13 = .ok (.getfield 9, 3) := by decide +kernel
theorem d_Rw_append_16 : decode b_Rw_append 16 = .ok (.aload_n 0, 1) := by decide +kernel
theorem d_Rw_append_17 : decode b_Rw_append 17 = .ok (.getfield 15, 3) := by decide +kernel
theorem d_Rw_append_20 : decode b_Rw_append 20 = .ok (.iload_n 1, 1) := by decide +kernel
theorem d_Rw_append_21 : decode b_Rw_append 21 = .ok (.i2b, 1) := by decide +kernel
theorem d_Rw_append_22 : decode b_Rw_append 22 = .ok (.bastore, 1) := by decide +kernel
theorem d_Rw_append_23 : decode b_Rw_append 23 = .ok (.aload_n 0, 1) := by decide +kernel
theorem d_Rw_append_24 : decode b_Rw_append 24 = .ok (.dup, 1) := by decide +kernel
theorem d_Rw_append_25 : decode b_Rw_append 25 = .ok (.getfield 15, 3) := by decide +kernel
theorem d_Rw_append_28 : decode b_Rw_append 28 = .ok (.iconst 1, 1) := by decide +kernel
theorem d_Rw_append_29 : decode b_Rw_append 29 = .ok (.iadd, 1) := by decide +kernel
theorem d_Rw_append_30 : decode b_Rw_append 30 = .ok (.putfield 15, 3) := by decide +kernel
theorem d_Rw_append_33 : decode b_Rw_append 33 = .ok (.return_, 1) := by decide +kernel
theorem d_Rw_shorten_0 : decode b_Rw_shorten 0 = .ok (.iload_n 1, 1) := by decide +kernel
theorem d_Rw_shorten_1 : decode b_Rw_shorten 1 = .ok (.ifCond .lt 11, 3) := by decide +kernel
theorem d_Rw_shorten_4 : decode b_Rw_shorten 4 = .ok (.iload_n 1, 1) := by decide +kernel
theorem d_Rw_shorten_5 : decode b_Rw_shorten 5 = .ok (.aload_n 0, 1) := by decide +kernel
theorem d_Rw_shorten_6 : decode b_Rw_shorten 6 = .ok (.getfield 15, 3) := by decide +kernel
theorem d_Rw_shorten_9 : decode b_Rw_shorten 9 = .ok (.if_icmp .le 5, 3) := by decide +kernel
theorem d_Rw_shorten_12 : decode b_Rw_shorten 12 = .ok (.iconst 0, 1) := by decide +kernel
theorem d_Rw_shorten_13 : decode b_Rw_shorten 13 = .ok (.ireturn, 1) := by decide +kernel
theorem d_Rw_shorten_14 : decode b_Rw_shorten 14 = .ok (.aload_n 0, 1) := by decide +kernel
theorem d_Rw_shorten_15 : decode b_Rw_shorten 15 = .ok (.iload_n 1, 1) := by decide +kernel
theorem d_Rw_shorten_16 : decode b_Rw_shorten 16 = .ok (.putfield 15, 3) := by decide +kernel
theorem d_Rw_shorten_19 : decode b_Rw_shorten 19 = .ok (.iconst 1, 1) := by decide +kernel
theorem d_Rw_shorten_20 : decode b_Rw_shorten 20 = .ok (.ireturn, 1) := by decide +kernel
theorem d_Rw_copy_0 : decode b_Rw_copy 0 = .ok (.aload_n 1, 1) := by decide +kernel
theorem d_Rw_copy_1 : decode b_Rw_copy 1 = .ok (.getfield 9, 3) := by decide +kernel
theorem d_Rw_copy_4 : decode b_Rw_copy 4 = .ok (.iconst 0, 1) := by decide +kernel
theorem d_Rw_copy_5 : decode b_Rw_copy 5 = .ok (.aload_n 0, 1) := by decide +kernel
theorem d_Rw_copy_6 : decode b_Rw_copy 6 = .ok (.getfield 9, 3) := by decide +kernel
theorem d_Rw_copy_9 : decode b_Rw_copy 9 = .ok (.iconst 0, 1) := by decide +kernel
theorem d_Rw_copy_10 : decode b_Rw_copy 10 = .ok (.aload_n 1, 1) := by decide +kernel
theorem d_Rw_copy_11 : decode b_Rw_copy 11 = .ok (.getfield 15, 3) := by decide +kernel
theorem d_Rw_copy_14 : decode b_Rw_copy 14 = .ok (.invokestatic 19, 3) := by decide +kernel
theorem d_Rw_copy_17 : decode b_Rw_copy 17 = .ok (.aload_n 0, 1) := by decide +kernel
theorem d_Rw_copy_18 : decode b_Rw_copy 18 = .ok (.aload_n 1, 1) := by decide +kernel
theorem d_Rw_copy_19 : decode b_Rw_copy 19 = .ok (.getfield 15, 3) := by decide +kernel
theorem d_Rw_copy_22 : decode b_Rw_copy 22 = .ok (.putfield 15, 3) := by decide +kernel
theorem d_Rw_copy_25 : decode b_Rw_copy 25 = .ok (.return_, 1) := by decide +kernel
theorem d_Rw_signed_0 : decode b_Rw_signed 0 = .ok (.sipush 256, 3) := by decide +kernel
theorem d_Rw_signed_3 : decode b_Rw_signed 3 = .ok (.aload_n 0, 1) := by decide +kernel
theorem d_Rw_signed_4 : decode b_Rw_signed 4 = .ok (.iload_n 1, 1) := by decide +kernel
theorem d_Rw_signed_5 : decode b_Rw_signed 5 = .ok (.invokevirtual 25, 3) := by decide +kernel
theorem d_Rw_signed_8 : decode b_Rw_signed 8 = .ok (.imul, 1) := by decide +kernel
theorem d_Rw_signed_9 : decode b_Rw_signed 9 = .ok (.aload_n 0, 1) := by decide +kernel
theorem d_Rw_signed_10 : decode b_Rw_signed 10 = .ok (.iload_n 1, 1) := by decide +kernel
theorem d_Rw_signed_11 : decode b_Rw_signed 11 = .ok (.iconst 1, 1) := by decide +kernel
theorem d_Rw_signed_12 : decode b_Rw_signed 12 = .ok (.iadd, 1) := by decide +kernel
theorem d_Rw_signed_13 : decode b_Rw_signed 13 = .ok (.invokevirtual 25, 3) := by decide +kernel
theorem d_Rw_signed_16 : decode b_Rw_signed 16 = .ok (.iadd, 1) := by decide +kernel
theorem d_Rw_signed_17 : decode b_Rw_signed 17 = .ok (.istore_n 2, 1) := by decide +kernel
theorem d_Rw_signed_18 : decode b_Rw_signed 18 = .ok (.iload_n 2, 1) := by decide +kernel
theorem d_Rw_signed_19 : decode b_Rw_signed 19 = .ok (.sipush 32767, 3) := by decide +kernel
theorem d_Rw_signed_22 : decode b_Rw_signed 22 = .ok (.if_icmp .le 10, 3) := by decide +kernel
theorem d_Rw_signed_25 : decode b_Rw_signed 25 = .ok (.iload_n 2, 1) := by decide +kernel
theorem d_Rw_signed_26 : decode b_Rw_signed 26 = .ok (.ldc 29, 2) := by decide +kernel
theorem d_Rw_signed_28 : decode b_Rw_signed 28 = .ok (.isub, 1) := by decide +kernel
theorem d_Rw_signed_29 : decode b_Rw_signed 29 = .ok (.goto 4, 3) := by decide +kernel
theorem d_Rw_signed_32 : decode b_Rw_signed 32 = .ok (.iload_n 2, 1) := by decide +kernel
theorem d_Rw_signed_33 : decode b_Rw_signed 33 = .ok (.ireturn, 1) := by decide +kernel
theorem d_Rw_sums_0 : decode b_Rw_sums 0 = .ok (.iconst 0, 1) := by decide +kernel
theorem d_Rw_sums_1 : decode b_Rw_sums 1 = .ok (.istore_n 2, 1) := by decide +kernel
theorem d_Rw_sums_2 : decode b_Rw_sums 2 = .ok (.iconst 0, 1) := by decide +kernel
theorem d_Rw_sums_3 : decode b_Rw_sums 3 = .ok (.istore_n 3, 1) := by decide +kernel
theorem d_Rw_sums_4 : decode b_Rw_sums 4 = .ok (.iconst 0, 1) := by decide +kernel
theorem d_Rw_sums_5 : decode b_Rw_sums 5 = .ok (.istore 4, 2) := by decide +kernel
theorem d_Rw_sums_7 : decode b_Rw_sums 7 = .ok (.iload 4, 2) := by decide +kernel
theorem d_Rw_sums_9 : decode b_Rw_sums 9 = .ok (.iload_n 1, 1) := by decide +kernel
theorem d_Rw_sums_10 : decode b_Rw_sums 10 = .ok (.if_icmp .ge 44, 3) := by decide +kernel
theorem d_Rw_sums_13 : decode b_Rw_sums 13 = .ok (.iload 4, 2) := by decide +kernel
theorem d_Rw_sums_15 : decode b_Rw_sums 15 = .ok (.aload_n 0, 1) := by decide +kernel
theorem d_Rw_sums_16 : decode b_Rw_sums 16 = .ok (.getfield 15, 3) := by decide +kernel
theorem d_Rw_sums_19 : decode b_Rw_sums 19 = .ok (.if_icmp .ge 35, 3) := by decide +kernel
theorem d_Rw_sums_22 : decode b_Rw_sums 22 = .ok (.iload_n 2, 1) := by decide +kernel
theorem d_Rw_sums_23 : decode b_Rw_sums 23 = .ok (.aload_n 0, 1) := by decide +kernel
theorem d_Rw_sums_24 : decode b_Rw_sums 24 = .ok (.getfield 9, 3) := by decide +kernel
theorem d_Rw_sums_27 : decode b_Rw_sums 27 = .ok (.iload 4, 2) := by decide +kernel
theorem d_Rw_sums_29 : decode b_Rw_sums 29 = .ok (.baload, 1) := by decide +kernel
theorem d_Rw_sums_30 : decode b_Rw_sums 30 = .ok (.sipush 255, 3) := by decide +kernel
theorem d_Rw_sums_33 : decode b_Rw_sums 33 = .ok (.iand, 1) := by decide +kernel
theorem d_Rw_sums_34 : decode b_Rw_sums 34 = .ok (.iadd, 1) := by decide +kernel
theorem d_Rw_sums_35 : decode b_Rw_sums 35 = .ok (.sipush 251, 3) := by decide +kernel
theorem d_Rw_sums_38 : decode b_Rw_sums 38 = .ok (.irem, 1) := by decide +kernel
theorem d_Rw_sums_39 : decode b_Rw_sums 39 = .ok (.istore_n 2, 1) := by decide +kernel
theorem d_Rw_sums_40 : decode b_Rw_sums 40 = .ok (.iload_n 3, 1) := by decide +kernel
theorem d_Rw_sums_41 : decode b_Rw_sums 41 = .ok (.iload_n 2, 1) := by decide +kernel
theorem d_Rw_sums_42 : decode b_Rw_sums 42 = .ok (.iadd, 1) := by decide +kernel
theorem d_Rw_sums_43 : decode b_Rw_sums 43 = .ok (.sipush 251, 3) := by decide +kernel
theorem d_Rw_sums_46 : decode b_Rw_sums 46 = .ok (.irem, 1) := by decide +kernel
theorem d_Rw_sums_47 : decode b_Rw_sums 47 = .ok (.istore_n 3, 1) := by decide +kernel
theorem d_Rw_sums_48 : decode b_Rw_sums 48 = .ok (.iinc 4 1, 3) := by decide +kernel
theorem d_Rw_sums_51 : decode b_Rw_sums 51 = .ok (.goto (-44), 3) := by decide +kernel
theorem d_Rw_sums_54 : decode b_Rw_sums 54 = .ok (.sipush 256, 3) := by decide +kernel
theorem d_Rw_sums_57 : decode b_Rw_sums 57 = .ok (.iload_n 2, 1) := by decide +kernel
theorem d_Rw_sums_58 : decode b_Rw_sums 58 = .ok (.imul, 1) := by decide +kernel
theorem d_Rw_sums_59 : decode b_Rw_sums 59 = .ok (.iload_n 3, 1) := by decide +kernel
theorem d_Rw_sums_60 : decode b_Rw_sums 60 = .ok (.iadd, 1) := by decide +kernel
theorem d_Rw_sums_61 : decode b_Rw_sums 61 = .ok (.ireturn, 1) := by decide +kernel
end
section
theorem d_Sp_init_0 : decode b_Sp_init 0 = .ok (.aload_n 0, 1) := by decide +kernel
theorem d_Sp_init_1 : decode b_Sp_init 1 = .ok (.invokespecial 1, 3) := by decide +kernel
theorem d_Sp_init_4 : decode b_Sp_init 4 = .ok (.return_, 1) := by decide +kernel
theorem d_Sp_lay_0 : decode b_Sp_lay 0 = .ok (.aload_n 0, 1) := by decide +kernel
theorem d_Sp_lay_1 : decode b_Sp_lay 1 = .ok (.iload_n 1, 1) := by decide +kernel
theorem d_Sp_lay_2 : decode b_Sp_lay 2 = .ok (.putfield 7, 3) := by decide +kernel
theorem d_Sp_lay_5 : decode b_Sp_lay 5 = .ok (.aload_n 0, 1) := by decide +kernel
theorem d_Sp_lay_6 : decode b_Sp_lay 6 = .ok (.iload_n 2, 1) := by decide +kernel
theorem d_Sp_lay_7 : decode b_Sp_lay 7 = .ok (.putfield 13, 3) := by decide +kernel
theorem d_Sp_lay_10 : decode b_Sp_lay 10 = .ok (.aload_n 0, 1) := by decide +kernel
theorem d_Sp_lay_11 : decode b_Sp_lay 11 = .ok (.iload_n 3, 1) := by decide +kernel
theorem d_Sp_lay_12 : decode b_Sp_lay 12 = .ok (.putfield 16, 3) := by decide +kernel
theorem d_Sp_lay_15 : decode b_Sp_lay 15 = .ok (.aload_n 0, 1) := by decide +kernel
theorem d_Sp_lay_16 : decode b_Sp_lay 16 = .ok (.iload 4, 2) := by decide +kernel
theorem d_Sp_lay_18 : decode b_Sp_lay 18 = .ok (.putfield 19, 3) := by decide +kernel
theorem d_Sp_lay_21 : decode b_Sp_lay 21 = .ok (.aload_n 0, 1) := by decide +kernel
theorem d_Sp_lay_22 : decode b_Sp_lay 22 = .ok (.aload_n 0, 1) := by decide +kernel
theorem d_Sp_lay_23 : decode b_Sp_lay 23 = .ok (.getfield 7, 3) := by decide +kernel
theorem d_Sp_lay_26 : decode b_Sp_lay 26 = .ok (.aload_n 0, 1) := by decide +kernel
theorem d_Sp_lay_27 : decode b_Sp_lay 27 = .ok (.getfield 16, 3) := by decide +kernel
theorem d_Sp_lay_30 : decode b_Sp_lay 30 = .ok (.invokestatic 22, 3) := by decide +kernel
theorem d_Sp_lay_33 : decode b_Sp_lay 33 = .ok (.putfield 28, 3) := by decide +kernel
theorem d_Sp_lay_36 : decode b_Sp_lay 36 = .ok (.aload_n 0, 1) := by decide +kernel
theorem d_Sp_lay_37 : decode b_Sp_lay 37 = .ok (.aload_n 0, 1) := by decide +kernel
theorem d_Sp_lay_38 : decode b_Sp_lay 38 = .ok (.getfield 7, 3) := by decide +kernel
theorem d_Sp_lay_41 : decode b_Sp_lay 41 = .ok (.aload_n 0, 1) := by decide +kernel
theorem d_Sp_lay_42 : decode b_Sp_lay 42 = .ok (.getfield 16, 3) := by decide +kernel
theorem d_Sp_lay_45 : decode b_Sp_lay 45 = .ok (.invokestatic 31, 3) := by decide +kernel
theorem d_Sp_lay_48 : decode b_Sp_lay 48 = .ok (.putfield 34, 3) := by decide +kernel
theorem d_Sp_lay_51 : decode b_Sp_lay 51 = .ok (.aload_n 0, 1) := by decide +kernel
theorem d_Sp_lay_52 : decode b_Sp_lay 52 = .ok (.aload_n 0, 1) := by decide +kernel
theorem d_Sp_lay_53 : decode b_Sp_lay 53 = .ok (.getfield 13, 3) := by decide +kernel
theorem d_Sp_lay_56 : decode b_Sp_lay 56 = .ok (.aload_n 0, 1) := by decide +kernel
theorem d_Sp_lay_57 : decode b_Sp_lay 57 = .ok (.getfield 19, 3) := by decide +kernel
theorem d_Sp_lay_60 : decode b_Sp_lay 60 = .ok (.invokestatic 22, 3) := by decide +kernel
theorem d_Sp_lay_63 : decode b_Sp_lay 63 = .ok (.putfield 37, 3) := by decide +kernel
theorem d_Sp_lay_66 : decode b_Sp_lay 66 = .ok (.aload_n 0, 1) := by decide +kernel
theorem d_Sp_lay_67 : decode b_Sp_lay 67 = .ok (.aload_n 0, 1) := by decide +kernel
theorem d_Sp_lay_68 : decode b_Sp_lay 68 = .ok (.getfield 13, 3) := by decide +kernel
theorem d_Sp_lay_71 : decode b_Sp_lay 71 = .ok (.aload_n 0, 1) := by decide +kernel
theorem d_Sp_lay_72 : decode b_Sp_lay 72 = .ok (.getfield 19, 3) := by decide +kernel
theorem d_Sp_lay_75 : decode b_Sp_lay 75 = .ok (.invokestatic 31, 3) := by decide +kernel
theorem d_Sp_lay_78 : decode b_Sp_lay 78 = .ok (.putfield 40, 3) := by decide +kernel
theorem d_Sp_lay_81 : decode b_Sp_lay 81 = .ok (.return_, 1) := by decide +kernel
theorem d_Sp_meets_0 : decode b_Sp_meets 0 = .ok (.aload_n 0, 1) := by decide +kernel
theorem d_Sp_meets_1 : decode b_Sp_meets 1 = .ok (.aload_n 1, 1) := by decide +kernel
theorem d_Sp_meets_2 : decode b_Sp_meets 2 = .ok (.invokevirtual 43, 3) := by decide +kernel
theorem d_Sp_meets_5 : decode b_Sp_meets 5 = .ok (.ifCond .eq 5, 3) := by decide +kernel
theorem d_Sp_meets_8 : decode b_Sp_meets 8 = .ok (.iconst 0, 1) := by decide +kernel
theorem d_Sp_meets_9 : decode b_Sp_meets 9 = .ok (.ireturn, 1) := by decide +kernel
theorem d_Sp_meets_10 : decode b_Sp_meets 10 = .ok (.aload_n 0, 1) := by decide +kernel
theorem d_Sp_meets_11 : decode b_Sp_meets 11 = .ok (.getfield 7, 3) := by decide +kernel
theorem d_Sp_meets_14 : decode b_Sp_meets 14 = .ok (.aload_n 1, 1) := by decide +kernel
theorem d_Sp_meets_15 : decode b_Sp_meets 15 = .ok (.getfield 7, 3) := by decide +kernel
theorem d_Sp_meets_18 : decode b_Sp_meets 18 = .ok (.if_icmp .ne 42, 3) := by decide +kernel
theorem d_Sp_meets_21 : decode b_Sp_meets 21 = .ok (.aload_n 0, 1) := by decide +kernel
theorem d_Sp_meets_22 : decode b_Sp_meets 22 = .ok (.getfield 13, 3) := by decide +kernel
theorem d_Sp_meets_25 : decode b_Sp_meets 25 = .ok (.aload_n 1, 1) := by decide +kernel
theorem d_Sp_meets_26 : decode b_Sp_meets 26 = .ok (.getfield 13, 3) := by decide +kernel
theorem d_Sp_meets_29 : decode b_Sp_meets 29 = .ok (.if_icmp .ne 31, 3) := by decide +kernel
theorem d_Sp_meets_32 : decode b_Sp_meets 32 = .ok (.aload_n 0, 1) := by decide +kernel
theorem d_Sp_meets_33 : decode b_Sp_meets 33 = .ok (.getfield 7, 3) := by decide +kernel
theorem d_Sp_meets_36 : decode b_Sp_meets 36 = .ok (.aload_n 0, 1) := by decide +kernel
theorem d_Sp_meets_37 : decode b_Sp_meets 37 = .ok (.getfield 13, 3) := by decide +kernel
theorem d_Sp_meets_40 : decode b_Sp_meets 40 = .ok (.aload_n 0, 1) := by decide +kernel
theorem d_Sp_meets_41 : decode b_Sp_meets 41 = .ok (.getfield 16, 3) := by decide +kernel
theorem d_Sp_meets_44 : decode b_Sp_meets 44 = .ok (.aload_n 0, 1) := by decide +kernel
theorem d_Sp_meets_45 : decode b_Sp_meets 45 = .ok (.getfield 19, 3) := by decide +kernel
theorem d_Sp_meets_48 : decode b_Sp_meets 48 = .ok (.aload_n 1, 1) := by decide +kernel
theorem d_Sp_meets_49 : decode b_Sp_meets 49 = .ok (.getfield 16, 3) := by decide +kernel
theorem d_Sp_meets_52 : decode b_Sp_meets 52 = .ok (.aload_n 1, 1) := by decide +kernel
theorem d_Sp_meets_53 : decode b_Sp_meets 53 = .ok (.getfield 19, 3) := by decide +kernel
theorem d_Sp_meets_56 : decode b_Sp_meets 56 = .ok (.invokestatic 47, 3) := by decide +kernel
theorem d_Sp_meets_59 : decode b_Sp_meets 59 = .ok (.ireturn, 1) := by decide +kernel
theorem d_Sp_meets_60 : decode b_Sp_meets 60 = .ok (.aload_n 0, 1) := by decide +kernel
theorem d_Sp_meets_61 : decode b_Sp_meets 61 = .ok (.getfield 7, 3) := by decide +kernel
theorem d_Sp_meets_64 : decode b_Sp_meets 64 = .ok (.aload_n 1, 1) := by decide +kernel
theorem d_Sp_meets_65 : decode b_Sp_meets 65 = .ok (.getfield 16, 3) := by decide +kernel
theorem d_Sp_meets_68 : decode b_Sp_meets 68 = .ok (.if_icmp .ne 42, 3) := by decide +kernel
theorem d_Sp_meets_71 : decode b_Sp_meets 71 = .ok (.aload_n 0, 1) := by decide +kernel
theorem d_Sp_meets_72 : decode b_Sp_meets 72 = .ok (.getfield 13, 3) := by decide +kernel
theorem d_Sp_meets_75 : decode b_Sp_meets 75 = .ok (.aload_n 1, 1) := by decide +kernel
theorem d_Sp_meets_76 : decode b_Sp_meets 76 = .ok (.getfield 19, 3) := by decide +kernel
theorem d_Sp_meets_79 : decode b_Sp_meets 79 = .ok (.if_icmp .ne 31, 3) := by decide +kernel
theorem d_Sp_meets_82 : decode b_Sp_meets 82 = .ok (.aload_n 0, 1) := by decide +kernel
theorem d_Sp_meets_83 : decode b_Sp_meets 83 = .ok (.getfield 7, 3) := by decide +kernel
theorem d_Sp_meets_86 : decode b_Sp_meets 86 = .ok (.aload_n 0, 1) := by decide +kernel
theorem d_Sp_meets_87 : decode b_Sp_meets 87 = .ok (.getfield 13, 3) := by decide +kernel
theorem d_Sp_meets_90 : decode b_Sp_meets 90 = .ok (.aload_n 0, 1) := by decide +kernel
theorem d_Sp_meets_91 : decode b_Sp_meets 91 = .ok (.getfield 16, 3) := by decide +kernel
theorem d_Sp_meets_94 : decode b_Sp_meets 94 = .ok (.aload_n 0, 1) := by decide +kernel
theorem d_Sp_meets_95 : decode b_Sp_meets 95 = .ok (.getfield 19, 3) := by decide +kernel
theorem d_Sp_meets_98 : decode b_Sp_meets 98 = .ok (.aload_n 1, 1) := by decide +kernel
theorem d_Sp_meets_99 : decode b_Sp_meets 99 = .ok (.getfield 7, 3) := by decide +kernel
theorem d_Sp_meets_102 : decode b_Sp_meets 102 = .ok (.aload_n 1, 1) := by decide +kernel
theorem d_Sp_meets_103 : decode b_Sp_meets 103 = .ok (.getfield 13, 3) := by decide +kernel
theorem d_Sp_meets_106 : decode b_Sp_meets 106 = .ok (.invokestatic 47, 3) := by decide +kernel
theorem d_Sp_meets_109 : decode b_Sp_meets 109 = .ok (.ireturn, 1) := by decide +kernel
theorem d_Sp_meets_110 : decode b_Sp_meets 110 = .ok (.aload_n 0, 1) := by decide +kernel
theorem d_Sp_meets_111 : decode b_Sp_meets 111 = .ok (.getfield 16, 3) := by decide +kernel
theorem d_Sp_meets_114 : decode b_Sp_meets 114 = .ok (.aload_n 1, 1) := by decide +kernel
theorem d_Sp_meets_115 : decode b_Sp_meets 115 = .ok (.getfield 7, 3) := by decide +kernel
theorem d_Sp_meets_118 : decode b_Sp_meets 118 = .ok (.if_icmp .ne 42, 3) := by decide +kernel
theorem d_Sp_meets_121 : decode b_Sp_meets 121 = .ok (.aload_n 0, 1) := by decide +kernel
theorem d_Sp_meets_122 : decode b_Sp_meets 122 = .ok (.getfield 19, 3) := by decide +kernel
theorem d_Sp_meets_125 : decode b_Sp_meets 125 = .ok (.aload_n 1, 1) := by decide +kernel
theorem d_Sp_meets_126 : decode b_Sp_meets 126 = .ok (.getfield 13, 3) := by decide +kernel
theorem d_Sp_meets_129 : decode b_Sp_meets 129 = .ok (.if_icmp .ne 31, 3) := by decide +kernel
theorem d_Sp_meets_132 : decode b_Sp_meets 132 = .ok (.aload_n 0, 1) := by decide +kernel
theorem d_Sp_meets_133 : decode b_Sp_meets 133 = .ok (.getfield 16, 3) := by decide +kernel
theorem d_Sp_meets_136 : decode b_Sp_meets 136 = .ok (.aload_n 0, 1) := by decide +kernel
theorem d_Sp_meets_137 : decode b_Sp_meets 137 = .ok (.getfield 19, 3) := by decide +kernel
theorem d_Sp_meets_140 : decode b_Sp_meets 140 = .ok (.aload_n 0, 1) := by decide +kernel
theorem d_Sp_meets_141 : decode b_Sp_meets 141 = .ok (.getfield 7, 3) := by decide +kernel
theorem d_Sp_meets_144 : decode b_Sp_meets 144 = .ok (.aload_n 0, 1) := by decide +kernel
theorem d_Sp_meets_145 : decode b_Sp_meets 145 = .ok (.getfield 13, 3) := by decide +kernel
theorem d_Sp_meets_148 : decode b_Sp_meets 148 = .ok (.aload_n 1, 1) := by decide +kernel
theorem d_Sp_meets_149 : decode b_Sp_meets 149 = .ok (.getfield 16, 3) := by decide +kernel
theorem d_Sp_meets_152 : decode b_Sp_meets 152 = .ok (.aload_n 1, 1) := by decide +kernel
theorem d_Sp_meets_153 : decode b_Sp_meets 153 = .ok (.getfield 19, 3) := by decide +kernel
theorem d_Sp_meets_156 : decode b_Sp_meets 156 = .ok (.invokestatic 47, 3) := by decide +kernel
theorem d_Sp_meets_159 : decode b_Sp_meets 159 = .ok (.ireturn, 1) := by decide +kernel
theorem d_Sp_meets_160 : decode b_Sp_meets 160 = .ok (.aload_n 0, 1) := by decide +kernel
theorem d_Sp_meets_161 : decode b_Sp_meets 161 = .ok (.getfield 16, 3) := by decide +kernel
theorem d_Sp_meets_164 : decode b_Sp_meets 164 = .ok (.aload_n 1, 1) := by decide +kernel
theorem d_Sp_meets_165 : decode b_Sp_meets 165 = .ok (.getfield 16, 3) := by decide +kernel
theorem d_Sp_meets_168 : decode b_Sp_meets 168 = .ok (.if_icmp .ne 42, 3) := by decide +kernel
theorem d_Sp_meets_171 : decode b_Sp_meets 171 = .ok (.aload_n 0, 1) := by decide +kernel
theorem d_Sp_meets_172 : decode b_Sp_meets 172 = .ok (.getfield 19, 3) := by decide +kernel
theorem d_Sp_meets_175 : decode b_Sp_meets 175 = .ok (.aload_n 1, 1) := by decide +kernel
theorem d_Sp_meets_176 : decode b_Sp_meets 176 = .ok (.getfield 19, 3) := by decide +kernel
theorem d_Sp_meets_179 : decode b_Sp_meets 179 = .ok (.if_icmp .ne 31, 3) := by decide +kernel
theorem d_Sp_meets_182 : decode b_Sp_meets 182 = .ok (.aload_n 0, 1) := by decide +kernel
theorem d_Sp_meets_183 : decode b_Sp_meets 183 = .ok (.getfield 16, 3) := by decide +kernel
theorem d_Sp_meets_186 : decode b_Sp_meets 186 = .ok (.aload_n 0, 1) := by decide +kernel
theorem d_Sp_meets_187 : decode b_Sp_meets 187 = .ok (.getfield 19, 3) := by decide +kernel
theorem d_Sp_meets_190 : decode b_Sp_meets 190 = .ok (.aload_n 0, 1) := by decide +kernel
theorem d_Sp_meets_191 : decode b_Sp_meets 191 = .ok (.getfield 7, 3) := by decide +kernel
theorem d_Sp_meets_194 : decode b_Sp_meets 194 = .ok (.aload_n 0, 1) := by decide +kernel
theorem d_Sp_meets_195 : decode b_Sp_meets 195 = .ok (.getfield 13, 3) := by decide +kernel
theorem d_Sp_meets_198 : decode b_Sp_meets 198 = .ok (.aload_n 1, 1) := by decide +kernel
theorem d_Sp_meets_199 : decode b_Sp_meets 199 = .ok (.getfield 7, 3) := by decide +kernel
theorem d_Sp_meets_202 : decode b_Sp_meets 202 = .ok (.aload_n 1, 1) := by decide +kernel
theorem d_Sp_meets_203 : decode b_Sp_meets 203 = .ok (.getfield 13, 3) := by decide +kernel
theorem d_Sp_meets_206 : decode b_Sp_meets 206 = .ok (.invokestatic 47, 3) := by decide +kernel
theorem d_Sp_meets_209 : decode b_Sp_meets 209 = .ok (.ireturn, 1) := by decide +kernel
theorem d_Sp_meets_210 : decode b_Sp_meets 210 = .ok (.aload_n 0, 1) := by decide +kernel
theorem d_Sp_meets_211 : decode b_Sp_meets 211 = .ok (.aload_n 1, 1) := by decide +kernel
theorem d_Sp_meets_212 : decode b_Sp_meets 212 = .ok (.invokevirtual 51, 3) := by decide +kernel
theorem d_Sp_meets_215 : decode b_Sp_meets 215 = .ok (.ifCond .eq 15, 3) := by decide +kernel
theorem d_Sp_meets_218 : decode b_Sp_meets 218 = .ok (.aload_n 1, 1) := by decide +kernel
theorem d_Sp_meets_219 : decode b_Sp_meets 219 = .ok (.aload_n 0, 1) := by decide +kernel
theorem d_Sp_meets_220 : decode b_Sp_meets 220 = .ok (.invokevirtual 51, 3) := by decide +kernel
theorem d_Sp_meets_223 : decode b_Sp_meets 223 = .ok (.ifCond .eq 7, 3) := by decide +kernel
theorem d_Sp_meets_226 : decode b_Sp_meets 226 = .ok (.iconst 1, 1) := by decide +kernel
theorem d_Sp_meets_227 : decode b_Sp_meets 227 = .ok (.goto 4, 3) := by decide +kernel
theorem d_Sp_meets_230 : decode b_Sp_meets 230 = .ok (.iconst 0, 1) := by decide +kernel
theorem d_Sp_meets_231 : decode b_Sp_meets 231 = .ok (.ireturn, 1) := by decide +kernel
theorem d_Sp_boxesApart_0 : decode b_Sp_boxesApart 0 = .ok (.aload_n 0, 1) := by decide +kernel
theorem d_Sp_boxesApart_1 : decode b_Sp_boxesApart 1 = .ok (.getfield 34, 3) := by decide +kernel
theorem d_Sp_boxesApart_4 : decode b_Sp_boxesApart 4 = .ok (.aload_n 1, 1) := by decide +kernel
theorem d_Sp_boxesApart_5 : decode b_Sp_boxesApart 5 = .ok (.getfield 28, 3) := by decide +kernel
theorem d_Sp_boxesApart_8 : decode b_Sp_boxesApart 8 = .ok (.if_icmp .lt 36, 3) := by decide +kernel
theorem d_Sp_boxesApart_11 : decode b_Sp_boxesApart 11 = .ok (.aload_n 1, 1) := by decide +kernel
theorem d_Sp_boxesApart_12 : decode b_Sp_boxesApart 12 = .ok (.getfield 34, 3) := by decide +kernel
theorem d_Sp_boxesApart_15 : decode b_Sp_boxesApart 15 = .ok (.aload_n 0, 1) := by decide +kernel
theorem d_Sp_boxesApart_16 : decode b_Sp_boxesApart 16 = .ok (.getfield 28, 3) := by decide +kernel
theorem d_Sp_boxesApart_19 : decode b_Sp_boxesApart 19 = .ok (.if_icmp .lt 25, 3) := by decide +kernel
theorem d_Sp_boxesApart_22 : decode b_Sp_boxesApart 22 = .ok (.aload_n 0, 1) := by decide +kernel
theorem d_Sp_boxesApart_23 : decode b_Sp_boxesApart 23 = .ok (.getfield 40, 3) := by decide +kernel
theorem d_Sp_boxesApart_26 : decode b_Sp_boxesApart 26 = .ok (.aload_n 1, 1) := by decide +kernel
theorem d_Sp_boxesApart_27 : decode b_Sp_boxesApart 27 = .ok (.getfield 37, 3) := by decide +kernel
theorem d_Sp_boxesApart_30 : decode b_Sp_boxesApart 30 = .ok (.if_icmp .lt 14, 3) := by decide +kernel
theorem d_Sp_boxesApart_33 : decode b_Sp_boxesApart 33 = .ok (.aload_n 1, 1) := by decide +kernel
theorem d_Sp_boxesApart_34 : decode b_Sp_boxesApart 34 = .ok (.getfield 40, 3) := by decide +kernel
theorem d_Sp_boxesApart_37 : decode b_Sp_boxesApart 37 = .ok (.aload_n 0, 1) := by decide +kernel
theorem d_Sp_boxesApart_38 : decode b_Sp_boxesApart 38 = .ok (.getfield 37, 3) := by decide +kernel
theorem d_Sp_boxesApart_41 : decode b_Sp_boxesApart 41 = .ok (.if_icmp .ge 7, 3) := by decide +kernel
theorem d_Sp_boxesApart_44 : decode b_Sp_boxesApart 44 = .ok (.iconst 1, 1) := by decide +kernel
theorem d_Sp_boxesApart_45 : decode b_Sp_boxesApart 45 = .ok (.goto 4, 3) := by decide +kernel
theorem d_Sp_boxesApart_48 : decode b_Sp_boxesApart 48 = .ok (.iconst 0, 1) := by decide +kernel
theorem d_Sp_boxesApart_49 : decode b_Sp_boxesApart 49 = .ok (.ireturn, 1) := by decide +kernel
theorem d_Sp_lineParts_0 : decode b_Sp_lineParts 0 = .ok (.aload_n 0, 1) := by decide +kernel
theorem d_Sp_lineParts_1 : decode b_Sp_lineParts 1 = .ok (.aload_n 1, 1) := by decide +kernel
theorem d_Sp_lineParts_2 : decode b_Sp_lineParts 2 = .ok (.getfield 7, 3) := by decide +kernel
theorem d_Sp_lineParts_5 : decode b_Sp_lineParts 5 = .ok (.aload_n 1, 1) := by decide +kernel
theorem d_Sp_lineParts_6 : decode b_Sp_lineParts 6 = .ok (.getfield 13, 3) := by decide +kernel
theorem d_Sp_lineParts_9 : decode b_Sp_lineParts 9 = .ok (.invokevirtual 54, 3) := by decide +kernel
theorem d_Sp_lineParts_12 : decode b_Sp_lineParts 12 = .ok (.aload_n 0, 1) := by decide +kernel
theorem d_Sp_lineParts_13 : decode b_Sp_lineParts 13 = .ok (.aload_n 1, 1) := by decide +kernel
theorem d_Sp_lineParts_14 : decode b_Sp_lineParts 14 = .ok (.getfield 16, 3) := by decide +kernel
theorem d_Sp_lineParts_17 : decode b_Sp_lineParts 17 = .ok (.aload_n 1, 1) := by decide +kernel
theorem d_Sp_lineParts_18 : decode b_Sp_lineParts 18 = .ok (.getfield 19, 3) := by decide +kernel
theorem d_Sp_lineParts_21 : decode b_Sp_lineParts 21 = .ok (.invokevirtual 54, 3) := by decide +kernel
theorem d_Sp_lineParts_24 : decode b_Sp_lineParts 24 = .ok (.imul, 1) := by decide +kernel
theorem d_Sp_lineParts_25 : decode b_Sp_lineParts 25 = .ok (.ifCond .gt 7, 3) := by decide +kernel
theorem d_Sp_lineParts_28 : decode b_Sp_lineParts 28 = .ok (.iconst 1, 1) := by decide +kernel
theorem d_Sp_lineParts_29 : decode b_Sp_lineParts 29 = .ok (.goto 4, 3) := by decide +kernel
theorem d_Sp_lineParts_32 : decode b_Sp_lineParts 32 = .ok (.iconst 0, 1) := by decide +kernel
theorem d_Sp_lineParts_33 : decode b_Sp_lineParts 33 = .ok (.ireturn, 1) := by decide +kernel
theorem d_Sp_side_0 : decode b_Sp_side 0 = .ok (.aload_n 0, 1) := by decide +kernel
theorem d_Sp_side_1 : decode b_Sp_side 1 = .ok (.getfield 7, 3) := by decide +kernel
theorem d_Sp_side_4 : decode b_Sp_side 4 = .ok (.aload_n 0, 1) := by decide +kernel
theorem d_Sp_side_5 : decode b_Sp_side 5 = .ok (.getfield 13, 3) := by decide +kernel
theorem d_Sp_side_8 : decode b_Sp_side 8 = .ok (.aload_n 0, 1) := by decide +kernel
theorem d_Sp_side_9 : decode b_Sp_side 9 = .ok (.getfield 16, 3) := by decide +kernel
theorem d_Sp_side_12 : decode b_Sp_side 12 = .ok (.aload_n 0, 1) := by decide +kernel
theorem d_Sp_side_13 : decode b_Sp_side 13 = .ok (.getfield 19, 3) := by decide +kernel
theorem d_Sp_side_16 : decode b_Sp_side 16 = .ok (.iload_n 1, 1) := by decide +kernel
theorem d_Sp_side_17 : decode b_Sp_side 17 = .ok (.iload_n 2, 1) := by decide +kernel
theorem d_Sp_side_18 : decode b_Sp_side 18 = .ok (.invokestatic 57, 3) := by decide +kernel
theorem d_Sp_side_21 : decode b_Sp_side 21 = .ok (.invokestatic 61, 3) := by decide +kernel
theorem d_Sp_side_24 : decode b_Sp_side 24 = .ok (.ireturn, 1) := by decide +kernel
theorem d_Sp_sameWay_0 : decode b_Sp_sameWay 0 = .ok (.iload_n 2, 1) := by decide +kernel
theorem d_Sp_sameWay_1 : decode b_Sp_sameWay 1 = .ok (.iload_n 0, 1) := by decide +kernel
theorem d_Sp_sameWay_2 : decode b_Sp_sameWay 2 = .ok (.isub, 1) := by decide +kernel
theorem d_Sp_sameWay_3 : decode b_Sp_sameWay 3 = .ok (.i2l, 1) := by decide +kernel
theorem d_Sp_sameWay_4 : decode b_Sp_sameWay 4 = .ok (.iload 4, 2) := by decide +kernel
theorem d_Sp_sameWay_6 : decode b_Sp_sameWay 6 = .ok (.iload_n 0, 1) := by decide +kernel
theorem d_Sp_sameWay_7 : decode b_Sp_sameWay 7 = .ok (.isub, 1) := by decide +kernel
theorem d_Sp_sameWay_8 : decode b_Sp_sameWay 8 = .ok (.i2l, 1) := by decide +kernel
theorem d_Sp_sameWay_9 : decode b_Sp_sameWay 9 = .ok (.lmul, 1) := by decide +kernel
theorem d_Sp_sameWay_10 : decode b_Sp_sameWay 10 = .ok (.iload_n 3, 1) := by decide +kernel
theorem d_Sp_sameWay_11 : decode b_Sp_sameWay 11 = .ok (.iload_n 1, 1) := by decide +kernel
theorem d_Sp_sameWay_12 : decode b_Sp_sameWay 12 = .ok (.isub, 1) := by decide +kernel
theorem d_Sp_sameWay_13 : decode b_Sp_sameWay 13 = .ok (.i2l, 1) := by decide +kernel
theorem d_Sp_sameWay_14 : decode b_Sp_sameWay 14 = .ok (.iload 5, 2) := by decide +kernel
theorem d_Sp_sameWay_16 : decode b_Sp_sameWay 16 = .ok (.iload_n 1, 1) := by decide +kernel
theorem d_Sp_sameWay_17 : decode b_Sp_sameWay 17 = .ok (.isub, 1) := by decide +kernel
theorem d_Sp_sameWay_18 : decode b_Sp_sameWay 18 = .ok (.i2l, 1) := by decide +kernel
theorem d_Sp_sameWay_19 : decode b_Sp_sameWay 19 = .ok (.lmul, 1) := by decide +kernel
theorem d_Sp_sameWay_20 : decode b_Sp_sameWay 20 = .ok (.ladd, 1) := by decide +kernel
theorem d_Sp_sameWay_21 : decode b_Sp_sameWay 21 = .ok (.lstore 6, 2) := by decide +kernel
theorem d_Sp_sameWay_23 : decode b_Sp_sameWay 23 = .ok (.lload 6, 2) := by decide +kernel
theorem d_Sp_sameWay_25 : decode b_Sp_sameWay 25 = .ok (.lconst 0, 1) := by decide +kernel
theorem d_Sp_sameWay_26 : decode b_Sp_sameWay 26 = .ok (.lcmp, 1) := by decide +kernel
theorem d_Sp_sameWay_27 : decode b_Sp_sameWay 27 = .ok (.ifCond .le 23, 3) := by decide +kernel
theorem d_Sp_sameWay_30 : decode b_Sp_sameWay 30 = .ok (.iload_n 0, 1) := by decide +kernel
theorem d_Sp_sameWay_31 : decode b_Sp_sameWay 31 = .ok (.iload_n 1, 1) := by decide +kernel
theorem d_Sp_sameWay_32 : decode b_Sp_sameWay 32 = .ok (.iload_n 2, 1) := by decide +kernel
theorem d_Sp_sameWay_33 : decode b_Sp_sameWay 33 = .ok (.iload_n 3, 1) := by decide +kernel
theorem d_Sp_sameWay_34 : decode b_Sp_sameWay 34 = .ok (.iload 4, 2) := by decide +kernel
theorem d_Sp_sameWay_36 : decode b_Sp_sameWay 36 = .ok (.iload 5, 2) := by decide +kernel
theorem d_Sp_sameWay_38 : decode b_Sp_sameWay 38 = .ok (.invokestatic 57, 3) := by decide +kernel
theorem d_Sp_sameWay_41 : decode b_Sp_sameWay 41 = .ok (.lconst 0, 1) := by decide +kernel
theorem d_Sp_sameWay_42 : decode b_Sp_sameWay 42 = .ok (.lcmp, 1) := by decide +kernel
theorem d_Sp_sameWay_43 : decode b_Sp_sameWay 43 = .ok (.ifCond .ne 7, 3) := by decide +kernel
theorem d_Sp_sameWay_46 : decode b_Sp_sameWay 46 = .ok (.iconst 1, 1) := by decide +kernel
theorem d_Sp_sameWay_47 : decode b_Sp_sameWay 47 = .ok (.goto 4, 3) := by decide +kernel
theorem d_Sp_sameWay_50 : decode b_Sp_sameWay 50 = .ok (.iconst 0, 1) := by decide +kernel
theorem d_Sp_sameWay_51 : decode b_Sp_sameWay 51 = .ok (.ireturn, 1) := by decide +kernel
theorem d_Sp_turn_0 : decode b_Sp_turn 0 = .ok (.iload_n 2, 1) := by decide +kernel
theorem d_Sp_turn_1 : decode b_Sp_turn 1 = .ok (.iload_n 0, 1) := by decide +kernel
theorem d_Sp_turn_2 : decode b_Sp_turn 2 = .ok (.isub, 1) := by decide +kernel
theorem d_Sp_turn_3 : decode b_Sp_turn 3 = .ok (.i2l, 1) := by decide +kernel
theorem d_Sp_turn_4 : decode b_Sp_turn 4 = .ok (.iload 5, 2) := by decide +kernel
theorem d_Sp_turn_6 : decode b_Sp_turn 6 = .ok (.iload_n 1, 1) := by decide +kernel
theorem d_Sp_turn_7 : decode b_Sp_turn 7 = .ok (.isub, 1) := by decide +kernel
theorem d_Sp_turn_8 : decode b_Sp_turn 8 = .ok (.i2l, 1) := by decide +kernel
theorem d_Sp_turn_9 : decode b_Sp_turn 9 = .ok (.lmul, 1) := by decide +kernel
theorem d_Sp_turn_10 : decode b_Sp_turn 10 = .ok (.iload_n 3, 1) := by decide +kernel
theorem d_Sp_turn_11 : decode b_Sp_turn 11 = .ok (.iload_n 1, 1) := by decide +kernel
theorem d_Sp_turn_12 : decode b_Sp_turn 12 = .ok (.isub, 1) := by decide +kernel
theorem d_Sp_turn_13 : decode b_Sp_turn 13 = .ok (.i2l, 1) := by decide +kernel
theorem d_Sp_turn_14 : decode b_Sp_turn 14 = .ok (.iload 4, 2) := by decide +kernel
theorem d_Sp_turn_16 : decode b_Sp_turn 16 = .ok (.iload_n 0, 1) := by decide +kernel
theorem d_Sp_turn_17 : decode b_Sp_turn 17 = .ok (.isub, 1) := by decide +kernel
theorem d_Sp_turn_18 : decode b_Sp_turn 18 = .ok (.i2l, 1) := by decide +kernel
theorem d_Sp_turn_19 : decode b_Sp_turn 19 = .ok (.lmul, 1) := by decide +kernel
theorem d_Sp_turn_20 : decode b_Sp_turn 20 = .ok (.lsub, 1) := by decide +kernel
theorem d_Sp_turn_21 : decode b_Sp_turn 21 = .ok (.lreturn, 1) := by decide +kernel
theorem d_Lw_law_0 : decode code 0 = .ok (.new 7, 3) := by decide +kernel
theorem d_Lw_law_3 : decode code 3 = .ok (.dup, 1) := by decide +kernel
theorem d_Lw_law_4 : decode code 4 = .ok (.invokespecial 9, 3) := by decide +kernel
theorem d_Lw_law_7 : decode code 7 = .ok (.astore_n 1, 1) := by decide +kernel
theorem d_Lw_law_8 : decode code 8 = .ok (.new 10, 3) := by decide +kernel
theorem d_Lw_law_11 : decode code 11 = .ok (.dup, 1) := by decide +kernel
theorem d_Lw_law_12 : decode code 12 = .ok (.invokespecial 12, 3) := by decide +kernel
theorem d_Lw_law_15 : decode code 15 = .ok (.astore_n 2, 1) := by decide +kernel
theorem d_Lw_law_16 : decode code 16 = .ok (.iconst 0, 1) := by decide +kernel
theorem d_Lw_law_17 : decode code 17 = .ok (.istore_n 3, 1) := by decide +kernel
theorem d_Lw_law_18 : decode code 18 = .ok (.iload_n 3, 1) := by decide +kernel
theorem d_Lw_law_19 : decode code 19 = .ok (.aload_n 0, 1) := by decide +kernel
theorem d_Lw_law_20 : decode code 20 = .ok (.arraylength, 1) := by decide +kernel
theorem d_Lw_law_21 : decode code 21 = .ok (.iconst 4, 1) := by decide +kernel
theorem d_Lw_law_22 : decode code 22 = .ok (.isub, 1) := by decide +kernel
theorem d_Lw_law_23 : decode code 23 = .ok (.if_icmp .gt 484, 3) := by decide +kernel
theorem d_Lw_law_26 : decode code 26 = .ok (.aload_n 0, 1) := by decide +kernel
theorem d_Lw_law_27 : decode code 27 = .ok (.iload_n 3, 1) := by decide +kernel
theorem d_Lw_law_28 : decode code 28 = .ok (.iaload, 1) := by decide +kernel
theorem d_Lw_law_29 : decode code 29 = .ok (.bipush 15, 2) := by decide +kernel
theorem d_Lw_law_31 : decode code 31 = .ok (.iand, 1) := by decide +kernel
theorem d_Lw_law_32 : decode code 32 = .ok (.tableswitch 469 0 12 #[68, 131, 154, 187, 200, 213, 226, 275, 324, 357, 390, 423, 446], 68) := by decide +kernel
theorem d_Lw_law_100 : decode code 100 = .ok (.aload_n 1, 1) := by decide +kernel
theorem d_Lw_law_101 : decode code 101 = .ok (.aload_n 0, 1) := by decide +kernel
theorem d_Lw_law_102 : decode code 102 = .ok (.iload_n 3, 1) := by decide +kernel
theorem d_Lw_law_103 : decode code 103 = .ok (.iconst 1, 1) := by decide +kernel
theorem d_Lw_law_104 : decode code 104 = .ok (.iadd, 1) := by decide +kernel
theorem d_Lw_law_105 : decode code 105 = .ok (.iaload, 1) := by decide +kernel
theorem d_Lw_law_106 : decode code 106 = .ok (.i2l, 1) := by decide +kernel
theorem d_Lw_law_107 : decode code 107 = .ok (.bipush 32, 2) := by decide +kernel
theorem d_Lw_law_109 : decode code 109 = .ok (.lshl, 1) := by decide +kernel
theorem d_Lw_law_110 : decode code 110 = .ok (.aload_n 0, 1) := by decide +kernel
theorem d_Lw_law_111 : decode code 111 = .ok (.iload_n 3, 1) := by decide +kernel
theorem d_Lw_law_112 : decode code 112 = .ok (.iconst 2, 1) := by decide +kernel
theorem d_Lw_law_113 : decode code 113 = .ok (.iadd, 1) := by decide +kernel
theorem d_Lw_law_114 : decode code 114 = .ok (.iaload, 1) := by decide +kernel
theorem d_Lw_law_115 : decode code 115 = .ok (.i2l, 1) := by decide +kernel
theorem d_Lw_law_116 : decode code 116 = .ok (.ldc2_w 13, 3) := by decide +kernel
theorem d_Lw_law_119 : decode code 119 = .ok (.land, 1) := by decide +kernel
theorem d_Lw_law_120 : decode code 120 = .ok (.lor, 1) := by decide +kernel
theorem d_Lw_law_121 : decode code 121 = .ok (.aload_n 0, 1) := by decide +kernel
theorem d_Lw_law_122 : decode code 122 = .ok (.iload_n 3, 1) := by decide +kernel
theorem d_Lw_law_123 : decode code 123 = .ok (.iconst 3, 1) := by decide +kernel
theorem d_Lw_law_124 : decode code 124 = .ok (.iadd, 1) := by decide +kernel
theorem d_Lw_law_125 : decode code 125 = .ok (.iaload, 1) := by decide +kernel
theorem d_Lw_law_126 : decode code 126 = .ok (.invokevirtual 15, 3) := by decide +kernel
theorem d_Lw_law_129 : decode code 129 = .ok (.aload_n 2, 1) := by decide +kernel
theorem d_Lw_law_130 : decode code 130 = .ok (.aload_n 0, 1) := by decide +kernel
theorem d_Lw_law_131 : decode code 131 = .ok (.iload_n 3, 1) := by decide +kernel
theorem d_Lw_law_132 : decode code 132 = .ok (.iconst 1, 1) := by decide +kernel
theorem d_Lw_law_133 : decode code 133 = .ok (.iadd, 1) := by decide +kernel
theorem d_Lw_law_134 : decode code 134 = .ok (.iaload, 1) := by decide +kernel
theorem d_Lw_law_135 : decode code 135 = .ok (.i2l, 1) := by decide +kernel
theorem d_Lw_law_136 : decode code 136 = .ok (.bipush 32, 2) := by decide +kernel
theorem d_Lw_law_138 : decode code 138 = .ok (.lshl, 1) := by decide +kernel
theorem d_Lw_law_139 : decode code 139 = .ok (.aload_n 0, 1) := by decide +kernel
theorem d_Lw_law_140 : decode code 140 = .ok (.iload_n 3, 1) := by decide +kernel
theorem d_Lw_law_141 : decode code 141 = .ok (.iconst 2, 1) := by decide +kernel
theorem d_Lw_law_142 : decode code 142 = .ok (.iadd, 1) := by decide +kernel
theorem d_Lw_law_143 : decode code 143 = .ok (.iaload, 1) := by decide +kernel
theorem d_Lw_law_144 : decode code 144 = .ok (.i2l, 1) := by decide +kernel
theorem d_Lw_law_145 : decode code 145 = .ok (.ldc2_w 13, 3) := by decide +kernel
theorem d_Lw_law_148 : decode code 148 = .ok (.land, 1) := by decide +kernel
theorem d_Lw_law_149 : decode code 149 = .ok (.lor, 1) := by decide +kernel
theorem d_Lw_law_150 : decode code 150 = .ok (.aload_n 0, 1) := by decide +kernel
theorem d_Lw_law_151 : decode code 151 = .ok (.iload_n 3, 1) := by decide +kernel
theorem d_Lw_law_152 : decode code 152 = .ok (.iconst 3, 1) := by decide +kernel
theorem d_Lw_law_153 : decode code 153 = .ok (.iadd, 1) := by decide +kernel
theorem d_Lw_law_154 : decode code 154 = .ok (.iaload, 1) := by decide +kernel
theorem d_Lw_law_155 : decode code 155 = .ok (.invokevirtual 19, 3) := by decide +kernel
theorem d_Lw_law_158 : decode code 158 = .ok (.if_icmp .eq 343, 3) := by decide +kernel
theorem d_Lw_law_161 : decode code 161 = .ok (.iconst 0, 1) := by decide +kernel
theorem d_Lw_law_162 : decode code 162 = .ok (.ireturn, 1) := by decide +kernel
theorem d_Lw_law_163 : decode code 163 = .ok (.aload_n 1, 1) := by decide +kernel
theorem d_Lw_law_164 : decode code 164 = .ok (.aload_n 0, 1) := by decide +kernel
theorem d_Lw_law_165 : decode code 165 = .ok (.iload_n 3, 1) := by decide +kernel
theorem d_Lw_law_166 : decode code 166 = .ok (.iconst 1, 1) := by decide +kernel
theorem d_Lw_law_167 : decode code 167 = .ok (.iadd, 1) := by decide +kernel
theorem d_Lw_law_168 : decode code 168 = .ok (.iaload, 1) := by decide +kernel
theorem d_Lw_law_169 : decode code 169 = .ok (.invokevirtual 20, 3) := by decide +kernel
theorem d_Lw_law_172 : decode code 172 = .ok (.aload_n 2, 1) := by decide +kernel
theorem d_Lw_law_173 : decode code 173 = .ok (.aload_n 0, 1) := by decide +kernel
theorem d_Lw_law_174 : decode code 174 = .ok (.iload_n 3, 1) := by decide +kernel
theorem d_Lw_law_175 : decode code 175 = .ok (.iconst 1, 1) := by decide +kernel
theorem d_Lw_law_176 : decode code 176 = .ok (.iadd, 1) := by decide +kernel
theorem d_Lw_law_177 : decode code 177 = .ok (.iaload, 1) := by decide +kernel
theorem d_Lw_law_178 : decode code 178 = .ok (.invokevirtual 24, 3) := by decide +kernel
theorem d_Lw_law_181 : decode code 181 = .ok (.if_icmp .eq 320, 3) := by decide +kernel
theorem d_Lw_law_184 : decode code 184 = .ok (.iconst 0, 1) := by decide +kernel
theorem d_Lw_law_185 : decode code 185 = .ok (.ireturn, 1) := by decide +kernel
theorem d_Lw_law_186 : decode code 186 = .ok (.aload_n 1, 1) := by decide +kernel
theorem d_Lw_law_187 : decode code 187 = .ok (.aload_n 0, 1) := by decide +kernel
theorem d_Lw_law_188 : decode code 188 = .ok (.iload_n 3, 1) := by decide +kernel
theorem d_Lw_law_189 : decode code 189 = .ok (.iconst 1, 1) := by decide +kernel
theorem d_Lw_law_190 : decode code 190 = .ok (.iadd, 1) := by decide +kernel
theorem d_Lw_law_191 : decode code 191 = .ok (.iaload, 1) := by decide +kernel
theorem d_Lw_law_192 : decode code 192 = .ok (.aload_n 0, 1) := by decide +kernel
theorem d_Lw_law_193 : decode code 193 = .ok (.iload_n 3, 1) := by decide +kernel
theorem d_Lw_law_194 : decode code 194 = .ok (.iconst 2, 1) := by decide +kernel
theorem d_Lw_law_195 : decode code 195 = .ok (.iadd, 1) := by decide +kernel
theorem d_Lw_law_196 : decode code 196 = .ok (.iaload, 1) := by decide +kernel
theorem d_Lw_law_197 : decode code 197 = .ok (.invokevirtual 25, 3) := by decide +kernel
theorem d_Lw_law_200 : decode code 200 = .ok (.aload_n 2, 1) := by decide +kernel
theorem d_Lw_law_201 : decode code 201 = .ok (.aload_n 0, 1) := by decide +kernel
theorem d_Lw_law_202 : decode code 202 = .ok (.iload_n 3, 1) := by decide +kernel
theorem d_Lw_law_203 : decode code 203 = .ok (.iconst 1, 1) := by decide +kernel
theorem d_Lw_law_204 : decode code 204 = .ok (.iadd, 1) := by decide +kernel
theorem d_Lw_law_205 : decode code 205 = .ok (.iaload, 1) := by decide +kernel
theorem d_Lw_law_206 : decode code 206 = .ok (.aload_n 0, 1) := by decide +kernel
theorem d_Lw_law_207 : decode code 207 = .ok (.iload_n 3, 1) := by decide +kernel
theorem d_Lw_law_208 : decode code 208 = .ok (.iconst 2, 1) := by decide +kernel
theorem d_Lw_law_209 : decode code 209 = .ok (.iadd, 1) := by decide +kernel
theorem d_Lw_law_210 : decode code 210 = .ok (.iaload, 1) := by decide +kernel
theorem d_Lw_law_211 : decode code 211 = .ok (.invokevirtual 29, 3) := by decide +kernel
theorem d_Lw_law_214 : decode code 214 = .ok (.if_icmp .eq 287, 3) := by decide +kernel
theorem d_Lw_law_217 : decode code 217 = .ok (.iconst 0, 1) := by decide +kernel
theorem d_Lw_law_218 : decode code 218 = .ok (.ireturn, 1) := by decide +kernel
theorem d_Lw_law_219 : decode code 219 = .ok (.aload_n 1, 1) := by decide +kernel
theorem d_Lw_law_220 : decode code 220 = .ok (.invokevirtual 30, 3) := by decide +kernel
theorem d_Lw_law_223 : decode code 223 = .ok (.aload_n 2, 1) := by decide +kernel
theorem d_Lw_law_224 : decode code 224 = .ok (.invokevirtual 34, 3) := by decide +kernel
theorem d_Lw_law_227 : decode code 227 = .ok (.if_icmp .eq 274, 3) := by decide +kernel
theorem d_Lw_law_230 : decode code 230 = .ok (.iconst 0, 1) := by decide +kernel
theorem d_Lw_law_231 : decode code 231 = .ok (.ireturn, 1) := by decide +kernel
theorem d_Lw_law_232 : decode code 232 = .ok (.aload_n 1, 1) := by decide +kernel
theorem d_Lw_law_233 : decode code 233 = .ok (.invokevirtual 35, 3) := by decide +kernel
theorem d_Lw_law_236 : decode code 236 = .ok (.aload_n 2, 1) := by decide +kernel
theorem d_Lw_law_237 : decode code 237 = .ok (.invokevirtual 38, 3) := by decide +kernel
theorem d_Lw_law_240 : decode code 240 = .ok (.if_icmp .eq 261, 3) := by decide +kernel
theorem d_Lw_law_243 : decode code 243 = .ok (.iconst 0, 1) := by decide +kernel
theorem d_Lw_law_244 : decode code 244 = .ok (.ireturn, 1) := by decide +kernel
theorem d_Lw_law_245 : decode code 245 = .ok (.aload_n 1, 1) := by decide +kernel
theorem d_Lw_law_246 : decode code 246 = .ok (.invokevirtual 39, 3) := by decide +kernel
theorem d_Lw_law_249 : decode code 249 = .ok (.aload_n 2, 1) := by decide +kernel
theorem d_Lw_law_250 : decode code 250 = .ok (.invokevirtual 43, 3) := by decide +kernel
theorem d_Lw_law_253 : decode code 253 = .ok (.if_icmp .eq 248, 3) := by decide +kernel
theorem d_Lw_law_256 : decode code 256 = .ok (.iconst 0, 1) := by decide +kernel
theorem d_Lw_law_257 : decode code 257 = .ok (.ireturn, 1) := by decide +kernel
theorem d_Lw_law_258 : decode code 258 = .ok (.aload_n 1, 1) := by decide +kernel
theorem d_Lw_law_259 : decode code 259 = .ok (.aload_n 0, 1) := by decide +kernel
theorem d_Lw_law_260 : decode code 260 = .ok (.iload_n 3, 1) := by decide +kernel
theorem d_Lw_law_261 : decode code 261 = .ok (.iconst 1, 1) := by decide +kernel
theorem d_Lw_law_262 : decode code 262 = .ok (.iadd, 1) := by decide +kernel
theorem d_Lw_law_263 : decode code 263 = .ok (.iaload, 1) := by decide +kernel
theorem d_Lw_law_264 : decode code 264 = .ok (.aload_n 0, 1) := by decide +kernel
theorem d_Lw_law_265 : decode code 265 = .ok (.iload_n 3, 1) := by decide +kernel
theorem d_Lw_law_266 : decode code 266 = .ok (.iconst 2, 1) := by decide +kernel
theorem d_Lw_law_267 : decode code 267 = .ok (.iadd, 1) := by decide +kernel
theorem d_Lw_law_268 : decode code 268 = .ok (.iaload, 1) := by decide +kernel
theorem d_Lw_law_269 : decode code 269 = .ok (.ifCond .eq 7, 3) := by decide +kernel
theorem d_Lw_law_272 : decode code 272 = .ok (.iconst 1, 1) := by decide +kernel
theorem d_Lw_law_273 : decode code 273 = .ok (.goto 4, 3) := by decide +kernel
theorem d_Lw_law_276 : decode code 276 = .ok (.iconst 0, 1) := by decide +kernel
theorem d_Lw_law_277 : decode code 277 = .ok (.invokevirtual 44, 3) := by decide +kernel
theorem d_Lw_law_280 : decode code 280 = .ok (.aload_n 2, 1) := by decide +kernel
theorem d_Lw_law_281 : decode code 281 = .ok (.aload_n 0, 1) := by decide +kernel
theorem d_Lw_law_282 : decode code 282 = .ok (.iload_n 3, 1) := by decide +kernel
theorem d_Lw_law_283 : decode code 283 = .ok (.iconst 1, 1) := by decide +kernel
theorem d_Lw_law_284 : decode code 284 = .ok (.iadd, 1) := by decide +kernel
theorem d_Lw_law_285 : decode code 285 = .ok (.iaload, 1) := by decide +kernel
theorem d_Lw_law_286 : decode code 286 = .ok (.aload_n 0, 1) := by decide +kernel
theorem d_Lw_law_287 : decode code 287 = .ok (.iload_n 3, 1) := by decide +kernel
theorem d_Lw_law_288 : decode code 288 = .ok (.iconst 2, 1) := by decide +kernel
theorem d_Lw_law_289 : decode code 289 = .ok (.iadd, 1) := by decide +kernel
theorem d_Lw_law_290 : decode code 290 = .ok (.iaload, 1) := by decide +kernel
theorem d_Lw_law_291 : decode code 291 = .ok (.ifCond .eq 7, 3) := by decide +kernel
theorem d_Lw_law_294 : decode code 294 = .ok (.iconst 1, 1) := by decide +kernel
theorem d_Lw_law_295 : decode code 295 = .ok (.goto 4, 3) := by decide +kernel
theorem d_Lw_law_298 : decode code 298 = .ok (.iconst 0, 1) := by decide +kernel
theorem d_Lw_law_299 : decode code 299 = .ok (.invokevirtual 48, 3) := by decide +kernel
theorem d_Lw_law_302 : decode code 302 = .ok (.if_icmp .eq 199, 3) := by decide +kernel
theorem d_Lw_law_305 : decode code 305 = .ok (.iconst 0, 1) := by decide +kernel
theorem d_Lw_law_306 : decode code 306 = .ok (.ireturn, 1) := by decide +kernel
theorem d_Lw_law_307 : decode code 307 = .ok (.aload_n 1, 1) := by decide +kernel
theorem d_Lw_law_308 : decode code 308 = .ok (.aload_n 0, 1) := by decide +kernel
theorem d_Lw_law_309 : decode code 309 = .ok (.iload_n 3, 1) := by decide +kernel
theorem d_Lw_law_310 : decode code 310 = .ok (.iconst 1, 1) := by decide +kernel
theorem d_Lw_law_311 : decode code 311 = .ok (.iadd, 1) := by decide +kernel
theorem d_Lw_law_312 : decode code 312 = .ok (.iaload, 1) := by decide +kernel
theorem d_Lw_law_313 : decode code 313 = .ok (.aload_n 0, 1) := by decide +kernel
theorem d_Lw_law_314 : decode code 314 = .ok (.iload_n 3, 1) := by decide +kernel
theorem d_Lw_law_315 : decode code 315 = .ok (.iconst 2, 1) := by decide +kernel
theorem d_Lw_law_316 : decode code 316 = .ok (.iadd, 1) := by decide +kernel
theorem d_Lw_law_317 : decode code 317 = .ok (.iaload, 1) := by decide +kernel
theorem d_Lw_law_318 : decode code 318 = .ok (.ifCond .eq 7, 3) := by decide +kernel
theorem d_Lw_law_321 : decode code 321 = .ok (.iconst 1, 1) := by decide +kernel
theorem d_Lw_law_322 : decode code 322 = .ok (.goto 4, 3) := by decide +kernel
theorem d_Lw_law_325 : decode code 325 = .ok (.iconst 0, 1) := by decide +kernel
theorem d_Lw_law_326 : decode code 326 = .ok (.invokevirtual 49, 3) := by decide +kernel
theorem d_Lw_law_329 : decode code 329 = .ok (.aload_n 2, 1) := by decide +kernel
theorem d_Lw_law_330 : decode code 330 = .ok (.aload_n 0, 1) := by decide +kernel
theorem d_Lw_law_331 : decode code 331 = .ok (.iload_n 3, 1) := by decide +kernel
theorem d_Lw_law_332 : decode code 332 = .ok (.iconst 1, 1) := by decide +kernel
theorem d_Lw_law_333 : decode code 333 = .ok (.iadd, 1) := by decide +kernel
theorem d_Lw_law_334 : decode code 334 = .ok (.iaload, 1) := by decide +kernel
theorem d_Lw_law_335 : decode code 335 = .ok (.aload_n 0, 1) := by decide +kernel
theorem d_Lw_law_336 : decode code 336 = .ok (.iload_n 3, 1) := by decide +kernel
theorem d_Lw_law_337 : decode code 337 = .ok (.iconst 2, 1) := by decide +kernel
theorem d_Lw_law_338 : decode code 338 = .ok (.iadd, 1) := by decide +kernel
theorem d_Lw_law_339 : decode code 339 = .ok (.iaload, 1) := by decide +kernel
theorem d_Lw_law_340 : decode code 340 = .ok (.ifCond .eq 7, 3) := by decide +kernel
theorem d_Lw_law_343 : decode code 343 = .ok (.iconst 1, 1) := by decide +kernel
theorem d_Lw_law_344 : decode code 344 = .ok (.goto 4, 3) := by decide +kernel
theorem d_Lw_law_347 : decode code 347 = .ok (.iconst 0, 1) := by decide +kernel
theorem d_Lw_law_348 : decode code 348 = .ok (.invokevirtual 52, 3) := by decide +kernel
theorem d_Lw_law_351 : decode code 351 = .ok (.if_icmp .eq 150, 3) := by decide +kernel
theorem d_Lw_law_354 : decode code 354 = .ok (.iconst 0, 1) := by decide +kernel
theorem d_Lw_law_355 : decode code 355 = .ok (.ireturn, 1) := by decide +kernel
theorem d_Lw_law_356 : decode code 356 = .ok (.aload_n 1, 1) := by decide +kernel
theorem d_Lw_law_357 : decode code 357 = .ok (.aload_n 0, 1) := by decide +kernel
theorem d_Lw_law_358 : decode code 358 = .ok (.iload_n 3, 1) := by decide +kernel
theorem d_Lw_law_359 : decode code 359 = .ok (.iconst 1, 1) := by decide +kernel
theorem d_Lw_law_360 : decode code 360 = .ok (.iadd, 1) := by decide +kernel
theorem d_Lw_law_361 : decode code 361 = .ok (.iaload, 1) := by decide +kernel
theorem d_Lw_law_362 : decode code 362 = .ok (.aload_n 0, 1) := by decide +kernel
theorem d_Lw_law_363 : decode code 363 = .ok (.iload_n 3, 1) := by decide +kernel
theorem d_Lw_law_364 : decode code 364 = .ok (.iconst 2, 1) := by decide +kernel
theorem d_Lw_law_365 : decode code 365 = .ok (.iadd, 1) := by decide +kernel
theorem d_Lw_law_366 : decode code 366 = .ok (.iaload, 1) := by decide +kernel
theorem d_Lw_law_367 : decode code 367 = .ok (.invokevirtual 53, 3) := by decide +kernel
theorem d_Lw_law_370 : decode code 370 = .ok (.aload_n 2, 1) := by decide +kernel
theorem d_Lw_law_371 : decode code 371 = .ok (.aload_n 0, 1) := by decide +kernel
theorem d_Lw_law_372 : decode code 372 = .ok (.iload_n 3, 1) := by decide +kernel
theorem d_Lw_law_373 : decode code 373 = .ok (.iconst 1, 1) := by decide +kernel
theorem d_Lw_law_374 : decode code 374 = .ok (.iadd, 1) := by decide +kernel
theorem d_Lw_law_375 : decode code 375 = .ok (.iaload, 1) := by decide +kernel
theorem d_Lw_law_376 : decode code 376 = .ok (.aload_n 0, 1) := by decide +kernel
theorem d_Lw_law_377 : decode code 377 = .ok (.iload_n 3, 1) := by decide +kernel
theorem d_Lw_law_378 : decode code 378 = .ok (.iconst 2, 1) := by decide +kernel
theorem d_Lw_law_379 : decode code 379 = .ok (.iadd, 1) := by decide +kernel
theorem d_Lw_law_380 : decode code 380 = .ok (.iaload, 1) := by decide +kernel
theorem d_Lw_law_381 : decode code 381 = .ok (.invokevirtual 57, 3) := by decide +kernel
theorem d_Lw_law_384 : decode code 384 = .ok (.if_icmp .eq 117, 3) := by decide +kernel
theorem d_Lw_law_387 : decode code 387 = .ok (.iconst 0, 1) := by decide +kernel
theorem d_Lw_law_388 : decode code 388 = .ok (.ireturn, 1) := by decide +kernel
theorem d_Lw_law_389 : decode code 389 = .ok (.aload_n 1, 1) := by decide +kernel
theorem d_Lw_law_390 : decode code 390 = .ok (.aload_n 0, 1) := by decide +kernel
theorem d_Lw_law_391 : decode code 391 = .ok (.iload_n 3, 1) := by decide +kernel
theorem d_Lw_law_392 : decode code 392 = .ok (.iconst 1, 1) := by decide +kernel
theorem d_Lw_law_393 : decode code 393 = .ok (.iadd, 1) := by decide +kernel
theorem d_Lw_law_394 : decode code 394 = .ok (.iaload, 1) := by decide +kernel
theorem d_Lw_law_395 : decode code 395 = .ok (.aload_n 0, 1) := by decide +kernel
theorem d_Lw_law_396 : decode code 396 = .ok (.iload_n 3, 1) := by decide +kernel
theorem d_Lw_law_397 : decode code 397 = .ok (.iconst 2, 1) := by decide +kernel
theorem d_Lw_law_398 : decode code 398 = .ok (.iadd, 1) := by decide +kernel
theorem d_Lw_law_399 : decode code 399 = .ok (.iaload, 1) := by decide +kernel
theorem d_Lw_law_400 : decode code 400 = .ok (.invokevirtual 58, 3) := by decide +kernel
theorem d_Lw_law_403 : decode code 403 = .ok (.aload_n 2, 1) := by decide +kernel
theorem d_Lw_law_404 : decode code 404 = .ok (.aload_n 0, 1) := by decide +kernel
theorem d_Lw_law_405 : decode code 405 = .ok (.iload_n 3, 1) := by decide +kernel
theorem d_Lw_law_406 : decode code 406 = .ok (.iconst 1, 1) := by decide +kernel
theorem d_Lw_law_407 : decode code 407 = .ok (.iadd, 1) := by decide +kernel
theorem d_Lw_law_408 : decode code 408 = .ok (.iaload, 1) := by decide +kernel
theorem d_Lw_law_409 : decode code 409 = .ok (.aload_n 0, 1) := by decide +kernel
theorem d_Lw_law_410 : decode code 410 = .ok (.iload_n 3, 1) := by decide +kernel
theorem d_Lw_law_411 : decode code 411 = .ok (.iconst 2, 1) := by decide +kernel
theorem d_Lw_law_412 : decode code 412 = .ok (.iadd, 1) := by decide +kernel
theorem d_Lw_law_413 : decode code 413 = .ok (.iaload, 1) := by decide +kernel
theorem d_Lw_law_414 : decode code 414 = .ok (.invokevirtual 61, 3) := by decide +kernel
theorem d_Lw_law_417 : decode code 417 = .ok (.if_icmp .eq 84, 3) := by decide +kernel
theorem d_Lw_law_420 : decode code 420 = .ok (.iconst 0, 1) := by decide +kernel
theorem d_Lw_law_421 : decode code 421 = .ok (.ireturn, 1) := by decide +kernel
theorem d_Lw_law_422 : decode code 422 = .ok (.aload_n 1, 1) := by decide +kernel
theorem d_Lw_law_423 : decode code 423 = .ok (.aload_n 0, 1) := by decide +kernel
theorem d_Lw_law_424 : decode code 424 = .ok (.iload_n 3, 1) := by decide +kernel
theorem d_Lw_law_425 : decode code 425 = .ok (.iconst 1, 1) := by decide +kernel
theorem d_Lw_law_426 : decode code 426 = .ok (.iadd, 1) := by decide +kernel
theorem d_Lw_law_427 : decode code 427 = .ok (.iaload, 1) := by decide +kernel
theorem d_Lw_law_428 : decode code 428 = .ok (.aload_n 0, 1) := by decide +kernel
theorem d_Lw_law_429 : decode code 429 = .ok (.iload_n 3, 1) := by decide +kernel
theorem d_Lw_law_430 : decode code 430 = .ok (.iconst 2, 1) := by decide +kernel
theorem d_Lw_law_431 : decode code 431 = .ok (.iadd, 1) := by decide +kernel
theorem d_Lw_law_432 : decode code 432 = .ok (.iaload, 1) := by decide +kernel
theorem d_Lw_law_433 : decode code 433 = .ok (.invokevirtual 62, 3) := by decide +kernel
theorem d_Lw_law_436 : decode code 436 = .ok (.aload_n 2, 1) := by decide +kernel
theorem d_Lw_law_437 : decode code 437 = .ok (.aload_n 0, 1) := by decide +kernel
theorem d_Lw_law_438 : decode code 438 = .ok (.iload_n 3, 1) := by decide +kernel
theorem d_Lw_law_439 : decode code 439 = .ok (.iconst 1, 1) := by decide +kernel
theorem d_Lw_law_440 : decode code 440 = .ok (.iadd, 1) := by decide +kernel
theorem d_Lw_law_441 : decode code 441 = .ok (.iaload, 1) := by decide +kernel
theorem d_Lw_law_442 : decode code 442 = .ok (.aload_n 0, 1) := by decide +kernel
theorem d_Lw_law_443 : decode code 443 = .ok (.iload_n 3, 1) := by decide +kernel
theorem d_Lw_law_444 : decode code 444 = .ok (.iconst 2, 1) := by decide +kernel
theorem d_Lw_law_445 : decode code 445 = .ok (.iadd, 1) := by decide +kernel
theorem d_Lw_law_446 : decode code 446 = .ok (.iaload, 1) := by decide +kernel
theorem d_Lw_law_447 : decode code 447 = .ok (.invokevirtual 65, 3) := by decide +kernel
theorem d_Lw_law_450 : decode code 450 = .ok (.if_icmp .eq 51, 3) := by decide +kernel
theorem d_Lw_law_453 : decode code 453 = .ok (.iconst 0, 1) := by decide +kernel
theorem d_Lw_law_454 : decode code 454 = .ok (.ireturn, 1) := by decide +kernel
theorem d_Lw_law_455 : decode code 455 = .ok (.aload_n 1, 1) := by decide +kernel
theorem d_Lw_law_456 : decode code 456 = .ok (.aload_n 0, 1) := by decide +kernel
theorem d_Lw_law_457 : decode code 457 = .ok (.iload_n 3, 1) := by decide +kernel
theorem d_Lw_law_458 : decode code 458 = .ok (.iconst 1, 1) := by decide +kernel
theorem d_Lw_law_459 : decode code 459 = .ok (.iadd, 1) := by decide +kernel
theorem d_Lw_law_460 : decode code 460 = .ok (.iaload, 1) := by decide +kernel
theorem d_Lw_law_461 : decode code 461 = .ok (.invokevirtual 66, 3) := by decide +kernel
theorem d_Lw_law_464 : decode code 464 = .ok (.aload_n 2, 1) := by decide +kernel
theorem d_Lw_law_465 : decode code 465 = .ok (.aload_n 0, 1) := by decide +kernel
theorem d_Lw_law_466 : decode code 466 = .ok (.iload_n 3, 1) := by decide +kernel
theorem d_Lw_law_467 : decode code 467 = .ok (.iconst 1, 1) := by decide +kernel
theorem d_Lw_law_468 : decode code 468 = .ok (.iadd, 1) := by decide +kernel
theorem d_Lw_law_469 : decode code 469 = .ok (.iaload, 1) := by decide +kernel
theorem d_Lw_law_470 : decode code 470 = .ok (.invokevirtual 70, 3) := by decide +kernel
theorem d_Lw_law_473 : decode code 473 = .ok (.if_icmp .eq 28, 3) := by decide +kernel
theorem d_Lw_law_476 : decode code 476 = .ok (.iconst 0, 1) := by decide +kernel
theorem d_Lw_law_477 : decode code 477 = .ok (.ireturn, 1) := by decide +kernel
theorem d_Lw_law_478 : decode code 478 = .ok (.aload_n 1, 1) := by decide +kernel
theorem d_Lw_law_479 : decode code 479 = .ok (.aload_n 0, 1) := by decide +kernel
theorem d_Lw_law_480 : decode code 480 = .ok (.iload_n 3, 1) := by decide +kernel
theorem d_Lw_law_481 : decode code 481 = .ok (.iconst 1, 1) := by decide +kernel
theorem d_Lw_law_482 : decode code 482 = .ok (.iadd, 1) := by decide +kernel
theorem d_Lw_law_483 : decode code 483 = .ok (.iaload, 1) := by decide +kernel
theorem d_Lw_law_484 : decode code 484 = .ok (.invokevirtual 71, 3) := by decide +kernel
theorem d_Lw_law_487 : decode code 487 = .ok (.aload_n 2, 1) := by decide +kernel
theorem d_Lw_law_488 : decode code 488 = .ok (.aload_n 0, 1) := by decide +kernel
theorem d_Lw_law_489 : decode code 489 = .ok (.iload_n 3, 1) := by decide +kernel
theorem d_Lw_law_490 : decode code 490 = .ok (.iconst 1, 1) := by decide +kernel
theorem d_Lw_law_491 : decode code 491 = .ok (.iadd, 1) := by decide +kernel
theorem d_Lw_law_492 : decode code 492 = .ok (.iaload, 1) := by decide +kernel
theorem d_Lw_law_493 : decode code 493 = .ok (.invokevirtual 74, 3) := by decide +kernel
theorem d_Lw_law_496 : decode code 496 = .ok (.if_icmp .eq 5, 3) := by decide +kernel
theorem d_Lw_law_499 : decode code 499 = .ok (.iconst 0, 1) := by decide +kernel
theorem d_Lw_law_500 : decode code 500 = .ok (.ireturn, 1) := by decide +kernel
theorem d_Lw_law_501 : decode code 501 = .ok (.iinc 3 4, 3) := by decide +kernel
theorem d_Lw_law_504 : decode code 504 = .ok (.goto (-486), 3) := by decide +kernel
theorem d_Lw_law_507 : decode code 507 = .ok (.iconst 1, 1) := by decide +kernel
theorem d_Lw_law_508 : decode code 508 = .ok (.ireturn, 1) := by decide +kernel
theorem d_Jo_init_0 : decode b_Jo_init 0 = .ok (.return_, 1) := by decide +kernel
theorem d_Jl_signum_0 : decode b_Jl_signum 0 = .ok (.lload_n 0, 1) := by decide +kernel
theorem d_Jl_signum_1 : decode b_Jl_signum 1 = .ok (.bipush 63, 2) := by decide +kernel
theorem d_Jl_signum_3 : decode b_Jl_signum 3 = .ok (.lshr, 1) := by decide +kernel
theorem d_Jl_signum_4 : decode b_Jl_signum 4 = .ok (.lload_n 0, 1) := by decide +kernel
theorem d_Jl_signum_5 : decode b_Jl_signum 5 = .ok (.lneg, 1) := by decide +kernel
theorem d_Jl_signum_6 : decode b_Jl_signum 6 = .ok (.bipush 63, 2) := by decide +kernel
theorem d_Jl_signum_8 : decode b_Jl_signum 8 = .ok (.lushr, 1) := by decide +kernel
theorem d_Jl_signum_9 : decode b_Jl_signum 9 = .ok (.lor, 1) := by decide +kernel
theorem d_Jl_signum_10 : decode b_Jl_signum 10 = .ok (.l2i, 1) := by decide +kernel
theorem d_Jl_signum_11 : decode b_Jl_signum 11 = .ok (.ireturn, 1) := by decide +kernel
theorem d_Jm_max_0 : decode b_Jm_max 0 = .ok (.iload_n 0, 1) := by decide +kernel
theorem d_Jm_max_1 : decode b_Jm_max 1 = .ok (.iload_n 1, 1) := by decide +kernel
theorem d_Jm_max_2 : decode b_Jm_max 2 = .ok (.if_icmp .lt 7, 3) := by decide +kernel
theorem d_Jm_max_5 : decode b_Jm_max 5 = .ok (.iload_n 0, 1) := by decide +kernel
theorem d_Jm_max_6 : decode b_Jm_max 6 = .ok (.goto 4, 3) := by decide +kernel
theorem d_Jm_max_9 : decode b_Jm_max 9 = .ok (.iload_n 1, 1) := by decide +kernel
theorem d_Jm_max_10 : decode b_Jm_max 10 = .ok (.ireturn, 1) := by decide +kernel
theorem d_Jm_min_0 : decode b_Jm_min 0 = .ok (.iload_n 0, 1) := by decide +kernel
theorem d_Jm_min_1 : decode b_Jm_min 1 = .ok (.iload_n 1, 1) := by decide +kernel
theorem d_Jm_min_2 : decode b_Jm_min 2 = .ok (.if_icmp .gt 7, 3) := by decide +kernel
theorem d_Jm_min_5 : decode b_Jm_min 5 = .ok (.iload_n 0, 1) := by decide +kernel
theorem d_Jm_min_6 : decode b_Jm_min 6 = .ok (.goto 4, 3) := by decide +kernel
theorem d_Jm_min_9 : decode b_Jm_min 9 = .ok (.iload_n 1, 1) := by decide +kernel
theorem d_Jm_min_10 : decode b_Jm_min 10 = .ok (.ireturn, 1) := by decide +kernel
end
section
/-! OWN KIT: worlds whose cells stay where they are; a call's frame in one row -/
/-- the places 'is' of the world get the cells of w1, one by one -/
def pz_put : List Nat → va_W → va_W → va_W
  | [], _, ws => ws
  | _ :: _, [], ws => ws
  | i :: is, c :: w1, ws => pz_put is w1 (ws.set i c)
theorem pz_putP {D : va_G} {cl : List vw_C} {H1 : Heap} : ∀ (is : List Nat) (w1 ws : va_W), is.length = w1.length → va_P D cl w1 H1 → (∀ (k : Nat) (q : Nat × va_E), ws[k]? = some q → k ∉ is → va_at D cl q H1) → va_P D cl (pz_put is w1 ws) H1
  | [], _, ws, _, _, h => fun k q hk => h k q hk List.not_mem_nil
  | _ :: _, [], _, hn, _, _ => absurd hn (by simp)
  | i :: is, c :: w1, ws, hn, h1, h => by
    refine pz_putP is w1 (ws.set i c) (Nat.succ.inj hn) (fun k q hk => h1 (k + 1) q (by simpa using hk)) ?_
    intro k q hk hnk
    rw [List.getElem?_set] at hk
    by_cases e : i = k
    · rw [if_pos e] at hk
      by_cases e2 : i < ws.length
      · rw [if_pos e2] at hk
        cases hk
        exact h1 0 c rfl
      · rw [if_neg e2] at hk
        cases hk
    · rw [if_neg e] at hk
      refine h k q hk ?_
      intro hm
      rcases List.mem_cons.mp hm with q1 | q1
      · exact e q1.symm
      · exact hnk q1
theorem pz_fst {ws : va_W} {i : Nat} {c : Nat × va_E} (h : (ws[i]?).map Prod.fst = some c.1) (j : Nat) : ((ws.set i c)[j]?).map Prod.fst = (ws[j]?).map Prod.fst := by
  rw [List.getElem?_set]
  by_cases e : i = j
  · subst e
    rw [if_pos rfl]
    by_cases e2 : i < ws.length
    · rw [if_pos e2, h]
      rfl
    · rw [List.getElem?_eq_none (Nat.le_of_not_lt e2)] at h
      cases h
  · rw [if_neg e]
theorem pz_putD {A : Nat → Prop} : ∀ (is : List Nat) (w1 ws : va_W), va_D A ws → is.map (fun i => (ws[i]?).map Prod.fst) = w1.map (fun c => some c.1) → va_D A (pz_put is w1 ws)
  | [], _, ws, hD, _ => hD
  | _ :: _, [], ws, hD, _ => hD
  | i :: is, c :: w1, ws, hD, h => by
    simp only [List.map_cons, List.cons.injEq] at h
    obtain ⟨h0, h1⟩ := h
    refine pz_putD is w1 (ws.set i c) ?_ ?_
    · cases hq : ws[i]? with
      | none => rw [hq] at h0; cases h0
      | some q =>
        rw [hq] at h0
        have e : q = (c.1, q.2) := by
          have := Option.some.inj h0
          rw [← this]
        exact hD.set (a := c.1) (e0 := q.2) (e := c.2) (by rw [hq]; exact congrArg some e)
    · rw [← h1]
      exact List.map_congr_left (fun j _ => pz_fst h0 j)
theorem pz_frame {A0 : Nat → Prop} {D : va_G} {cl : List vw_C} {ws wc w1 : va_W} {H H1 : Heap} (hP : va_P D cl ws H) (hD : va_D A0 ws) (is : List Nat) (hC : is.map (fun i => ws[i]?) = wc.map some) (hw : wc.map Prod.fst = w1.map Prod.fst)
    (hk : ∀ q : Nat, q < H.size → ¬ va_A wc H.size q → H1[q]? = H[q]?) (hP1 : va_P D cl w1 H1) : va_P D cl (pz_put is w1 ws) H1 ∧ va_D A0 (pz_put is w1 ws) := by
  have hl : is.length = w1.length := by
    have h1 := congrArg List.length hC
    have h2 := congrArg List.length hw
    simp only [List.length_map] at h1 h2
    omega
  refine ⟨pz_putP is w1 ws hl hP1 ?_, pz_putD is w1 ws hD ?_⟩
  · intro k q hq hni
    refine (hP k q hq).kept (hk q.1 (hP k q hq).lt ?_)
    intro hA
    rcases hA with ⟨j, e, hj⟩ | hge
    · have h1 : (is.map (fun i => ws[i]?))[j]? = (wc.map some)[j]? := by rw [hC]
      rw [List.getElem?_map, List.getElem?_map, hj] at h1
      cases hi : is[j]? with
      | none => rw [hi] at h1; cases h1
      | some i =>
        rw [hi] at h1
        have h2 : ws[i]? = some (q.1, e) := Option.some.inj h1
        have h3 : k = i := hD.1 k i q (q.1, e) hq h2 rfl
        exact hni (h3 ▸ List.mem_of_getElem? hi)
    · exact absurd (hP k q hq).lt (Nat.not_lt.mpr hge)
  · have h1 : is.map (fun i => (ws[i]?).map Prod.fst) = (is.map (fun i => ws[i]?)).map (fun o => o.map Prod.fst) := by rw [List.map_map]; rfl
    rw [h1, hC, List.map_map]
    have h2 := congrArg (List.map some) hw
    rw [List.map_map, List.map_map] at h2
    exact h2
theorem pz_Psub {D : va_G} {cl : List vw_C} {ws wc : va_W} {H : Heap} (hP : va_P D cl ws H) (is : List Nat) (hC : is.map (fun i => ws[i]?) = wc.map some) : va_P D cl wc H := by
  refine hP.sub is ?_
  have h1 : is.filterMap (fun i => ws[i]?) = (is.map (fun i => ws[i]?)).filterMap id := by rw [List.filterMap_map]; rfl
  rw [h1, hC, List.filterMap_map]
  exact List.filterMap_some

/-- what the tables say of members that another class of the nest uses -/
def nwF : List (String × Nat × String × String × String × String) := [("MapLumps", 69, "MapLumps$Row", "size", "I", "MapLumps"), ("MapLumps$Reader", 121, "MapLumps$Row", "size", "I", "MapLumps"), ("MapLumps", 16, "MapLumps$Reader", "source", "LMapLumps$Row;", "MapLumps"), ("MapLumps", 118, "MapLumps$Reader", "fault", "I", "MapLumps"), ("MapLumps", 121, "MapLumps$Reader", "faultPlace", "I", "MapLumps"), ("MapLumps", 124, "MapLumps$Reader", "faultWall", "I", "MapLumps"), ("MapLumps", 63, "MapLumps$RoomMap", "row", "LMapLumps$Row;", "MapLumps"), ("MapLumps", 59, "MapLumps$RoomMap", "present", "Z", "MapLumps"), ("MapLumps", 80, "MapLumps$RoomMap", "vertices", "I", "MapLumps"), ("MapLumps", 87, "MapLumps$RoomMap", "textures", "I", "MapLumps"), ("MapLumps", 100, "MapLumps$RoomMap", "sectors", "I", "MapLumps"), ("MapLumps", 106, "MapLumps$RoomMap", "walls", "I", "MapLumps"), ("MapLumps", 103, "MapLumps$RoomMap", "sectorsAt", "I", "MapLumps"), ("MapLumps", 109, "MapLumps$RoomMap", "wallsAt", "I", "MapLumps"), ("MapLumps", 112, "MapLumps$RoomMap", "startAt", "I", "MapLumps")]
def nwM : List (String × Nat × MethodName × String) := [("MapLumps$Reader", 11, ⟨"MapLumps$Row", "<init>", "()V"⟩, "MapLumps"), ("MapLumps$Reader", 38, ⟨"MapLumps$Span", "<init>", "()V"⟩, "MapLumps"), ("MapLumps", 25, ⟨"MapLumps$Row", "<init>", "()V"⟩, "MapLumps"), ("MapLumps", 31, ⟨"MapLumps$RoomMap", "<init>", "()V"⟩, "MapLumps"), ("MapLumps$RoomMap", 11, ⟨"MapLumps$Row", "<init>", "()V"⟩, "MapLumps")]
def pzN (U : State) : Prop := (∀ q ∈ nwF, va_Nw (.fieldLinkNest q.1 q.2.1 q.2.2.1 q.2.2.2.1 q.2.2.2.2.1 q.2.2.2.2.2) U) ∧ (∀ q ∈ nwM, va_Nw (.methodLinkNest q.1 q.2.1 q.2.2.1 q.2.2.2) U) ∧ va_AO "MapLumps$Span" U
theorem pzN.warm {s U : State} (hW : s.WarmedH U.vm) (h : pzN s) : pzN U := ⟨fun q hq => va_Nw.warmF hW (h.1 q hq), fun q hq => va_Nw.warmM hW (h.2.1 q hq), va_AO.moved hW.alike h.2.2⟩
theorem pzN.same {u U : State} (hv : u.vm = U.vm) (h : pzN u) : pzN U := ⟨fun q hq => va_Nw.same rfl hv (h.1 q hq), fun q hq => va_Nw.same rfl hv (h.2.1 q hq), va_AO.moved (hv ▸ Vm.Alike.refl u.vm) h.2.2⟩
/-- a method's words: its code, and what stays true -/
abbrev wg (y : MethodName) (cc : ByteArray) (maxL : Nat) (ret : Option FieldType) : List Cond := Cond.code y cc maxL ret :: gw
def pzM (y : MethodName) (cc : ByteArray) (maxL : Nat) (ret : Option FieldType) (n : Nat) : Prop := Cond.instanceMethod y ∈ gw ∧ Cond.selects y.cls y y ∈ gw ∧ Cond.initialized y.cls ∈ gw ∧ Cond.code y cc maxL ret ∈ gw ∧ y.cls ≠ "java/lang/invoke/MethodHandle" ∧ y.cls ≠ "java/lang/invoke/VarHandle" ∧ (parseMethodDescriptor y.desc).map (fun d => d.parameters.length) = some n
def pzS (y : MethodName) (cc : ByteArray) (maxL : Nat) (ret : Option FieldType) (n : Nat) : Prop := Cond.static y ∈ gw ∧ Cond.initialized y.cls ∈ gw ∧ Cond.code y cc maxL ret ∈ gw ∧ y.cls ≠ "java/lang/invoke/MethodHandle" ∧ y.cls ≠ "java/lang/invoke/VarHandle" ∧ (parseMethodDescriptor y.desc).map (fun d => d.parameters.length) = some n
theorem wg_good {y : MethodName} {cc : ByteArray} {maxL : Nat} {ret : Option FieldType} (h : Cond.code y cc maxL ret ∈ gw) : GoodIn gw (wg y cc maxL ret) := fun w hw => (List.mem_cons.mp hw).elim (fun q => q ▸ gw_good _ h) (fun q => gw_good _ q)
/-- the room of a method with d calls open below it at most -/
abbrev rmd (d : Nat) : Room := { frames := d, cells := 0, slots := 0, locals := 40 * d }
theorem pz_cwV {R : Room} {s : State} {args : Array Value} {own : String} {index maxL n d : Nat} {y : MethodName} {bytes : ByteArray} {ret : Option FieldType} (hts : ∀ w ∈ gw, w.before args s = true) (hy : pzM y bytes maxL ret n) (m1 : Cond.methodLink own index y ∈ gw) (hR : d + 1 ≤ R.frames ∧ 8 + (maxL + 11) + 40 * d ≤ R.locals) : CallW R s args own y.cls index y bytes maxL ret (wg y bytes maxL ret) (rmd d) 0 0 n := by
  obtain ⟨h1, h2, h3, h4, h5, h6, h7⟩ := hy
  refine cwV n hts ?_ rfl rfl rfl ⟨rfl, h5, h6, h7⟩ hR
  intro w hw
  rcases List.mem_append.mp hw with q | q
  · simp only [List.mem_cons, List.not_mem_nil, or_false] at q
    rcases q with q | q | q | q <;> subst q
    · exact gw_good _ m1
    · exact gw_good _ h1
    · exact gw_good _ h2
    · exact gw_good _ h3
  · exact wg_good h4 w q
theorem pz_cwS {R : Room} {s : State} {args : Array Value} {own : String} {index maxL n d : Nat} {y : MethodName} {bytes : ByteArray} {ret : Option FieldType} (hts : ∀ w ∈ gw, w.before args s = true) (hy : pzS y bytes maxL ret n) (m1 : Cond.methodLink own index y ∈ gw) (hR : d + 1 ≤ R.frames ∧ 8 + (maxL + 11) + 40 * d ≤ R.locals) : CallB R s args own index y bytes maxL ret (wg y bytes maxL ret) (rmd d) 0 0 n ∧ (Cond.static y).before args s = true := by
  obtain ⟨h1, h3, h4, h5, h6, h7⟩ := hy
  refine va_cwS n hts ?_ rfl rfl rfl ⟨h5, h6, h7⟩ hR
  intro w hw
  rcases List.mem_append.mp hw with q | q
  · simp only [List.mem_cons, List.not_mem_nil, or_false] at q
    rcases q with q | q | q <;> subst q
    · exact gw_good _ m1
    · exact gw_good _ h1
    · exact gw_good _ h3
  · exact wg_good h4 w q
/-- a contract's start: these arguments, these cells, apart, the tables -/
def pzP (D : va_G) (cl : List vw_C) (tys : List (ClassId × FieldType)) (sz : Nat) (av : List Value) (wc : va_W) : Array Value → State → Prop := va_Pc av (fun U => U.heap.size = sz ∧ va_P D cl wc U.heap ∧ va_K D cl tys U ∧ va_D (fun _ => True) wc ∧ pzN U)
theorem pzP_blind {D : va_G} {cl : List vw_C} {tys : List (ClassId × FieldType)} {sz : Nat} {av : List Value} {wc : va_W} : FrameBlind (pzP D cl tys sz av wc) := fun a U g mk q => by
  obtain ⟨q0, q1, qP, qK, qD, qN⟩ := q
  exact ⟨q0, q1, qP, va_K.moved (u := U) (U := U.calling g mk a) (Vm.Alike.refl U.vm) qK, qD, pzN.same (u := U) (U := U.calling g mk a) rfl qN⟩
theorem pzP_at {D : va_G} {cl : List vw_C} {tys : List (ClassId × FieldType)} {av : List Value} {ws wc : va_W} {A : Nat → Prop} {s : State} {H : Heap} (hP : va_P D cl ws H) (hD : va_D A ws) (hK : va_K D cl tys s) (hN : pzN s) (is : List Nat) (hC : is.map (fun i => ws[i]?) = wc.map some) (hn : va_nd is = true) : ∀ U : State, U.heap = H → s.WarmedH U.vm → pzP D cl tys H.size av wc av.toArray U := fun U hU hW =>
  ⟨rfl, by rw [hU], by rw [hU]; exact pz_Psub hP is hC, va_K.moved hW.alike hK, (hD.sub is hn hC).weaken (fun _ _ _ _ => trivial), hN.warm hW⟩
/-- the ends: the answer is F, the cells are w1 (at the same places), nothing else has changed -/
def pzI (D : va_G) (cl : List vw_C) (sz : Nat) (wc : va_W) (F : Int32) (w1 : va_W) : Array Value → State → Outcome → State → Prop := va_Qi (fun (r : Int32) (_ : Unit) => r = F) (fun _ t => va_P D cl w1 t.heap) (va_A wc sz)
def pzL (D : va_G) (cl : List vw_C) (sz : Nat) (wc : va_W) (F : Int64) (w1 : va_W) : Array Value → State → Outcome → State → Prop := va_Ql (fun (r : Int64) (_ : Unit) => r = F) (fun _ t => va_P D cl w1 t.heap) (va_A wc sz)
def pzV (D : va_G) (cl : List vw_C) (sz : Nat) (wc : va_W) (w1 : va_W) : Array Value → State → Outcome → State → Prop := va_Qv (fun (_ : Unit) => True) (fun _ t => va_P D cl w1 t.heap) (va_A wc sz)
/-- the contracts: from the cells wc and the arguments av, at any heap -/
def mI (l : Launch) (y : MethodName) (cc : ByteArray) (maxL : Nat) (ret : Option FieldType) (d : Nat) (D : va_G) (cl : List vw_C) (tys : List (ClassId × FieldType)) (av : List Value) (wc : va_W) (F : Int32) (w1 : va_W) : Prop := ∀ sz : Nat, Met l y (wg y cc maxL ret) (rmd d) (pzP D cl tys sz av wc) (pzI D cl sz wc F w1) 0 0 (va_A wc sz)
def mL (l : Launch) (y : MethodName) (cc : ByteArray) (maxL : Nat) (ret : Option FieldType) (d : Nat) (D : va_G) (cl : List vw_C) (tys : List (ClassId × FieldType)) (av : List Value) (wc : va_W) (F : Int64) (w1 : va_W) : Prop := ∀ sz : Nat, Met l y (wg y cc maxL ret) (rmd d) (pzP D cl tys sz av wc) (pzL D cl sz wc F w1) 0 0 (va_A wc sz)
def mV (l : Launch) (y : MethodName) (cc : ByteArray) (maxL : Nat) (ret : Option FieldType) (d : Nat) (D : va_G) (cl : List vw_C) (tys : List (ClassId × FieldType)) (av : List Value) (wc : va_W) (w1 : va_W) : Prop := ∀ sz : Nat, Met l y (wg y cc maxL ret) (rmd d) (pzP D cl tys sz av wc) (pzV D cl sz wc w1) 0 0 (va_A wc sz)
section PZC
variable {p : Program} {l : Launch} {e : Env} {R : Room} {s : State} {m : MethodId} {args a : Array Value} {below : List Frame} {meth : Method} {c : Code} {H : Heap} {locs : List Loc} {cells slots pc : Nat} {Q : State → Prop} {ls : Array Slot} {st0 rest : List Value} {D : va_G} {cl : List vw_C} {ws wc w1 : va_W} {A : Nat → Prop}
theorem pz_i {F : Int32} (hr : va_Run p l e R s m args below meth c H locs cells slots 0 0 (F0 m pc ls st0) rest (pzI D cl H.size wc F w1 a) (va_A wc H.size)) (hP : va_P D cl ws H) (hD : va_D A ws) (hS : va_S A s.heap H locs) (hA : ∀ q : Nat, s.heap.size ≤ q → A q) (is : List Nat) (hC : is.map (fun i => ws[i]?) = wc.map some) (as : List Nat) (hwa : wc.map Prod.fst = as) (hwb : w1.map Prod.fst = as)
    (kk : ∀ (H1 : Heap) (locs1 : List Loc), va_P D cl (pz_put is w1 ws) H1 → va_D A (pz_put is w1 ws) → va_S A s.heap H1 locs1 → W p l e R s m args below meth c H1 locs1 cells slots Q (F0 m (pc + 3) ls (.int F :: rest))) : W p l e R s m args below meth c H locs cells slots Q (F0 m pc ls st0) := by
  have hFc := va_free (wc := wc) hD hS hA is hC
  refine va_calli hr hS (fun q _ h => hFc q h) hFc (fun r u t H1 locs1 ht hvm hv hB hz1 hk1 hS1 => ?_)
  have hv : r = F := hv
  subst hv
  rw [ht] at hB
  obtain ⟨hP', hD'⟩ := pz_frame hP hD is hC (hwa.trans hwb.symm) hk1 hB
  exact kk H1 locs1 hP' hD' hS1
theorem pz_l {F : Int64} (hr : va_Run p l e R s m args below meth c H locs cells slots 0 0 (F0 m pc ls st0) rest (pzL D cl H.size wc F w1 a) (va_A wc H.size)) (hP : va_P D cl ws H) (hD : va_D A ws) (hS : va_S A s.heap H locs) (hA : ∀ q : Nat, s.heap.size ≤ q → A q) (is : List Nat) (hC : is.map (fun i => ws[i]?) = wc.map some) (as : List Nat) (hwa : wc.map Prod.fst = as) (hwb : w1.map Prod.fst = as)
    (kk : ∀ (H1 : Heap) (locs1 : List Loc), va_P D cl (pz_put is w1 ws) H1 → va_D A (pz_put is w1 ws) → va_S A s.heap H1 locs1 → W p l e R s m args below meth c H1 locs1 cells slots Q (F0 m (pc + 3) ls (.long F :: rest))) : W p l e R s m args below meth c H locs cells slots Q (F0 m pc ls st0) := by
  have hFc := va_free (wc := wc) hD hS hA is hC
  refine va_calll hr hS (fun q _ h => hFc q h) hFc (fun r u t H1 locs1 ht hvm hv hB hz1 hk1 hS1 => ?_)
  have hv : r = F := hv
  subst hv
  rw [ht] at hB
  obtain ⟨hP', hD'⟩ := pz_frame hP hD is hC (hwa.trans hwb.symm) hk1 hB
  exact kk H1 locs1 hP' hD' hS1
theorem pz_v (hr : va_Run p l e R s m args below meth c H locs cells slots 0 0 (F0 m pc ls st0) rest (pzV D cl H.size wc w1 a) (va_A wc H.size)) (hP : va_P D cl ws H) (hD : va_D A ws) (hS : va_S A s.heap H locs) (hA : ∀ q : Nat, s.heap.size ≤ q → A q) (is : List Nat) (hC : is.map (fun i => ws[i]?) = wc.map some) (as : List Nat) (hwa : wc.map Prod.fst = as) (hwb : w1.map Prod.fst = as)
    (kk : ∀ (H1 : Heap) (locs1 : List Loc), va_P D cl (pz_put is w1 ws) H1 → va_D A (pz_put is w1 ws) → va_S A s.heap H1 locs1 → W p l e R s m args below meth c H1 locs1 cells slots Q (F0 m (pc + 3) ls rest)) : W p l e R s m args below meth c H locs cells slots Q (F0 m pc ls st0) := by
  have hFc := va_free (wc := wc) hD hS hA is hC
  refine va_callv hr hS (fun q _ h => hFc q h) hFc (fun u t H1 locs1 ht hvm hv hB hz1 hk1 hS1 => ?_)
  rw [ht] at hB
  obtain ⟨hP', hD'⟩ := pz_frame hP hD is hC (hwa.trans hwb.symm) hk1 hB
  exact kk H1 locs1 hP' hD' hS1
end PZC
section PZR
variable {p : Program} {l : Launch} {e : Env} {R : Room} {s : State} {m : MethodId} {args : Array Value} {below : List Frame} {meth : Method} {c : Code} {H : Heap} {locs : List Loc} {cells slots pc nL index maxL n d : Nat} {ls : Array Slot} {st0 rest As : List Value} {D : va_G} {cl : List vw_C} {tys : List (ClassId × FieldType)} {ws wc : va_W} {A : Nat → Prop} {cc bytes : ByteArray} {y : MethodName} {ret : Option FieldType} {own : String} {b : Nat} {Qc : Array Value → State → Outcome → State → Prop}
theorem pz_rV (X : CallFix p m c cc nL s args gw own) (hN : pzN s) (hM : Met l y (wg y bytes maxL ret) (rmd d) (pzP D cl tys H.size (.ref b :: As) wc) Qc 0 0 (va_A wc H.size)) (hy : pzM y bytes maxL ret n) (m1 : Cond.methodLink own index y ∈ gw) (hR : d + 1 ≤ R.frames ∧ 8 + (maxL + 11) + 40 * d ≤ R.locals) (hK : va_K D cl tys s) (hP : va_P D cl ws H) (hD : va_D A ws) (is : List Nat) (hC : is.map (fun i => ws[i]?) = wc.map some) (hn : va_nd is = true) (q0 : Nat) {ci : Nat} {qc : vw_C} {fs : List Value} (hc : cl[ci]? = some qc) (hq : qc.1 = y.cls) (he : ws[q0]? = some (b, .inr (ci, fs))) (hl : As.length = n) (hz : ls.size = nL) (hst : st0 = As.reverse ++ .ref b :: rest) (hW : (rest.map fun v => v.category).sum ≤ 8) (hdg : decode cc pc = .ok (.invokevirtual index, 3)) (hf : cells ≤ R.cells ∧ slots ≤ R.slots) :
    va_Run p l e R s m args below meth c H locs cells slots 0 0 (F0 m pc ls st0) rest (Qc (Value.ref b :: As).toArray) (va_A wc H.size) :=
  va_runV X hM (pz_cwV X.2.2.2.2 hy m1 hR) ⟨pzP_blind, hq ▸ va_recv hK hP hc he, pzP_at hP hD hK hN is hC hn⟩ rfl hl hz hst (lv_room hW) hdg hf
theorem pz_rS (X : CallFix p m c cc nL s args gw own) (hN : pzN s) (hM : Met l y (wg y bytes maxL ret) (rmd d) (pzP D cl tys H.size As wc) Qc 0 0 (va_A wc H.size)) (hy : pzS y bytes maxL ret n) (m1 : Cond.methodLink own index y ∈ gw) (hR : d + 1 ≤ R.frames ∧ 8 + (maxL + 11) + 40 * d ≤ R.locals) (hK : va_K D cl tys s) (hP : va_P D cl ws H) (hD : va_D A ws) (is : List Nat) (hC : is.map (fun i => ws[i]?) = wc.map some) (hn : va_nd is = true) (hl : As.length = n) (hz : ls.size = nL) (hst : st0 = As.reverse ++ rest) (hW : (rest.map fun v => v.category).sum ≤ 8) (hdg : decode cc pc = .ok (.invokestatic index, 3)) (hf : cells ≤ R.cells ∧ slots ≤ R.slots) :
    va_Run p l e R s m args below meth c H locs cells slots 0 0 (F0 m pc ls st0) rest (Qc As.toArray) (va_A wc H.size) :=
  va_runS X hM (pz_cwS X.2.2.2.2 hy m1 hR) ⟨pzP_blind, pzP_at hP hD hK hN is hC hn⟩ rfl hl hz hst (lv_room hW) hdg hf
end PZR
/-- a call that leaves its cells as they are leaves the world as it is -/
theorem pz_put_same : ∀ (is : List Nat) (wc ws : va_W), is.map (fun i => ws[i]?) = wc.map some → pz_put is wc ws = ws
  | [], _, _, _ => rfl
  | _ :: _, [], _, _ => rfl
  | i :: is, c :: wc, ws, h => by
    simp only [List.map_cons, List.cons.injEq] at h
    have e : ws.set i c = ws := by
      refine List.ext_getElem? (fun j => ?_)
      rw [List.getElem?_set]
      by_cases q : i = j
      · subst q
        rw [if_pos rfl, h.1]
        have hlt : i < ws.length := (List.getElem?_eq_some_iff.mp h.1).1
        rw [if_pos hlt]
      · rw [if_neg q]
    show pz_put is wc (ws.set i c) = ws
    rw [e]
    exact pz_put_same is wc ws h.2
theorem pz_i0 {p : Program} {l : Launch} {e : Env} {R : Room} {s : State} {m : MethodId} {args a : Array Value} {below : List Frame} {meth : Method} {c : Code} {H : Heap} {locs : List Loc} {cells slots pc : Nat} {Q : State → Prop} {ls : Array Slot} {st0 rest : List Value} {D : va_G} {cl : List vw_C} {ws wc : va_W} {A : Nat → Prop} {F : Int32} (hr : va_Run p l e R s m args below meth c H locs cells slots 0 0 (F0 m pc ls st0) rest (pzI D cl H.size wc F wc a) (va_A wc H.size)) (hP : va_P D cl ws H) (hD : va_D A ws) (hS : va_S A s.heap H locs) (hA : ∀ q : Nat, s.heap.size ≤ q → A q) (is : List Nat) (hC : is.map (fun i => ws[i]?) = wc.map some)
    (kk : ∀ (H1 : Heap) (locs1 : List Loc), va_P D cl ws H1 → va_S A s.heap H1 locs1 → W p l e R s m args below meth c H1 locs1 cells slots Q (F0 m (pc + 3) ls (.int F :: rest))) : W p l e R s m args below meth c H locs cells slots Q (F0 m pc ls st0) := by
  refine pz_i hr hP hD hS hA is hC _ rfl rfl (fun H1 locs1 hP1 hD1 hS1 => ?_)
  rw [pz_put_same is wc ws hC] at hP1
  exact kk H1 locs1 hP1 hS1
theorem pz_l0 {p : Program} {l : Launch} {e : Env} {R : Room} {s : State} {m : MethodId} {args a : Array Value} {below : List Frame} {meth : Method} {c : Code} {H : Heap} {locs : List Loc} {cells slots pc : Nat} {Q : State → Prop} {ls : Array Slot} {st0 rest : List Value} {D : va_G} {cl : List vw_C} {ws wc : va_W} {A : Nat → Prop} {F : Int64} (hr : va_Run p l e R s m args below meth c H locs cells slots 0 0 (F0 m pc ls st0) rest (pzL D cl H.size wc F wc a) (va_A wc H.size)) (hP : va_P D cl ws H) (hD : va_D A ws) (hS : va_S A s.heap H locs) (hA : ∀ q : Nat, s.heap.size ≤ q → A q) (is : List Nat) (hC : is.map (fun i => ws[i]?) = wc.map some)
    (kk : ∀ (H1 : Heap) (locs1 : List Loc), va_P D cl ws H1 → va_S A s.heap H1 locs1 → W p l e R s m args below meth c H1 locs1 cells slots Q (F0 m (pc + 3) ls (.long F :: rest))) : W p l e R s m args below meth c H locs cells slots Q (F0 m pc ls st0) := by
  refine pz_l hr hP hD hS hA is hC _ rfl rfl (fun H1 locs1 hP1 hD1 hS1 => ?_)
  rw [pz_put_same is wc ws hC] at hP1
  exact kk H1 locs1 hP1 hS1
theorem pz_openI {l : Launch} {y : MethodName} {d : Nat} {cc : ByteArray} {maxL : Nat} {D : va_G} {cl : List vw_C} {tys : List (ClassId × FieldType)} {av : List Value} {wc w1 : va_W} {F : Int32} (hy : plainName y.cls = true) (hn : (lg_sl av).length ≤ maxL)
    (body : ∀ (p : Program) (e : Env) (s : State) (m : MethodId) (below : List Frame) (meth : Method) (c : Code) (A : Nat → Prop) (ls : Array Slot) (Q : State → Prop), CallFix p m c cc maxL s av.toArray gw y.cls → pzN s → va_K D cl tys s → va_P D cl wc s.heap → va_D A wc → va_S A s.heap s.heap [] → (∀ q : Nat, s.heap.size ≤ q → A q) → lv_has ls maxL (lv_args 0 av) →
      (∀ (H : Heap) (locs : List Loc) (pc : Nat) (ls : Array Slot) (v : Int32) (ws : va_W), decode cc pc = .ok (.ireturn, 1) → va_P D cl ws H → va_S A s.heap H locs → v = F → ws = w1 → W p l e (rmd d) s m av.toArray below meth c H locs 0 0 Q (F0 m pc ls [.int v])) →
      W p l e (rmd d) s m av.toArray below meth c s.heap [] 0 0 Q (F0 m 0 ls [])) : mI l y cc maxL (some .int) d D cl tys av wc F w1 := by
  intro sz
  refine Met.ofW (cc := cc) (maxL := maxL) (ret := some .int) hy rfl ?_
  intro p e s m args below meth c s₁ B hml hv
  obtain ⟨rfl, hsz, hP, hK, hD0, hN⟩ := hv
  subst hsz
  have hD := hD0.self (sz := s.heap.size)
  have hl := lv_entry av (n := maxL) hn
  rw [lg_entry_eq]
  refine body p e s m below meth c (va_A wc s.heap.size) _ _ ⟨B.exec, B.bytes, hml, findClass_of_methodNamed B.named, fun w h => atoms_spec (ws := wg y cc maxL (some .int)) B.pre w (List.mem_cons_of_mem _ h)⟩ hN hK hP hD va_S.rf (fun q h => Or.inr h) hl ?_
  intro H locs pc ls v ws hd hP hS ev ew
  subst ev; subst ew
  exact W.iret (v := v) B.exec B.bytes B.returns (fun t ht hW => ⟨⟨v, (), rfl, rfl, (by show va_P D cl ws t.heap; rw [ht]; exact hP)⟩, hS.F ht⟩) hS.2.2 hd B.notSynchronized
theorem pz_openZ {l : Launch} {y : MethodName} {d : Nat} {cc : ByteArray} {maxL : Nat} {D : va_G} {cl : List vw_C} {tys : List (ClassId × FieldType)} {av : List Value} {wc w1 : va_W} {F : Int32} (hy : plainName y.cls = true) (hn : (lg_sl av).length ≤ maxL)
    (body : ∀ (p : Program) (e : Env) (s : State) (m : MethodId) (below : List Frame) (meth : Method) (c : Code) (A : Nat → Prop) (ls : Array Slot) (Q : State → Prop), CallFix p m c cc maxL s av.toArray gw y.cls → pzN s → va_K D cl tys s → va_P D cl wc s.heap → va_D A wc → va_S A s.heap s.heap [] → (∀ q : Nat, s.heap.size ≤ q → A q) → lv_has ls maxL (lv_args 0 av) →
      (∀ (H : Heap) (locs : List Loc) (pc : Nat) (ls : Array Slot) (v : Int32) (ws : va_W), decode cc pc = .ok (.ireturn, 1) → va_P D cl ws H → va_S A s.heap H locs → v = F → ws = w1 → narrow .boolean (.int v) = .int v → W p l e (rmd d) s m av.toArray below meth c H locs 0 0 Q (F0 m pc ls [.int v])) →
      W p l e (rmd d) s m av.toArray below meth c s.heap [] 0 0 Q (F0 m 0 ls [])) : mI l y cc maxL (some .boolean) d D cl tys av wc F w1 := by
  intro sz
  refine Met.ofW (cc := cc) (maxL := maxL) (ret := some .boolean) hy rfl ?_
  intro p e s m args below meth c s₁ B hml hv
  obtain ⟨rfl, hsz, hP, hK, hD0, hN⟩ := hv
  subst hsz
  have hD := hD0.self (sz := s.heap.size)
  have hl := lv_entry av (n := maxL) hn
  rw [lg_entry_eq]
  refine body p e s m below meth c (va_A wc s.heap.size) _ _ ⟨B.exec, B.bytes, hml, findClass_of_methodNamed B.named, fun w h => atoms_spec (ws := wg y cc maxL (some .boolean)) B.pre w (List.mem_cons_of_mem _ h)⟩ hN hK hP hD va_S.rf (fun q h => Or.inr h) hl ?_
  intro H locs pc ls v ws hd hP hS ev ew hnz
  subst ev; subst ew
  exact W.zret (v := v) B.exec B.bytes B.returns hnz (fun t ht hW => ⟨⟨v, (), rfl, rfl, (by show va_P D cl ws t.heap; rw [ht]; exact hP)⟩, hS.F ht⟩) hS.2.2 hd B.notSynchronized
theorem pz_openL {l : Launch} {y : MethodName} {d : Nat} {cc : ByteArray} {maxL : Nat} {D : va_G} {cl : List vw_C} {tys : List (ClassId × FieldType)} {av : List Value} {wc w1 : va_W} {F : Int64} (hy : plainName y.cls = true) (hn : (lg_sl av).length ≤ maxL)
    (body : ∀ (p : Program) (e : Env) (s : State) (m : MethodId) (below : List Frame) (meth : Method) (c : Code) (A : Nat → Prop) (ls : Array Slot) (Q : State → Prop), CallFix p m c cc maxL s av.toArray gw y.cls → pzN s → va_K D cl tys s → va_P D cl wc s.heap → va_D A wc → va_S A s.heap s.heap [] → (∀ q : Nat, s.heap.size ≤ q → A q) → lv_has ls maxL (lv_args 0 av) →
      (∀ (H : Heap) (locs : List Loc) (pc : Nat) (ls : Array Slot) (v : Int64) (ws : va_W), decode cc pc = .ok (.lreturn, 1) → va_P D cl ws H → va_S A s.heap H locs → v = F → ws = w1 → W p l e (rmd d) s m av.toArray below meth c H locs 0 0 Q (F0 m pc ls [.long v])) →
      W p l e (rmd d) s m av.toArray below meth c s.heap [] 0 0 Q (F0 m 0 ls [])) : mL l y cc maxL (some .long) d D cl tys av wc F w1 := by
  intro sz
  refine Met.ofW (cc := cc) (maxL := maxL) (ret := some .long) hy rfl ?_
  intro p e s m args below meth c s₁ B hml hv
  obtain ⟨rfl, hsz, hP, hK, hD0, hN⟩ := hv
  subst hsz
  have hD := hD0.self (sz := s.heap.size)
  have hl := lv_entry av (n := maxL) hn
  rw [lg_entry_eq]
  refine body p e s m below meth c (va_A wc s.heap.size) _ _ ⟨B.exec, B.bytes, hml, findClass_of_methodNamed B.named, fun w h => atoms_spec (ws := wg y cc maxL (some .long)) B.pre w (List.mem_cons_of_mem _ h)⟩ hN hK hP hD va_S.rf (fun q h => Or.inr h) hl ?_
  intro H locs pc ls v ws hd hP hS ev ew
  subst ev; subst ew
  exact W.lret (v := v) B.exec B.bytes B.returns (fun t ht hW => ⟨⟨v, (), rfl, rfl, (by show va_P D cl ws t.heap; rw [ht]; exact hP)⟩, hS.F ht⟩) hS.2.2 hd B.notSynchronized
theorem pz_openV {l : Launch} {y : MethodName} {d : Nat} {cc : ByteArray} {maxL : Nat} {D : va_G} {cl : List vw_C} {tys : List (ClassId × FieldType)} {av : List Value} {wc w1 : va_W} (hy : plainName y.cls = true) (hn : (lg_sl av).length ≤ maxL)
    (body : ∀ (p : Program) (e : Env) (s : State) (m : MethodId) (below : List Frame) (meth : Method) (c : Code) (A : Nat → Prop) (ls : Array Slot) (Q : State → Prop), CallFix p m c cc maxL s av.toArray gw y.cls → pzN s → va_K D cl tys s → va_P D cl wc s.heap → va_D A wc → va_S A s.heap s.heap [] → (∀ q : Nat, s.heap.size ≤ q → A q) → lv_has ls maxL (lv_args 0 av) →
      (∀ (H : Heap) (locs : List Loc) (pc : Nat) (ls : Array Slot) (ws : va_W), decode cc pc = .ok (.return_, 1) → va_P D cl ws H → va_S A s.heap H locs → ws = w1 → W p l e (rmd d) s m av.toArray below meth c H locs 0 0 Q (F0 m pc ls [])) →
      W p l e (rmd d) s m av.toArray below meth c s.heap [] 0 0 Q (F0 m 0 ls [])) : mV l y cc maxL none d D cl tys av wc w1 := by
  intro sz
  refine Met.ofW (cc := cc) (maxL := maxL) (ret := none) hy rfl ?_
  intro p e s m args below meth c s₁ B hml hv
  obtain ⟨rfl, hsz, hP, hK, hD0, hN⟩ := hv
  subst hsz
  have hD := hD0.self (sz := s.heap.size)
  have hl := lv_entry av (n := maxL) hn
  rw [lg_entry_eq]
  refine body p e s m below meth c (va_A wc s.heap.size) _ _ ⟨B.exec, B.bytes, hml, findClass_of_methodNamed B.named, fun w h => atoms_spec (ws := wg y cc maxL none) B.pre w (List.mem_cons_of_mem _ h)⟩ hN hK hP hD va_S.rf (fun q h => Or.inr h) hl ?_
  intro H locs pc ls ws hd hP hS ew
  subst ew
  exact W.vret B.exec B.bytes B.returns (fun t ht hW => ⟨⟨(), rfl, trivial, (by show va_P D cl ws t.heap; rw [ht]; exact hP)⟩, hS.F ht⟩) hS.2.2 hd B.notSynchronized

theorem nf_32 {A : Array Value} {s : State} (h : pzN s) : (Cond.fieldLinkNest "MapLumps" 69 "MapLumps$Row" "size" "I" "MapLumps").before A s = true := va_Nw.use rfl (h.1 _ (List.mem_of_getElem? (i := 0) rfl))
theorem nf_33 {A : Array Value} {s : State} (h : pzN s) : (Cond.fieldLinkNest "MapLumps$Reader" 121 "MapLumps$Row" "size" "I" "MapLumps").before A s = true := va_Nw.use rfl (h.1 _ (List.mem_of_getElem? (i := 1) rfl))
theorem nf_74 {A : Array Value} {s : State} (h : pzN s) : (Cond.fieldLinkNest "MapLumps" 16 "MapLumps$Reader" "source" "LMapLumps$Row;" "MapLumps").before A s = true := va_Nw.use rfl (h.1 _ (List.mem_of_getElem? (i := 2) rfl))
theorem nf_85 {A : Array Value} {s : State} (h : pzN s) : (Cond.fieldLinkNest "MapLumps" 118 "MapLumps$Reader" "fault" "I" "MapLumps").before A s = true := va_Nw.use rfl (h.1 _ (List.mem_of_getElem? (i := 3) rfl))
theorem nf_87 {A : Array Value} {s : State} (h : pzN s) : (Cond.fieldLinkNest "MapLumps" 121 "MapLumps$Reader" "faultPlace" "I" "MapLumps").before A s = true := va_Nw.use rfl (h.1 _ (List.mem_of_getElem? (i := 4) rfl))
theorem nf_89 {A : Array Value} {s : State} (h : pzN s) : (Cond.fieldLinkNest "MapLumps" 124 "MapLumps$Reader" "faultWall" "I" "MapLumps").before A s = true := va_Nw.use rfl (h.1 _ (List.mem_of_getElem? (i := 5) rfl))
theorem nf_128 {A : Array Value} {s : State} (h : pzN s) : (Cond.fieldLinkNest "MapLumps" 63 "MapLumps$RoomMap" "row" "LMapLumps$Row;" "MapLumps").before A s = true := va_Nw.use rfl (h.1 _ (List.mem_of_getElem? (i := 6) rfl))
theorem nf_131 {A : Array Value} {s : State} (h : pzN s) : (Cond.fieldLinkNest "MapLumps" 59 "MapLumps$RoomMap" "present" "Z" "MapLumps").before A s = true := va_Nw.use rfl (h.1 _ (List.mem_of_getElem? (i := 7) rfl))
theorem nf_133 {A : Array Value} {s : State} (h : pzN s) : (Cond.fieldLinkNest "MapLumps" 80 "MapLumps$RoomMap" "vertices" "I" "MapLumps").before A s = true := va_Nw.use rfl (h.1 _ (List.mem_of_getElem? (i := 8) rfl))
theorem nf_135 {A : Array Value} {s : State} (h : pzN s) : (Cond.fieldLinkNest "MapLumps" 87 "MapLumps$RoomMap" "textures" "I" "MapLumps").before A s = true := va_Nw.use rfl (h.1 _ (List.mem_of_getElem? (i := 9) rfl))
theorem nf_137 {A : Array Value} {s : State} (h : pzN s) : (Cond.fieldLinkNest "MapLumps" 100 "MapLumps$RoomMap" "sectors" "I" "MapLumps").before A s = true := va_Nw.use rfl (h.1 _ (List.mem_of_getElem? (i := 10) rfl))
theorem nf_139 {A : Array Value} {s : State} (h : pzN s) : (Cond.fieldLinkNest "MapLumps" 106 "MapLumps$RoomMap" "walls" "I" "MapLumps").before A s = true := va_Nw.use rfl (h.1 _ (List.mem_of_getElem? (i := 11) rfl))
theorem nf_141 {A : Array Value} {s : State} (h : pzN s) : (Cond.fieldLinkNest "MapLumps" 103 "MapLumps$RoomMap" "sectorsAt" "I" "MapLumps").before A s = true := va_Nw.use rfl (h.1 _ (List.mem_of_getElem? (i := 12) rfl))
theorem nf_143 {A : Array Value} {s : State} (h : pzN s) : (Cond.fieldLinkNest "MapLumps" 109 "MapLumps$RoomMap" "wallsAt" "I" "MapLumps").before A s = true := va_Nw.use rfl (h.1 _ (List.mem_of_getElem? (i := 13) rfl))
theorem nf_145 {A : Array Value} {s : State} (h : pzN s) : (Cond.fieldLinkNest "MapLumps" 112 "MapLumps$RoomMap" "startAt" "I" "MapLumps").before A s = true := va_Nw.use rfl (h.1 _ (List.mem_of_getElem? (i := 14) rfl))
theorem nk_26 {s : State} (h : pzN s) : va_Nw (.methodLinkNest "MapLumps$Reader" 11 ⟨"MapLumps$Row", "<init>", "()V"⟩ "MapLumps") s := h.2.1 _ (List.mem_of_getElem? (i := 0) rfl)
theorem nk_43 {s : State} (h : pzN s) : va_Nw (.methodLinkNest "MapLumps$Reader" 38 ⟨"MapLumps$Span", "<init>", "()V"⟩ "MapLumps") s := h.2.1 _ (List.mem_of_getElem? (i := 1) rfl)
theorem nk_118 {s : State} (h : pzN s) : va_Nw (.methodLinkNest "MapLumps" 25 ⟨"MapLumps$Row", "<init>", "()V"⟩ "MapLumps") s := h.2.1 _ (List.mem_of_getElem? (i := 2) rfl)
theorem nk_121 {s : State} (h : pzN s) : va_Nw (.methodLinkNest "MapLumps" 31 ⟨"MapLumps$RoomMap", "<init>", "()V"⟩ "MapLumps") s := h.2.1 _ (List.mem_of_getElem? (i := 3) rfl)
theorem nk_126 {s : State} (h : pzN s) : va_Nw (.methodLinkNest "MapLumps$RoomMap" 11 ⟨"MapLumps$Row", "<init>", "()V"⟩ "MapLumps") s := h.2.1 _ (List.mem_of_getElem? (i := 4) rfl)
theorem i_Lu : ∀ w ∈ u_ws R_Lu T_Lu 4, w ∈ gw := List.forall_mem_cons.mpr ⟨w_171, List.forall_mem_cons.mpr ⟨w_173, List.forall_mem_cons.mpr ⟨w_175, List.forall_mem_cons.mpr ⟨w_177, fun _ h => absurd h List.not_mem_nil⟩⟩⟩⟩
theorem i_Rd : ∀ w ∈ u_ws R_Rd T_Rd 13, w ∈ gw := List.forall_mem_cons.mpr ⟨w_90, List.forall_mem_cons.mpr ⟨w_92, List.forall_mem_cons.mpr ⟨w_94, List.forall_mem_cons.mpr ⟨w_96, List.forall_mem_cons.mpr ⟨w_98, List.forall_mem_cons.mpr ⟨w_100, List.forall_mem_cons.mpr ⟨w_102, List.forall_mem_cons.mpr ⟨w_104, List.forall_mem_cons.mpr ⟨w_106, List.forall_mem_cons.mpr ⟨w_108, List.forall_mem_cons.mpr ⟨w_110, List.forall_mem_cons.mpr ⟨w_112, List.forall_mem_cons.mpr ⟨w_114, fun _ h => absurd h List.not_mem_nil⟩⟩⟩⟩⟩⟩⟩⟩⟩⟩⟩⟩⟩
theorem i_Mp : ∀ w ∈ u_ws R_Mp T_Mp 10, w ∈ gw := List.forall_mem_cons.mpr ⟨w_146, List.forall_mem_cons.mpr ⟨w_148, List.forall_mem_cons.mpr ⟨w_150, List.forall_mem_cons.mpr ⟨w_152, List.forall_mem_cons.mpr ⟨w_154, List.forall_mem_cons.mpr ⟨w_156, List.forall_mem_cons.mpr ⟨w_158, List.forall_mem_cons.mpr ⟨w_160, List.forall_mem_cons.mpr ⟨w_162, List.forall_mem_cons.mpr ⟨w_164, fun _ h => absurd h List.not_mem_nil⟩⟩⟩⟩⟩⟩⟩⟩⟩⟩
theorem i_Rw : ∀ w ∈ u_ws R_Rw T_Rw 2, w ∈ gw := List.forall_mem_cons.mpr ⟨w_34, List.forall_mem_cons.mpr ⟨w_36, fun _ h => absurd h List.not_mem_nil⟩⟩
theorem i_Sp : ∀ w ∈ u_ws R_Sp T_Sp 8, w ∈ gw := List.forall_mem_cons.mpr ⟨w_55, List.forall_mem_cons.mpr ⟨w_57, List.forall_mem_cons.mpr ⟨w_59, List.forall_mem_cons.mpr ⟨w_61, List.forall_mem_cons.mpr ⟨w_63, List.forall_mem_cons.mpr ⟨w_65, List.forall_mem_cons.mpr ⟨w_67, List.forall_mem_cons.mpr ⟨w_69, fun _ h => absurd h List.not_mem_nil⟩⟩⟩⟩⟩⟩⟩⟩
theorem i_Mo : ∀ w ∈ u_ws R_Mo T_Mo 13, w ∈ gw := List.forall_mem_cons.mpr ⟨w_431, List.forall_mem_cons.mpr ⟨w_433, List.forall_mem_cons.mpr ⟨w_435, List.forall_mem_cons.mpr ⟨w_437, List.forall_mem_cons.mpr ⟨w_439, List.forall_mem_cons.mpr ⟨w_441, List.forall_mem_cons.mpr ⟨w_443, List.forall_mem_cons.mpr ⟨w_445, List.forall_mem_cons.mpr ⟨w_447, List.forall_mem_cons.mpr ⟨w_449, List.forall_mem_cons.mpr ⟨w_451, List.forall_mem_cons.mpr ⟨w_453, List.forall_mem_cons.mpr ⟨w_455, fun _ h => absurd h List.not_mem_nil⟩⟩⟩⟩⟩⟩⟩⟩⟩⟩⟩⟩⟩
end
section
theorem k_Lu_give : pzM y_Lu_give b_Lu_give 5 ((Option.some Jvm.ClassFile.FieldType.boolean)) 2 := ⟨w_181, w_182, w_1, w_183, by decide, by decide, by decide +kernel⟩
theorem k_Lu_cut : pzM y_Lu_cut b_Lu_cut 2 ((Option.some Jvm.ClassFile.FieldType.boolean)) 1 := ⟨w_193, w_194, w_1, w_195, by decide, by decide, by decide +kernel⟩
theorem k_Lu_poke : pzM y_Lu_poke b_Lu_poke 3 ((Option.some Jvm.ClassFile.FieldType.boolean)) 2 := ⟨w_201, w_202, w_1, w_203, by decide, by decide, by decide +kernel⟩
theorem k_Lu_read : pzM y_Lu_read b_Lu_read 2 ((Option.some Jvm.ClassFile.FieldType.int)) 0 := ⟨w_209, w_210, w_1, w_211, by decide, by decide, by decide +kernel⟩
theorem k_Lu_write : pzM y_Lu_write b_Lu_write 1 ((Option.some Jvm.ClassFile.FieldType.int)) 0 := ⟨w_357, w_358, w_1, w_359, by decide, by decide, by decide +kernel⟩
theorem k_Lu_check : pzM y_Lu_check b_Lu_check 3 ((Option.some Jvm.ClassFile.FieldType.boolean)) 0 := ⟨w_362, w_363, w_1, w_364, by decide, by decide, by decide +kernel⟩
theorem k_Lu_byteAt : pzM y_Lu_byteAt b_Lu_byteAt 3 ((Option.some Jvm.ClassFile.FieldType.int)) 2 := ⟨w_367, w_368, w_1, w_369, by decide, by decide, by decide +kernel⟩
theorem k_Lu_vertex : pzM y_Lu_vertex b_Lu_vertex 3 ((Option.some Jvm.ClassFile.FieldType.int)) 2 := ⟨w_372, w_373, w_1, w_374, by decide, by decide, by decide +kernel⟩
theorem k_Lu_texture : pzM y_Lu_texture b_Lu_texture 3 ((Option.some Jvm.ClassFile.FieldType.int)) 2 := ⟨w_383, w_384, w_1, w_385, by decide, by decide, by decide +kernel⟩
theorem k_Lu_sector : pzM y_Lu_sector b_Lu_sector 4 ((Option.some Jvm.ClassFile.FieldType.int)) 2 := ⟨w_393, w_394, w_1, w_395, by decide, by decide, by decide +kernel⟩
theorem k_Lu_wall : pzM y_Lu_wall b_Lu_wall 4 ((Option.some Jvm.ClassFile.FieldType.int)) 2 := ⟨w_397, w_398, w_1, w_399, by decide, by decide, by decide +kernel⟩
theorem k_Lu_start : pzM y_Lu_start b_Lu_start 2 ((Option.some Jvm.ClassFile.FieldType.int)) 1 := ⟨w_401, w_402, w_1, w_403, by decide, by decide, by decide +kernel⟩
theorem k_Lu_look : pzM y_Lu_look b_Lu_look 2 ((Option.some Jvm.ClassFile.FieldType.int)) 1 := ⟨w_405, w_406, w_1, w_407, by decide, by decide, by decide +kernel⟩
theorem k_Mo_give : pzM y_Mo_give b_Mo_give 5 ((Option.some Jvm.ClassFile.FieldType.boolean)) 2 := ⟨w_459, w_460, w_6, w_461, by decide, by decide, by decide +kernel⟩
theorem k_Mo_cut : pzM y_Mo_cut b_Mo_cut 2 ((Option.some Jvm.ClassFile.FieldType.boolean)) 1 := ⟨w_463, w_464, w_6, w_465, by decide, by decide, by decide +kernel⟩
theorem k_Mo_poke : pzM y_Mo_poke b_Mo_poke 3 ((Option.some Jvm.ClassFile.FieldType.boolean)) 2 := ⟨w_467, w_468, w_6, w_469, by decide, by decide, by decide +kernel⟩
theorem k_Mo_check : pzM y_Mo_check b_Mo_check 2 ((Option.some Jvm.ClassFile.FieldType.boolean)) 0 := ⟨w_471, w_472, w_6, w_473, by decide, by decide, by decide +kernel⟩
theorem k_Mo_wrong : pzM y_Mo_wrong b_Mo_wrong 3 ((Option.none : Option Jvm.ClassFile.FieldType)) 2 := ⟨w_492, gw_sel (q := (y_Mo_wrong, 13)) (by decide +kernel), w_6, w_493, by decide, by decide, by decide +kernel⟩
theorem k_Mo_add : pzM y_Mo_add b_Mo_add 2 ((Option.none : Option Jvm.ClassFile.FieldType)) 1 := ⟨w_476, gw_sel (q := (y_Mo_add, 13)) (by decide +kernel), w_6, w_477, by decide, by decide, by decide +kernel⟩
theorem k_Mo_next : pzM y_Mo_next b_Mo_next 4 ((Option.some Jvm.ClassFile.FieldType.int)) 2 := ⟨w_488, gw_sel (q := (y_Mo_next, 13)) (by decide +kernel), w_6, w_489, by decide, by decide, by decide +kernel⟩
theorem k_Mo_nextOr : pzM y_Mo_nextOr b_Mo_nextOr 3 ((Option.some Jvm.ClassFile.FieldType.int)) 1 := ⟨w_516, gw_sel (q := (y_Mo_nextOr, 13)) (by decide +kernel), w_6, w_517, by decide, by decide, by decide +kernel⟩
theorem k_Mo_nextTwo : pzM y_Mo_nextTwo b_Mo_nextTwo 5 ((Option.some Jvm.ClassFile.FieldType.int)) 2 := ⟨w_500, gw_sel (q := (y_Mo_nextTwo, 13)) (by decide +kernel), w_6, w_501, by decide, by decide, by decide +kernel⟩
theorem k_Mo_pair : pzS y_Mo_pair b_Mo_pair 3 ((Option.some Jvm.ClassFile.FieldType.int)) 2 := ⟨w_504, w_6, w_505, by decide, by decide, by decide +kernel⟩
theorem k_Mo_readVertex : pzM y_Mo_readVertex b_Mo_readVertex 6 ((Option.none : Option Jvm.ClassFile.FieldType)) 1 := ⟨w_496, gw_sel (q := (y_Mo_readVertex, 13)) (by decide +kernel), w_6, w_497, by decide, by decide, by decide +kernel⟩
theorem k_Mo_readTexture : pzM y_Mo_readTexture b_Mo_readTexture 5 ((Option.none : Option Jvm.ClassFile.FieldType)) 0 := ⟨w_508, gw_sel (q := (y_Mo_readTexture, 13)) (by decide +kernel), w_6, w_509, by decide, by decide, by decide +kernel⟩
theorem k_Mo_readSector : pzM y_Mo_readSector b_Mo_readSector 10 ((Option.none : Option Jvm.ClassFile.FieldType)) 1 := ⟨w_512, gw_sel (q := (y_Mo_readSector, 13)) (by decide +kernel), w_6, w_513, by decide, by decide, by decide +kernel⟩
theorem k_Mo_readWall : pzM y_Mo_readWall b_Mo_readWall 12 ((Option.none : Option Jvm.ClassFile.FieldType)) 3 := ⟨w_520, gw_sel (q := (y_Mo_readWall, 13)) (by decide +kernel), w_6, w_521, by decide, by decide, by decide +kernel⟩
theorem k_Mo_readAll : pzM y_Mo_readAll b_Mo_readAll 14 ((Option.none : Option Jvm.ClassFile.FieldType)) 0 := ⟨w_484, gw_sel (q := (y_Mo_readAll, 13)) (by decide +kernel), w_6, w_485, by decide, by decide, by decide +kernel⟩
theorem k_Mo_readCheck : pzM y_Mo_readCheck b_Mo_readCheck 4 ((Option.none : Option Jvm.ClassFile.FieldType)) 1 := ⟨w_524, gw_sel (q := (y_Mo_readCheck, 13)) (by decide +kernel), w_6, w_525, by decide, by decide, by decide +kernel⟩
theorem k_Mo_vertexOf : pzM y_Mo_vertexOf b_Mo_vertexOf 3 ((Option.some Jvm.ClassFile.FieldType.int)) 2 := ⟨w_532, gw_sel (q := (y_Mo_vertexOf, 13)) (by decide +kernel), w_6, w_533, by decide, by decide, by decide +kernel⟩
theorem k_Mo_cross : pzS y_Mo_cross b_Mo_cross 8 ((Option.some Jvm.ClassFile.FieldType.long)) 4 := ⟨w_539, w_6, w_540, by decide, by decide, by decide +kernel⟩
theorem k_Mo_side : pzM y_Mo_side b_Mo_side 13 ((Option.some Jvm.ClassFile.FieldType.int)) 2 := ⟨w_536, gw_sel (q := (y_Mo_side, 13)) (by decide +kernel), w_6, w_537, by decide, by decide, by decide +kernel⟩
theorem k_Mo_lies : pzM y_Mo_lies b_Mo_lies 11 ((Option.some Jvm.ClassFile.FieldType.boolean)) 2 := ⟨w_543, gw_sel (q := (y_Mo_lies, 13)) (by decide +kernel), w_6, w_544, by decide, by decide, by decide +kernel⟩
theorem k_Mo_touch : pzM y_Mo_touch b_Mo_touch 9 ((Option.some Jvm.ClassFile.FieldType.boolean)) 2 := ⟨w_528, gw_sel (q := (y_Mo_touch, 13)) (by decide +kernel), w_6, w_529, by decide, by decide, by decide +kernel⟩
theorem k_Mo_read : pzM y_Mo_read b_Mo_read 2 ((Option.some Jvm.ClassFile.FieldType.int)) 0 := ⟨w_479, w_480, w_6, w_481, by decide, by decide, by decide +kernel⟩
theorem k_Mo_write : pzM y_Mo_write b_Mo_write 2 ((Option.some Jvm.ClassFile.FieldType.int)) 0 := ⟨w_546, w_547, w_6, w_548, by decide, by decide, by decide +kernel⟩
theorem k_Mo_byteAt : pzM y_Mo_byteAt b_Mo_byteAt 3 ((Option.some Jvm.ClassFile.FieldType.int)) 2 := ⟨w_550, w_551, w_6, w_552, by decide, by decide, by decide +kernel⟩
theorem k_Mo_many : pzM y_Mo_many b_Mo_many 2 ((Option.some Jvm.ClassFile.FieldType.int)) 1 := ⟨w_563, gw_sel (q := (y_Mo_many, 13)) (by decide +kernel), w_6, w_564, by decide, by decide, by decide +kernel⟩
theorem k_Mo_textureAt : pzM y_Mo_textureAt b_Mo_textureAt 4 ((Option.some Jvm.ClassFile.FieldType.int)) 1 := ⟨w_572, gw_sel (q := (y_Mo_textureAt, 13)) (by decide +kernel), w_6, w_573, by decide, by decide, by decide +kernel⟩
theorem k_Mo_sectorAt : pzM y_Mo_sectorAt b_Mo_sectorAt 2 ((Option.some Jvm.ClassFile.FieldType.int)) 1 := ⟨w_580, gw_sel (q := (y_Mo_sectorAt, 13)) (by decide +kernel), w_6, w_581, by decide, by decide, by decide +kernel⟩
theorem k_Mo_wallAt : pzM y_Mo_wallAt b_Mo_wallAt 2 ((Option.some Jvm.ClassFile.FieldType.int)) 1 := ⟨w_588, gw_sel (q := (y_Mo_wallAt, 13)) (by decide +kernel), w_6, w_589, by decide, by decide, by decide +kernel⟩
theorem k_Mo_has : pzM y_Mo_has b_Mo_has 3 ((Option.some Jvm.ClassFile.FieldType.boolean)) 2 := ⟨w_559, gw_sel (q := (y_Mo_has, 13)) (by decide +kernel), w_6, w_560, by decide, by decide, by decide +kernel⟩
theorem k_Mo_vertex : pzM y_Mo_vertex b_Mo_vertex 3 ((Option.some Jvm.ClassFile.FieldType.int)) 2 := ⟨w_554, w_555, w_6, w_556, by decide, by decide, by decide +kernel⟩
theorem k_Mo_texture : pzM y_Mo_texture b_Mo_texture 8 ((Option.some Jvm.ClassFile.FieldType.int)) 2 := ⟨w_567, w_568, w_6, w_569, by decide, by decide, by decide +kernel⟩
theorem k_Mo_sector : pzM y_Mo_sector b_Mo_sector 4 ((Option.some Jvm.ClassFile.FieldType.int)) 2 := ⟨w_575, w_576, w_6, w_577, by decide, by decide, by decide +kernel⟩
theorem k_Mo_wall : pzM y_Mo_wall b_Mo_wall 4 ((Option.some Jvm.ClassFile.FieldType.int)) 2 := ⟨w_583, w_584, w_6, w_585, by decide, by decide, by decide +kernel⟩
theorem k_Mo_start : pzM y_Mo_start b_Mo_start 3 ((Option.some Jvm.ClassFile.FieldType.int)) 1 := ⟨w_591, w_592, w_6, w_593, by decide, by decide, by decide +kernel⟩
theorem k_Mo_look : pzM y_Mo_look b_Mo_look 2 ((Option.some Jvm.ClassFile.FieldType.int)) 1 := ⟨w_595, w_596, w_6, w_597, by decide, by decide, by decide +kernel⟩
theorem k_Rd_judge : pzM y_Rd_judge b_Rd_judge 1 ((Option.some Jvm.ClassFile.FieldType.int)) 0 := ⟨w_213, w_214, w_2, w_215, by decide, by decide, by decide +kernel⟩
theorem k_Rd_passHead : pzM y_Rd_passHead b_Rd_passHead 1 ((Option.none : Option Jvm.ClassFile.FieldType)) 0 := ⟨w_218, gw_sel (q := (y_Rd_passHead, 13)) (by decide +kernel), w_2, w_219, by decide, by decide, by decide +kernel⟩
theorem k_Rd_passVertices : pzM y_Rd_passVertices b_Rd_passVertices 3 ((Option.none : Option Jvm.ClassFile.FieldType)) 0 := ⟨w_246, gw_sel (q := (y_Rd_passVertices, 13)) (by decide +kernel), w_2, w_247, by decide, by decide, by decide +kernel⟩
theorem k_Rd_isTaken : pzM y_Rd_isTaken b_Rd_isTaken 3 ((Option.some Jvm.ClassFile.FieldType.boolean)) 1 := ⟨w_255, gw_sel (q := (y_Rd_isTaken, 13)) (by decide +kernel), w_2, w_256, by decide, by decide, by decide +kernel⟩
theorem k_Rd_passTextures : pzM y_Rd_passTextures b_Rd_passTextures 5 ((Option.none : Option Jvm.ClassFile.FieldType)) 0 := ⟨w_259, gw_sel (q := (y_Rd_passTextures, 13)) (by decide +kernel), w_2, w_260, by decide, by decide, by decide +kernel⟩
theorem k_Rd_passSectors : pzM y_Rd_passSectors b_Rd_passSectors 3 ((Option.none : Option Jvm.ClassFile.FieldType)) 0 := ⟨w_263, gw_sel (q := (y_Rd_passSectors, 13)) (by decide +kernel), w_2, w_264, by decide, by decide, by decide +kernel⟩
theorem k_Rd_passWalls : pzM y_Rd_passWalls b_Rd_passWalls 3 ((Option.none : Option Jvm.ClassFile.FieldType)) 0 := ⟨w_271, gw_sel (q := (y_Rd_passWalls, 13)) (by decide +kernel), w_2, w_272, by decide, by decide, by decide +kernel⟩
theorem k_Rd_passWallEnds : pzM y_Rd_passWallEnds b_Rd_passWallEnds 5 ((Option.none : Option Jvm.ClassFile.FieldType)) 1 := ⟨w_275, gw_sel (q := (y_Rd_passWallEnds, 13)) (by decide +kernel), w_2, w_276, by decide, by decide, by decide +kernel⟩
theorem k_Rd_passWallTextures : pzM y_Rd_passWallTextures b_Rd_passWallTextures 3 ((Option.none : Option Jvm.ClassFile.FieldType)) 1 := ⟨w_289, gw_sel (q := (y_Rd_passWallTextures, 13)) (by decide +kernel), w_2, w_290, by decide, by decide, by decide +kernel⟩
theorem k_Rd_passStart : pzM y_Rd_passStart b_Rd_passStart 1 ((Option.none : Option Jvm.ClassFile.FieldType)) 0 := ⟨w_293, gw_sel (q := (y_Rd_passStart, 13)) (by decide +kernel), w_2, w_294, by decide, by decide, by decide +kernel⟩
theorem k_Rd_passEnd : pzM y_Rd_passEnd b_Rd_passEnd 2 ((Option.none : Option Jvm.ClassFile.FieldType)) 0 := ⟨w_297, gw_sel (q := (y_Rd_passEnd, 13)) (by decide +kernel), w_2, w_298, by decide, by decide, by decide +kernel⟩
theorem k_Rd_seekMeeting : pzM y_Rd_seekMeeting b_Rd_seekMeeting 3 ((Option.none : Option Jvm.ClassFile.FieldType)) 0 := ⟨w_305, gw_sel (q := (y_Rd_seekMeeting, 13)) (by decide +kernel), w_2, w_306, by decide, by decide, by decide +kernel⟩
theorem k_Rd_next : pzM y_Rd_next b_Rd_next 2 ((Option.some Jvm.ClassFile.FieldType.int)) 0 := ⟨w_226, gw_sel (q := (y_Rd_next, 13)) (by decide +kernel), w_2, w_227, by decide, by decide, by decide +kernel⟩
theorem k_Rd_expect : pzM y_Rd_expect b_Rd_expect 4 ((Option.none : Option Jvm.ClassFile.FieldType)) 2 := ⟨w_222, gw_sel (q := (y_Rd_expect, 13)) (by decide +kernel), w_2, w_223, by decide, by decide, by decide +kernel⟩
theorem k_Rd_small : pzM y_Rd_small b_Rd_small 4 ((Option.some Jvm.ClassFile.FieldType.int)) 2 := ⟨w_238, gw_sel (q := (y_Rd_small, 13)) (by decide +kernel), w_2, w_239, by decide, by decide, by decide +kernel⟩
theorem k_Rd_smallOrAbsent : pzM y_Rd_smallOrAbsent b_Rd_smallOrAbsent 4 ((Option.some Jvm.ClassFile.FieldType.int)) 1 := ⟨w_267, gw_sel (q := (y_Rd_smallOrAbsent, 13)) (by decide +kernel), w_2, w_268, by decide, by decide, by decide +kernel⟩
theorem k_Rd_wide : pzM y_Rd_wide b_Rd_wide 6 ((Option.some Jvm.ClassFile.FieldType.int)) 2 := ⟨w_250, gw_sel (q := (y_Rd_wide, 13)) (by decide +kernel), w_2, w_251, by decide, by decide, by decide +kernel⟩
theorem k_Rd_judged : pzM y_Rd_judged b_Rd_judged 5 ((Option.some Jvm.ClassFile.FieldType.int)) 4 := ⟨w_242, gw_sel (q := (y_Rd_judged, 13)) (by decide +kernel), w_2, w_243, by decide, by decide, by decide +kernel⟩
theorem k_Rd_fail : pzM y_Rd_fail b_Rd_fail 3 ((Option.none : Option Jvm.ClassFile.FieldType)) 2 := ⟨w_234, gw_sel (q := (y_Rd_fail, 13)) (by decide +kernel), w_2, w_235, by decide, by decide, by decide +kernel⟩
theorem k_Mp_take : pzM y_Mp_take b_Mp_take 4 ((Option.none : Option Jvm.ClassFile.FieldType)) 1 := ⟨w_333, w_334, w_5, w_335, by decide, by decide, by decide +kernel⟩
theorem k_Mp_counted : pzM y_Mp_counted b_Mp_counted 2 ((Option.some Jvm.ClassFile.FieldType.int)) 1 := ⟨w_409, w_410, w_5, w_411, by decide, by decide, by decide +kernel⟩
theorem k_Mp_width : pzM y_Mp_width b_Mp_width 2 ((Option.some Jvm.ClassFile.FieldType.int)) 1 := ⟨w_345, w_346, w_5, w_347, by decide, by decide, by decide +kernel⟩
theorem k_Mp_height : pzM y_Mp_height b_Mp_height 2 ((Option.some Jvm.ClassFile.FieldType.int)) 1 := ⟨w_353, w_354, w_5, w_355, by decide, by decide, by decide +kernel⟩
theorem k_Mp_texel : pzM y_Mp_texel b_Mp_texel 5 ((Option.some Jvm.ClassFile.FieldType.int)) 3 := ⟨w_389, w_390, w_5, w_391, by decide, by decide, by decide +kernel⟩
theorem k_Mp_textureAt : pzM y_Mp_textureAt b_Mp_textureAt 2 ((Option.some Jvm.ClassFile.FieldType.int)) 1 := ⟨w_350, gw_sel (q := (y_Mp_textureAt, 10)) (by decide +kernel), w_5, w_351, by decide, by decide, by decide +kernel⟩
theorem k_Rw_free : pzM y_Rw_free b_Rw_free 1 ((Option.some Jvm.ClassFile.FieldType.int)) 0 := ⟨w_185, w_186, w_3, w_187, by decide, by decide, by decide +kernel⟩
theorem k_Rw_get : pzM y_Rw_get b_Rw_get 2 ((Option.some Jvm.ClassFile.FieldType.int)) 1 := ⟨w_229, w_230, w_3, w_231, by decide, by decide, by decide +kernel⟩
theorem k_Rw_put : pzM y_Rw_put b_Rw_put 3 ((Option.some Jvm.ClassFile.FieldType.boolean)) 2 := ⟨w_205, w_206, w_3, w_207, by decide, by decide, by decide +kernel⟩
theorem k_Rw_append : pzM y_Rw_append b_Rw_append 2 ((Option.none : Option Jvm.ClassFile.FieldType)) 1 := ⟨w_189, w_190, w_3, w_191, by decide, by decide, by decide +kernel⟩
theorem k_Rw_shorten : pzM y_Rw_shorten b_Rw_shorten 2 ((Option.some Jvm.ClassFile.FieldType.boolean)) 1 := ⟨w_197, w_198, w_3, w_199, by decide, by decide, by decide +kernel⟩
theorem k_Rw_copy : pzM y_Rw_copy b_Rw_copy 2 ((Option.none : Option Jvm.ClassFile.FieldType)) 1 := ⟨w_337, w_338, w_3, w_339, by decide, by decide, by decide +kernel⟩
theorem k_Rw_signed : pzM y_Rw_signed b_Rw_signed 3 ((Option.some Jvm.ClassFile.FieldType.int)) 1 := ⟨w_377, w_378, w_3, w_379, by decide, by decide, by decide +kernel⟩
theorem k_Rw_sums : pzM y_Rw_sums b_Rw_sums 5 ((Option.some Jvm.ClassFile.FieldType.int)) 1 := ⟨w_300, w_301, w_3, w_302, by decide, by decide, by decide +kernel⟩
theorem k_Sp_lay : pzM y_Sp_lay b_Sp_lay 5 ((Option.none : Option Jvm.ClassFile.FieldType)) 4 := ⟨w_278, w_279, w_4, w_280, by decide, by decide, by decide +kernel⟩
theorem k_Sp_meets : pzM y_Sp_meets b_Sp_meets 2 ((Option.some Jvm.ClassFile.FieldType.boolean)) 1 := ⟨w_308, w_309, w_4, w_310, by decide, by decide, by decide +kernel⟩
theorem k_Sp_boxesApart : pzM y_Sp_boxesApart b_Sp_boxesApart 2 ((Option.some Jvm.ClassFile.FieldType.boolean)) 1 := ⟨w_313, gw_sel (q := (y_Sp_boxesApart, 8)) (by decide +kernel), w_4, w_314, by decide, by decide, by decide +kernel⟩
theorem k_Sp_lineParts : pzM y_Sp_lineParts b_Sp_lineParts 2 ((Option.some Jvm.ClassFile.FieldType.boolean)) 1 := ⟨w_323, gw_sel (q := (y_Sp_lineParts, 8)) (by decide +kernel), w_4, w_324, by decide, by decide, by decide +kernel⟩
theorem k_Sp_side : pzM y_Sp_side b_Sp_side 3 ((Option.some Jvm.ClassFile.FieldType.int)) 2 := ⟨w_327, gw_sel (q := (y_Sp_side, 8)) (by decide +kernel), w_4, w_328, by decide, by decide, by decide +kernel⟩
theorem k_Sp_sameWay : pzS y_Sp_sameWay b_Sp_sameWay 8 ((Option.some Jvm.ClassFile.FieldType.boolean)) 6 := ⟨w_316, w_4, w_317, by decide, by decide, by decide +kernel⟩
theorem k_Sp_turn : pzS y_Sp_turn b_Sp_turn 6 ((Option.some Jvm.ClassFile.FieldType.long)) 6 := ⟨w_319, w_4, w_320, by decide, by decide, by decide +kernel⟩
theorem k_Jl_signum : pzS y_Jl_signum b_Jl_signum 2 ((Option.some Jvm.ClassFile.FieldType.int)) 1 := ⟨w_330, w_8, w_331, by decide, by decide, by decide +kernel⟩
end
section
/-! numbers -/
theorem in_a {k : Int32} {n N : Nat} (h0 : ¬ k < 0) (h1 : ¬ nI n ≤ k) (hn : n ≤ N) (hN : N < 2 ^ 31) : vp_in k N := by
  obtain ⟨j, hj, rfl⟩ := nI_of h0
  rw [nI_leI (by omega) hj] at h1
  exact vp_in_nI (by omega) hN
theorem in_b {k : Int32} {n N : Nat} (h0 : ¬ k < 0) (h1 : k < nI n) (hn : n ≤ N) (hN : N < 2 ^ 31) : vp_in k N := by
  obtain ⟨j, hj, rfl⟩ := nI_of h0
  rw [nI_ltI hj (by omega)] at h1
  exact vp_in_nI (by omega) hN
theorem in_n {i N : Nat} (h : i < N) (hN : N < 2 ^ 31) : vp_in (nI i) N := vp_in_nI h hN
theorem nI_cl {k : Int32} (h : ¬ k < 0) : nI k.toNatClampNeg = k := by
  obtain ⟨j, hj, rfl⟩ := nI_of h
  rw [nI_clamp hj]
/-! THE CLASS's rows, as pure functions -/
/-- byte k of a row of n bytes; -1 if there is none -/
def rg (f : Nat → Int32) (n : Nat) (k : Int32) : Int32 := if k < 0 then -1 else if nI n ≤ k then -1 else f k.toNatClampNeg &&& 255
/-- a number of two bytes, below 0 as 65536 more -/
def w16 (z : Int32) : Int32 := if z ≤ 32767 then z else z - 65536
def rsg (f : Nat → Int32) (n : Nat) (k : Int32) : Int32 := w16 (256 * rg f n k + rg f n (k + 1))
def rput (n : Nat) (k : Int32) : Int32 := if k < 0 then 0 else if k < nI n then 1 else 0
def rputF (f : Nat → Int32) (n : Nat) (k b : Int32) : Nat → Int32 := if k < 0 then f else if k < nI n then upd f k.toNatClampNeg b.toInt8.toInt32 else f
def rsh (n : Nat) (k : Int32) : Int32 := if k < 0 then 0 else if k ≤ nI n then 1 else 0
def rshN (n : Nat) (k : Int32) : Nat := if k < 0 then n else if k ≤ nI n then k.toNatClampNeg else n
def md251 (x : Int32) : Int32 := x - x / 251 * 251
/-- the two sums of the first k bytes -/
def sum2 (f : Nat → Int32) : Nat → Int32 × Int32
  | 0 => (0, 0)
  | k + 1 => (md251 ((sum2 f k).1 + (f k &&& 255)), md251 ((sum2 f k).2 + md251 ((sum2 f k).1 + (f k &&& 255))))
end
section
set_option maxRecDepth 100000 in
set_option maxHeartbeats 4000000 in
/-- Row.get: a byte, or -1 -/
theorem c_Rw_get (l : Launch) (D : va_G) (cB cI cS : ClassId) (h0 hc : Nat) (f : Nat → Int32) (n : Nat) (k : Int32) (hn : n ≤ 8192) : mI l y_Rw_get b_Rw_get 2 (some .int) 0 D cls [(cB, .byte), (cI, .int), (cS, .object "MapLumps$Span")] [.ref h0, .int k] ([(h0, .inr (3, [.ref hc, .int (nI n)])), (hc, .inl (cB, 8192, .inl f))]) (rg f n k) ([(h0, .inr (3, [.ref hc, .int (nI n)])), (hc, .inl (cB, 8192, .inl f))]) := by
  refine pz_openI (by decide) (Nat.le_of_ble_eq_true rfl) ?_
  intro p e s m below meth c A ls Q X hN hK hP hD hS hA hl fin
  obtain ⟨hx, hb, hml, hown, hts⟩ := id X
  have hl : lv_has ls 2 [(0, .ref h0), (1, .int k)] := hl
  refine lv_iload_n hx hb d_Rw_get_0 rfl (lv_at hl 1 rfl) ?_
  refine lv_if_lt (tgt := 25) hx hb d_Rw_get_1 (by decide) (fun c_1 => ?_) (fun c_1 => ?_)
  · refine lv_iconst (v := (-1)) hx hb d_Rw_get_25 (by decide) ?_
    exact fin _ _ _ _ _ _ d_Rw_get_26 hP hS (by simp only [rg, if_pos c_1]) (rfl)
  · refine lv_iload_n hx hb d_Rw_get_4 rfl (lv_at hl 1 rfl) ?_
    refine lv_aload_n hx hb d_Rw_get_5 rfl (lv_at hl 0 rfl) ?_
    refine va_get (D := D) (ci := 3) (v := .int (nI n)) (C := R_Rw) (T := T_Rw) (N := 2) hx hb hts i_Rw hown hK hP 0 rfl rfl 1 (by decide) (hts _ w_31) (fun _ h9 => h9) rfl d_Rw_get_6 ?_
    refine lv_icmp_ge (tgt := 25) hx hb d_Rw_get_9 (by decide) (fun c_2 => ?_) (fun c_2 => ?_)
    · refine lv_iconst (v := (-1)) hx hb d_Rw_get_25 (by decide) ?_
      exact fin _ _ _ _ _ _ d_Rw_get_26 hP hS (by simp only [rg, if_neg c_1, if_pos c_2]) (rfl)
    · refine lv_aload_n hx hb d_Rw_get_12 rfl (lv_at hl 0 rfl) ?_
      refine va_get (D := D) (ci := 3) (v := .ref hc) (C := R_Rw) (T := T_Rw) (N := 2) hx hb hts i_Rw hown hK hP 0 rfl rfl 0 (by decide) (hts _ w_30) (fun _ h9 => h9) rfl d_Rw_get_13 ?_
      refine lv_iload_n hx hb d_Rw_get_16 rfl (lv_at hl 1 rfl) ?_
      refine va_bald hx hb hK hP 1 0 rfl rfl (in_a c_1 c_2 hn (by decide)) d_Rw_get_17 ?_
      refine lv_sipush (v := 255) hx hb d_Rw_get_18 (by decide) ?_
      refine lv_iand hx hb d_Rw_get_21 ?_
      refine lv_goto (tgt := 26) hx hb d_Rw_get_22 (by decide) ?_
      exact fin _ _ _ _ _ _ d_Rw_get_26 hP hS (by simp only [rg, if_neg c_1, if_neg c_2]) (rfl)

set_option maxRecDepth 100000 in
set_option maxHeartbeats 4000000 in
/-- Row.free -/
theorem c_Rw_free (l : Launch) (D : va_G) (cB cI cS : ClassId) (h0 hc : Nat) (f : Nat → Int32) (n : Nat)  : mI l y_Rw_free b_Rw_free 1 (some .int) 0 D cls [(cB, .byte), (cI, .int), (cS, .object "MapLumps$Span")] [.ref h0] ([(h0, .inr (3, [.ref hc, .int (nI n)])), (hc, .inl (cB, 8192, .inl f))]) (8192 - nI n) ([(h0, .inr (3, [.ref hc, .int (nI n)])), (hc, .inl (cB, 8192, .inl f))]) := by
  refine pz_openI (by decide) (Nat.le_of_ble_eq_true rfl) ?_
  intro p e s m below meth c A ls Q X hN hK hP hD hS hA hl fin
  obtain ⟨hx, hb, hml, hown, hts⟩ := id X
  have hl : lv_has ls 1 [(0, .ref h0)] := hl
  refine lv_aload_n hx hb d_Rw_free_0 rfl (lv_at hl 0 rfl) ?_
  refine va_get (D := D) (ci := 3) (v := .ref hc) (C := R_Rw) (T := T_Rw) (N := 2) hx hb hts i_Rw hown hK hP 0 rfl rfl 0 (by decide) (hts _ w_30) (fun _ h9 => h9) rfl d_Rw_free_1 ?_
  refine va_alen hx hb hK hP 1 0 rfl rfl (v := 8192) rfl d_Rw_free_4 ?_
  refine lv_aload_n hx hb d_Rw_free_5 rfl (lv_at hl 0 rfl) ?_
  refine va_get (D := D) (ci := 3) (v := .int (nI n)) (C := R_Rw) (T := T_Rw) (N := 2) hx hb hts i_Rw hown hK hP 0 rfl rfl 1 (by decide) (hts _ w_31) (fun _ h9 => h9) rfl d_Rw_free_6 ?_
  refine lv_isub hx hb d_Rw_free_9 ?_
  exact fin _ _ _ _ _ _ d_Rw_free_10 hP hS (rfl) (rfl)

set_option maxRecDepth 100000 in
set_option maxHeartbeats 4000000 in
/-- Row.put -/
theorem c_Rw_put (l : Launch) (D : va_G) (cB cI cS : ClassId) (h0 hc : Nat) (f : Nat → Int32) (n : Nat) (k b : Int32) (hn : n ≤ 8192) : mI l y_Rw_put b_Rw_put 3 (some .boolean) 0 D cls [(cB, .byte), (cI, .int), (cS, .object "MapLumps$Span")] [.ref h0, .int k, .int b] ([(h0, .inr (3, [.ref hc, .int (nI n)])), (hc, .inl (cB, 8192, .inl f))]) (rput n k) ([(h0, .inr (3, [.ref hc, .int (nI n)])), (hc, .inl (cB, 8192, .inl (rputF f n k b)))]) := by
  refine pz_openZ (by decide) (Nat.le_of_ble_eq_true rfl) ?_
  intro p e s m below meth c A ls Q X hN hK hP hD hS hA hl fin
  obtain ⟨hx, hb, hml, hown, hts⟩ := id X
  have hl : lv_has ls 3 [(0, .ref h0), (1, .int k), (2, .int b)] := hl
  refine lv_iload_n hx hb d_Rw_put_0 rfl (lv_at hl 1 rfl) ?_
  refine lv_if_lt (tgt := 12) hx hb d_Rw_put_1 (by decide) (fun c_1 => ?_) (fun c_1 => ?_)
  · refine lv_iconst (v := 0) hx hb d_Rw_put_12 (by decide) ?_
    exact fin _ _ _ _ _ _ d_Rw_put_13 hP hS (by simp only [rput, rputF, pk_vb, if_pos c_1]) (by simp only [rput, rputF, pk_vb, if_pos c_1]) rfl
  · refine lv_iload_n hx hb d_Rw_put_4 rfl (lv_at hl 1 rfl) ?_
    refine lv_aload_n hx hb d_Rw_put_5 rfl (lv_at hl 0 rfl) ?_
    refine va_get (D := D) (ci := 3) (v := .int (nI n)) (C := R_Rw) (T := T_Rw) (N := 2) hx hb hts i_Rw hown hK hP 0 rfl rfl 1 (by decide) (hts _ w_31) (fun _ h9 => h9) rfl d_Rw_put_6 ?_
    refine lv_icmp_lt (tgt := 14) hx hb d_Rw_put_9 (by decide) (fun c_2 => ?_) (fun c_2 => ?_)
    · refine lv_aload_n hx hb d_Rw_put_14 rfl (lv_at hl 0 rfl) ?_
      refine va_get (D := D) (ci := 3) (v := .ref hc) (C := R_Rw) (T := T_Rw) (N := 2) hx hb hts i_Rw hown hK hP 0 rfl rfl 0 (by decide) (hts _ w_30) (fun _ h9 => h9) rfl d_Rw_put_15 ?_
      refine lv_iload_n hx hb d_Rw_put_18 rfl (lv_at hl 1 rfl) ?_
      refine lv_iload_n hx hb d_Rw_put_19 rfl (lv_at hl 2 rfl) ?_
      refine lv_i2b hx hb d_Rw_put_20 rfl ?_
      refine va_bast hx hb hK hP hD hS 1 0 rfl rfl (in_b c_1 c_2 hn (by decide)) d_Rw_put_21 (fun H locs hP hD hS => ?_)
      have hP : va_P D cls ([(h0, .inr (3, [.ref hc, .int (nI n)])), (hc, .inl (cB, 8192, .inl (upd f k.toNatClampNeg (vp_nar .byte b.toInt8.toInt32))))]) H := hP
      have hD : va_D A ([(h0, .inr (3, [.ref hc, .int (nI n)])), (hc, .inl (cB, 8192, .inl (upd f k.toNatClampNeg (vp_nar .byte b.toInt8.toInt32))))]) := hD
      refine lv_iconst (v := 1) hx hb d_Rw_put_22 (by decide) ?_
      exact fin _ _ _ _ _ _ d_Rw_put_23 hP hS (by simp only [rput, rputF, pk_vb, if_neg c_1, if_pos c_2]) (by simp only [rput, rputF, pk_vb, if_neg c_1, if_pos c_2]) rfl
    · refine lv_iconst (v := 0) hx hb d_Rw_put_12 (by decide) ?_
      exact fin _ _ _ _ _ _ d_Rw_put_13 hP hS (by simp only [rput, rputF, pk_vb, if_neg c_1, if_neg c_2]) (by simp only [rput, rputF, pk_vb, if_neg c_1, if_neg c_2]) rfl

set_option maxRecDepth 100000 in
set_option maxHeartbeats 4000000 in
/-- Row.append, where there is room -/
theorem c_Rw_append (l : Launch) (D : va_G) (cB cI cS : ClassId) (h0 hc : Nat) (f : Nat → Int32) (n : Nat) (b : Int32) (hn : n < 8192) : mV l y_Rw_append b_Rw_append 2 (none) 0 D cls [(cB, .byte), (cI, .int), (cS, .object "MapLumps$Span")] [.ref h0, .int b] ([(h0, .inr (3, [.ref hc, .int (nI n)])), (hc, .inl (cB, 8192, .inl f))]) ([(h0, .inr (3, [.ref hc, .int (nI (n + 1))])), (hc, .inl (cB, 8192, .inl (upd f n b.toInt8.toInt32)))]) := by
  refine pz_openV (by decide) (Nat.le_of_ble_eq_true rfl) ?_
  intro p e s m below meth c A ls Q X hN hK hP hD hS hA hl fin
  obtain ⟨hx, hb, hml, hown, hts⟩ := id X
  have hl : lv_has ls 2 [(0, .ref h0), (1, .int b)] := hl
  refine lv_aload_n hx hb d_Rw_append_0 rfl (lv_at hl 0 rfl) ?_
  refine va_get (D := D) (ci := 3) (v := .int (nI n)) (C := R_Rw) (T := T_Rw) (N := 2) hx hb hts i_Rw hown hK hP 0 rfl rfl 1 (by decide) (hts _ w_31) (fun _ h9 => h9) rfl d_Rw_append_1 ?_
  refine lv_aload_n hx hb d_Rw_append_4 rfl (lv_at hl 0 rfl) ?_
  refine va_get (D := D) (ci := 3) (v := .ref hc) (C := R_Rw) (T := T_Rw) (N := 2) hx hb hts i_Rw hown hK hP 0 rfl rfl 0 (by decide) (hts _ w_30) (fun _ h9 => h9) rfl d_Rw_append_5 ?_
  refine va_alen hx hb hK hP 1 0 rfl rfl (v := 8192) rfl d_Rw_append_8 ?_
  refine lv_icmp_ge (tgt := 33) hx hb d_Rw_append_9 (by decide) (fun c_1 => ?_) (fun c_1 => ?_)
  · exact absurd c_1 (show ¬ nI 8192 ≤ nI n by rw [nI_leI (by omega) (by omega)]; omega)
  · refine lv_aload_n hx hb d_Rw_append_12 rfl (lv_at hl 0 rfl) ?_
    refine va_get (D := D) (ci := 3) (v := .ref hc) (C := R_Rw) (T := T_Rw) (N := 2) hx hb hts i_Rw hown hK hP 0 rfl rfl 0 (by decide) (hts _ w_30) (fun _ h9 => h9) rfl d_Rw_append_13 ?_
    refine lv_aload_n hx hb d_Rw_append_16 rfl (lv_at hl 0 rfl) ?_
    refine va_get (D := D) (ci := 3) (v := .int (nI n)) (C := R_Rw) (T := T_Rw) (N := 2) hx hb hts i_Rw hown hK hP 0 rfl rfl 1 (by decide) (hts _ w_31) (fun _ h9 => h9) rfl d_Rw_append_17 ?_
    refine lv_iload_n hx hb d_Rw_append_20 rfl (lv_at hl 1 rfl) ?_
    refine lv_i2b hx hb d_Rw_append_21 rfl ?_
    refine va_bast hx hb hK hP hD hS 1 0 rfl rfl (in_n hn (by decide)) d_Rw_append_22 (fun H locs hP hD hS => ?_)
    have hP : va_P D cls ([(h0, .inr (3, [.ref hc, .int (nI n)])), (hc, .inl (cB, 8192, .inl (upd f (nI n).toNatClampNeg (vp_nar .byte b.toInt8.toInt32))))]) H := hP
    have hD : va_D A ([(h0, .inr (3, [.ref hc, .int (nI n)])), (hc, .inl (cB, 8192, .inl (upd f (nI n).toNatClampNeg (vp_nar .byte b.toInt8.toInt32))))]) := hD
    refine lv_aload_n hx hb d_Rw_append_23 rfl (lv_at hl 0 rfl) ?_
    refine lv_dup hx hb d_Rw_append_24 rfl ?_
    refine va_get (D := D) (ci := 3) (v := .int (nI n)) (C := R_Rw) (T := T_Rw) (N := 2) hx hb hts i_Rw hown hK hP 0 rfl rfl 1 (by decide) (hts _ w_31) (fun _ h9 => h9) rfl d_Rw_append_25 ?_
    refine lv_iconst (v := 1) hx hb d_Rw_append_28 (by decide) ?_
    refine lv_iadd hx hb d_Rw_append_29 ?_
    refine va_put (D := D) (ci := 3) (v := .int ((nI n) + 1)) (ty := (.int)) (C := R_Rw) (T := T_Rw) (N := 2) hx hb hts i_Rw ty_Rw tyok_Rw nm_Rw hown hK hP hD hS 0 rfl rfl 1 (by decide) (hts _ w_31) (fun _ h9 => h9) rfl (by decide +kernel) rfl rfl (Nat.le_of_ble_eq_true rfl) d_Rw_append_30 (fun H locs hP hD hS => ?_)
    have hP : va_P D cls ([(h0, .inr (3, [.ref hc, .int ((nI n) + 1)])), (hc, .inl (cB, 8192, .inl (upd f (nI n).toNatClampNeg (vp_nar .byte b.toInt8.toInt32))))]) H := hP
    have hD : va_D A ([(h0, .inr (3, [.ref hc, .int ((nI n) + 1)])), (hc, .inl (cB, 8192, .inl (upd f (nI n).toNatClampNeg (vp_nar .byte b.toInt8.toInt32))))]) := hD
    exact fin _ _ _ _ _ d_Rw_append_33 hP hS (by rw [pk_vb, nI_clamp (by omega), nI_1])

set_option maxRecDepth 100000 in
set_option maxHeartbeats 4000000 in
/-- Row.shorten -/
theorem c_Rw_shorten (l : Launch) (D : va_G) (cB cI cS : ClassId) (h0 hc : Nat) (f : Nat → Int32) (n : Nat) (k : Int32)  : mI l y_Rw_shorten b_Rw_shorten 2 (some .boolean) 0 D cls [(cB, .byte), (cI, .int), (cS, .object "MapLumps$Span")] [.ref h0, .int k] ([(h0, .inr (3, [.ref hc, .int (nI n)])), (hc, .inl (cB, 8192, .inl f))]) (rsh n k) ([(h0, .inr (3, [.ref hc, .int (nI (rshN n k))])), (hc, .inl (cB, 8192, .inl f))]) := by
  refine pz_openZ (by decide) (Nat.le_of_ble_eq_true rfl) ?_
  intro p e s m below meth c A ls Q X hN hK hP hD hS hA hl fin
  obtain ⟨hx, hb, hml, hown, hts⟩ := id X
  have hl : lv_has ls 2 [(0, .ref h0), (1, .int k)] := hl
  refine lv_iload_n hx hb d_Rw_shorten_0 rfl (lv_at hl 1 rfl) ?_
  refine lv_if_lt (tgt := 12) hx hb d_Rw_shorten_1 (by decide) (fun c_1 => ?_) (fun c_1 => ?_)
  · refine lv_iconst (v := 0) hx hb d_Rw_shorten_12 (by decide) ?_
    exact fin _ _ _ _ _ _ d_Rw_shorten_13 hP hS (by simp only [rsh, rshN, if_pos c_1]) (by simp only [rshN, if_pos c_1]) rfl
  · refine lv_iload_n hx hb d_Rw_shorten_4 rfl (lv_at hl 1 rfl) ?_
    refine lv_aload_n hx hb d_Rw_shorten_5 rfl (lv_at hl 0 rfl) ?_
    refine va_get (D := D) (ci := 3) (v := .int (nI n)) (C := R_Rw) (T := T_Rw) (N := 2) hx hb hts i_Rw hown hK hP 0 rfl rfl 1 (by decide) (hts _ w_31) (fun _ h9 => h9) rfl d_Rw_shorten_6 ?_
    refine lv_icmp_le (tgt := 14) hx hb d_Rw_shorten_9 (by decide) (fun c_2 => ?_) (fun c_2 => ?_)
    · refine lv_aload_n hx hb d_Rw_shorten_14 rfl (lv_at hl 0 rfl) ?_
      refine lv_iload_n hx hb d_Rw_shorten_15 rfl (lv_at hl 1 rfl) ?_
      refine va_put (D := D) (ci := 3) (v := .int k) (ty := (.int)) (C := R_Rw) (T := T_Rw) (N := 2) hx hb hts i_Rw ty_Rw tyok_Rw nm_Rw hown hK hP hD hS 0 rfl rfl 1 (by decide) (hts _ w_31) (fun _ h9 => h9) rfl (by decide +kernel) rfl rfl (Nat.le_of_ble_eq_true rfl) d_Rw_shorten_16 (fun H locs hP hD hS => ?_)
      have hP : va_P D cls ([(h0, .inr (3, [.ref hc, .int k])), (hc, .inl (cB, 8192, .inl f))]) H := hP
      have hD : va_D A ([(h0, .inr (3, [.ref hc, .int k])), (hc, .inl (cB, 8192, .inl f))]) := hD
      refine lv_iconst (v := 1) hx hb d_Rw_shorten_19 (by decide) ?_
      exact fin _ _ _ _ _ _ d_Rw_shorten_20 hP hS (by simp only [rsh, rshN, if_neg c_1, if_pos c_2]) (by simp only [rshN, if_neg c_1, if_pos c_2]; rw [nI_cl c_1]) rfl
    · refine lv_iconst (v := 0) hx hb d_Rw_shorten_12 (by decide) ?_
      exact fin _ _ _ _ _ _ d_Rw_shorten_13 hP hS (by simp only [rsh, rshN, if_neg c_1, if_neg c_2]) (by simp only [rshN, if_neg c_1, if_neg c_2]) rfl

set_option maxRecDepth 100000 in
set_option maxHeartbeats 4000000 in
/-- Row.signed -/
theorem c_Rw_signed (l : Launch) (D : va_G) (cB cI cS : ClassId) (h0 hc : Nat) (f : Nat → Int32) (n : Nat) (k : Int32) (hn : n ≤ 8192) : mI l y_Rw_signed b_Rw_signed 3 (some .int) 1 D cls [(cB, .byte), (cI, .int), (cS, .object "MapLumps$Span")] [.ref h0, .int k] ([(h0, .inr (3, [.ref hc, .int (nI n)])), (hc, .inl (cB, 8192, .inl f))]) (rsg f n k) ([(h0, .inr (3, [.ref hc, .int (nI n)])), (hc, .inl (cB, 8192, .inl f))]) := by
  refine pz_openI (by decide) (Nat.le_of_ble_eq_true rfl) ?_
  intro p e s m below meth c A ls Q X hN hK hP hD hS hA hl fin
  obtain ⟨hx, hb, hml, hown, hts⟩ := id X
  have hl : lv_has ls 3 [(0, .ref h0), (1, .int k)] := hl
  refine lv_sipush (v := 256) hx hb d_Rw_signed_0 (by decide) ?_
  refine lv_aload_n hx hb d_Rw_signed_3 rfl (lv_at hl 0 rfl) ?_
  refine lv_iload_n hx hb d_Rw_signed_4 rfl (lv_at hl 1 rfl) ?_
  refine pz_i0 (pz_rV (d := 0) (As := [.int k]) (rest := [.int 256]) X hN (c_Rw_get l D cB cI cS h0 hc f n k hn _) k_Rw_get w_380 ⟨by decide, by decide⟩ hK hP hD [0, 1] rfl rfl 0 rfl rfl rfl rfl hl.1 rfl (Nat.le_of_ble_eq_true rfl) d_Rw_signed_5 ⟨Nat.zero_le _, Nat.zero_le _⟩) hP hD hS hA [0, 1] rfl (fun H locs hP hS => ?_)
  refine lv_imul hx hb d_Rw_signed_8 ?_
  refine lv_aload_n hx hb d_Rw_signed_9 rfl (lv_at hl 0 rfl) ?_
  refine lv_iload_n hx hb d_Rw_signed_10 rfl (lv_at hl 1 rfl) ?_
  refine lv_iconst (v := 1) hx hb d_Rw_signed_11 (by decide) ?_
  refine lv_iadd hx hb d_Rw_signed_12 ?_
  refine pz_i0 (pz_rV (d := 0) (As := [.int (k + 1)]) (rest := [.int (256 * (rg f n k))]) X hN (c_Rw_get l D cB cI cS h0 hc f n (k + 1) hn _) k_Rw_get w_380 ⟨by decide, by decide⟩ hK hP hD [0, 1] rfl rfl 0 rfl rfl rfl rfl hl.1 rfl (Nat.le_of_ble_eq_true rfl) d_Rw_signed_13 ⟨Nat.zero_le _, Nat.zero_le _⟩) hP hD hS hA [0, 1] rfl (fun H locs hP hS => ?_)
  refine lv_iadd hx hb d_Rw_signed_16 ?_
  refine lv_istore_n (lv' := [(2, .int ((256 * (rg f n k)) + (rg f n (k + 1)))), (0, .ref h0), (1, .int k)]) hx hb d_Rw_signed_17 rfl hl (by decide) rfl (fun ls hl => ?_)
  refine lv_iload_n hx hb d_Rw_signed_18 rfl (lv_at hl 0 rfl) ?_
  refine lv_sipush (v := 32767) hx hb d_Rw_signed_19 (by decide) ?_
  refine lv_icmp_le (tgt := 32) hx hb d_Rw_signed_22 (by decide) (fun c_1 => ?_) (fun c_1 => ?_)
  · refine lv_iload_n hx hb d_Rw_signed_32 rfl (lv_at hl 0 rfl) ?_
    exact fin _ _ _ _ _ _ d_Rw_signed_33 hP hS (by simp only [rsg, w16, if_pos c_1]) (rfl)
  · refine lv_iload_n hx hb d_Rw_signed_25 rfl (lv_at hl 0 rfl) ?_
    refine lv_ldc (v := 65536) hx hb hown (hts _ (w_381)) d_Rw_signed_26 ?_
    refine lv_isub hx hb d_Rw_signed_28 ?_
    refine lv_goto (tgt := 33) hx hb d_Rw_signed_29 (by decide) ?_
    exact fin _ _ _ _ _ _ d_Rw_signed_33 hP hS (by simp only [rsg, w16, if_neg c_1]) (rfl)

set_option maxRecDepth 100000 in
set_option maxHeartbeats 4000000 in
/-- Row.sums: 256 times the first sum, and the second -/
theorem c_Rw_sums (l : Launch) (D : va_G) (cB cI cS : ClassId) (h0 hc : Nat) (f : Nat → Int32) (n : Nat) (M : Nat) (hn : n ≤ 8192) (hM : M ≤ n) : mI l y_Rw_sums b_Rw_sums 5 (some .int) 0 D cls [(cB, .byte), (cI, .int), (cS, .object "MapLumps$Span")] [.ref h0, .int (nI M)] ([(h0, .inr (3, [.ref hc, .int (nI n)])), (hc, .inl (cB, 8192, .inl f))]) (256 * (sum2 f M).1 + (sum2 f M).2) ([(h0, .inr (3, [.ref hc, .int (nI n)])), (hc, .inl (cB, 8192, .inl f))]) := by
  refine pz_openI (by decide) (Nat.le_of_ble_eq_true rfl) ?_
  intro p e s m below meth c A ls Q X hN hK hP hD hS hA hl fin
  obtain ⟨hx, hb, hml, hown, hts⟩ := id X
  have hl : lv_has ls 5 [(0, .ref h0), (1, .int (nI M))] := hl
  refine lv_iconst (v := 0) hx hb d_Rw_sums_0 (by decide) ?_
  refine lv_istore_n (lv' := [(2, .int 0), (0, .ref h0), (1, .int (nI M))]) hx hb d_Rw_sums_1 rfl hl (by decide) rfl (fun ls hl => ?_)
  refine lv_iconst (v := 0) hx hb d_Rw_sums_2 (by decide) ?_
  refine lv_istore_n (lv' := [(3, .int 0), (2, .int 0), (0, .ref h0), (1, .int (nI M))]) hx hb d_Rw_sums_3 rfl hl (by decide) rfl (fun ls hl => ?_)
  refine lv_iconst (v := 0) hx hb d_Rw_sums_4 (by decide) ?_
  refine lv_istore (lv' := [(4, .int 0), (3, .int 0), (2, .int 0), (0, .ref h0), (1, .int (nI M))]) hx hb d_Rw_sums_5 hl (by decide) rfl (fun ls hl => ?_)
  have lp_1 : ∀ (j1 : Nat) (i : Nat) (ls : Array Slot) (H : Heap) (locs : List Loc), j1 + i = M → va_P D cls ([(h0, .inr (3, [.ref hc, .int (nI n)])), (hc, .inl (cB, 8192, .inl f))]) H → va_D A ([(h0, .inr (3, [.ref hc, .int (nI n)])), (hc, .inl (cB, 8192, .inl f))]) → va_S A s.heap H locs → lv_has ls 5 [(0, .ref h0), (1, .int (nI M)), (2, .int ((sum2 f i).1)), (3, .int ((sum2 f i).2)), (4, .int (nI i))] → W p l e (rmd 0) s m ([.ref h0, .int (nI M)] : List Value).toArray below meth c H locs 0 0 Q (F0 m 7 ls []) := by
    intro j1
    induction j1 with
    | zero =>
      intro i ls H locs hi hP hD hS hl
      refine lv_iload hx hb d_Rw_sums_7 (lv_at hl 4 rfl) ?_
      refine lv_iload_n hx hb d_Rw_sums_9 rfl (lv_at hl 1 rfl) ?_
      refine lv_icmp_ge (tgt := 54) hx hb d_Rw_sums_10 (by decide) (fun c_1 => ?_) (fun c_1 => ?_)
      · refine lv_sipush (v := 256) hx hb d_Rw_sums_54 (by decide) ?_
        refine lv_iload_n hx hb d_Rw_sums_57 rfl (lv_at hl 2 rfl) ?_
        refine lv_imul hx hb d_Rw_sums_58 ?_
        refine lv_iload_n hx hb d_Rw_sums_59 rfl (lv_at hl 3 rfl) ?_
        refine lv_iadd hx hb d_Rw_sums_60 ?_
        exact fin _ _ _ _ _ _ d_Rw_sums_61 hP hS (by rw [show i = M by omega]) (rfl)
      · exact (c_1 (by rw [nI_leI (by omega) (by omega)]; omega)).elim
    | succ j1 ih1 =>
      intro i ls H locs hi hP hD hS hl
      refine lv_iload hx hb d_Rw_sums_7 (lv_at hl 4 rfl) ?_
      refine lv_iload_n hx hb d_Rw_sums_9 rfl (lv_at hl 1 rfl) ?_
      refine lv_icmp_ge (tgt := 54) hx hb d_Rw_sums_10 (by decide) (fun c_2 => ?_) (fun c_2 => ?_)
      · exact absurd c_2 (by rw [nI_leI (by omega) (by omega)]; omega)
      · refine lv_iload hx hb d_Rw_sums_13 (lv_at hl 4 rfl) ?_
        refine lv_aload_n hx hb d_Rw_sums_15 rfl (lv_at hl 0 rfl) ?_
        refine va_get (D := D) (ci := 3) (v := .int (nI n)) (C := R_Rw) (T := T_Rw) (N := 2) hx hb hts i_Rw hown hK hP 0 rfl rfl 1 (by decide) (hts _ w_31) (fun _ h9 => h9) rfl d_Rw_sums_16 ?_
        refine lv_icmp_ge (tgt := 54) hx hb d_Rw_sums_19 (by decide) (fun c_3 => ?_) (fun c_3 => ?_)
        · exact absurd c_3 (by rw [nI_leI (by omega) (by omega)]; omega)
        · refine lv_iload_n hx hb d_Rw_sums_22 rfl (lv_at hl 2 rfl) ?_
          refine lv_aload_n hx hb d_Rw_sums_23 rfl (lv_at hl 0 rfl) ?_
          refine va_get (D := D) (ci := 3) (v := .ref hc) (C := R_Rw) (T := T_Rw) (N := 2) hx hb hts i_Rw hown hK hP 0 rfl rfl 0 (by decide) (hts _ w_30) (fun _ h9 => h9) rfl d_Rw_sums_24 ?_
          refine lv_iload hx hb d_Rw_sums_27 (lv_at hl 4 rfl) ?_
          refine va_bald hx hb hK hP 1 0 rfl rfl (in_n (by omega) (by decide)) d_Rw_sums_29 ?_
          rw [nI_clamp (show i < 2 ^ 31 by omega)]
          refine lv_sipush (v := 255) hx hb d_Rw_sums_30 (by decide) ?_
          refine lv_iand hx hb d_Rw_sums_33 ?_
          refine lv_iadd hx hb d_Rw_sums_34 ?_
          refine lv_sipush (v := 251) hx hb d_Rw_sums_35 (by decide) ?_
          refine lv_irem hx hb d_Rw_sums_38 (by decide) ?_
          refine lv_istore_n (lv' := [(2, .int ((((sum2 f i).1) + ((f i) &&& 255)) - (((sum2 f i).1) + ((f i) &&& 255)) / 251 * 251)), (0, .ref h0), (1, .int (nI M)), (3, .int ((sum2 f i).2)), (4, .int (nI i))]) hx hb d_Rw_sums_39 rfl hl (by decide) rfl (fun ls hl => ?_)
          refine lv_iload_n hx hb d_Rw_sums_40 rfl (lv_at hl 3 rfl) ?_
          refine lv_iload_n hx hb d_Rw_sums_41 rfl (lv_at hl 0 rfl) ?_
          refine lv_iadd hx hb d_Rw_sums_42 ?_
          refine lv_sipush (v := 251) hx hb d_Rw_sums_43 (by decide) ?_
          refine lv_irem hx hb d_Rw_sums_46 (by decide) ?_
          refine lv_istore_n (lv' := [(3, .int ((((sum2 f i).2) + ((((sum2 f i).1) + ((f i) &&& 255)) - (((sum2 f i).1) + ((f i) &&& 255)) / 251 * 251)) - (((sum2 f i).2) + ((((sum2 f i).1) + ((f i) &&& 255)) - (((sum2 f i).1) + ((f i) &&& 255)) / 251 * 251)) / 251 * 251)), (2, .int ((((sum2 f i).1) + ((f i) &&& 255)) - (((sum2 f i).1) + ((f i) &&& 255)) / 251 * 251)), (0, .ref h0), (1, .int (nI M)), (4, .int (nI i))]) hx hb d_Rw_sums_47 rfl hl (by decide) rfl (fun ls hl => ?_)
          refine lv_iinc (v := nI (i + 1)) (lv' := [(4, .int (nI (i + 1))), (3, .int ((((sum2 f i).2) + ((((sum2 f i).1) + ((f i) &&& 255)) - (((sum2 f i).1) + ((f i) &&& 255)) / 251 * 251)) - (((sum2 f i).2) + ((((sum2 f i).1) + ((f i) &&& 255)) - (((sum2 f i).1) + ((f i) &&& 255)) / 251 * 251)) / 251 * 251)), (2, .int ((((sum2 f i).1) + ((f i) &&& 255)) - (((sum2 f i).1) + ((f i) &&& 255)) / 251 * 251)), (0, .ref h0), (1, .int (nI M))]) hx hb d_Rw_sums_48 hl (k := 4) rfl (nI_1 i) (by decide) rfl (fun ls hl => ?_)
          refine lv_goto (tgt := 7) hx hb d_Rw_sums_51 (by decide) ?_
          exact ih1 (i + 1) _ _ _ (by omega) hP hD hS (lv_sub hl [3, 4, 2, 1, 0] rfl)
  exact lp_1 M 0 _ _ _ (by omega) hP hD hS (lv_sub hl [3, 4, 2, 1, 0] rfl)

set_option maxRecDepth 100000 in
set_option maxHeartbeats 4000000 in
/-- Row.copy: the other one's bytes -/
theorem c_Rw_copy (l : Launch) (D : va_G) (cB cI cS : ClassId) (h0 hc h1 hd : Nat) (f f2 : Nat → Int32) (n n2 : Nat) (hn : n2 ≤ 8192) (hf : sb_Fit f2) : mV l y_Rw_copy b_Rw_copy 2 (none) 1 D cls [(cB, .byte), (cI, .int), (cS, .object "MapLumps$Span")] [.ref h0, .ref h1] ([(h0, .inr (3, [.ref hc, .int (nI n)])), (hc, .inl (cB, 8192, .inl f)), (h1, .inr (3, [.ref hd, .int (nI n2)])), (hd, .inl (cB, 8192, .inl f2))]) ([(h0, .inr (3, [.ref hc, .int (nI n2)])), (hc, .inl (cB, 8192, .inl (va_cpy f2 f 0 0 n2))), (h1, .inr (3, [.ref hd, .int (nI n2)])), (hd, .inl (cB, 8192, .inl f2))]) := by
  refine pz_openV (by decide) (Nat.le_of_ble_eq_true rfl) ?_
  intro p e s m below meth c A ls Q X hN hK hP hD hS hA hl fin
  obtain ⟨hx, hb, hml, hown, hts⟩ := id X
  have hl : lv_has ls 2 [(0, .ref h0), (1, .ref h1)] := hl
  refine lv_aload_n hx hb d_Rw_copy_0 rfl (lv_at hl 1 rfl) ?_
  refine va_get (D := D) (ci := 3) (v := .ref hd) (C := R_Rw) (T := T_Rw) (N := 2) hx hb hts i_Rw hown hK hP 2 rfl rfl 0 (by decide) (hts _ w_30) (fun _ h9 => h9) rfl d_Rw_copy_1 ?_
  refine lv_iconst (v := 0) hx hb d_Rw_copy_4 (by decide) ?_
  refine lv_aload_n hx hb d_Rw_copy_5 rfl (lv_at hl 0 rfl) ?_
  refine va_get (D := D) (ci := 3) (v := .ref hc) (C := R_Rw) (T := T_Rw) (N := 2) hx hb hts i_Rw hown hK hP 0 rfl rfl 0 (by decide) (hts _ w_30) (fun _ h9 => h9) rfl d_Rw_copy_6 ?_
  refine lv_iconst (v := 0) hx hb d_Rw_copy_9 (by decide) ?_
  refine lv_aload_n hx hb d_Rw_copy_10 rfl (lv_at hl 1 rfl) ?_
  refine va_get (D := D) (ci := 3) (v := .int (nI n2)) (C := R_Rw) (T := T_Rw) (N := 2) hx hb hts i_Rw hown hK hP 2 rfl rfl 1 (by decide) (hts _ w_31) (fun _ h9 => h9) rfl d_Rw_copy_11 ?_
  refine va_copyi hx hb (hml.trans hl.1.symm) hown (hts _ w_340) (hts _ w_342) (hts _ w_341) (hts _ w_9) hK hP hD hS 3 1 0 0 rfl rfl rfl rfl rfl (by decide) (by decide) (nI_pos (show n2 < 2 ^ 31 by omega)) (by rw [nI_clamp (show n2 < 2 ^ 31 by omega)]; show 0 + n2 ≤ 8192; omega) (by rw [nI_clamp (show n2 < 2 ^ 31 by omega)]; show 0 + n2 ≤ 8192; omega) (fun i _ => hf _) (by decide) (Nat.le_of_ble_eq_true rfl) d_Rw_copy_14 (fun H locs hP hD hS => ?_)
  rw [nI_clamp (show n2 < 2 ^ 31 by omega)] at hP hD
  have hP : va_P D cls ([(h0, .inr (3, [.ref hc, .int (nI n)])), (hc, .inl (cB, 8192, .inl (va_cpy f2 f 0 0 n2))), (h1, .inr (3, [.ref hd, .int (nI n2)])), (hd, .inl (cB, 8192, .inl f2))]) H := hP
  have hD : va_D A ([(h0, .inr (3, [.ref hc, .int (nI n)])), (hc, .inl (cB, 8192, .inl (va_cpy f2 f 0 0 n2))), (h1, .inr (3, [.ref hd, .int (nI n2)])), (hd, .inl (cB, 8192, .inl f2))]) := hD
  refine lv_aload_n hx hb d_Rw_copy_17 rfl (lv_at hl 0 rfl) ?_
  refine lv_aload_n hx hb d_Rw_copy_18 rfl (lv_at hl 1 rfl) ?_
  refine va_get (D := D) (ci := 3) (v := .int (nI n2)) (C := R_Rw) (T := T_Rw) (N := 2) hx hb hts i_Rw hown hK hP 2 rfl rfl 1 (by decide) (hts _ w_31) (fun _ h9 => h9) rfl d_Rw_copy_19 ?_
  refine va_put (D := D) (ci := 3) (v := .int (nI n2)) (ty := (.int)) (C := R_Rw) (T := T_Rw) (N := 2) hx hb hts i_Rw ty_Rw tyok_Rw nm_Rw hown hK hP hD hS 0 rfl rfl 1 (by decide) (hts _ w_31) (fun _ h9 => h9) rfl (by decide +kernel) rfl rfl (Nat.le_of_ble_eq_true rfl) d_Rw_copy_22 (fun H locs hP hD hS => ?_)
  have hP : va_P D cls ([(h0, .inr (3, [.ref hc, .int (nI n2)])), (hc, .inl (cB, 8192, .inl (va_cpy f2 f 0 0 n2))), (h1, .inr (3, [.ref hd, .int (nI n2)])), (hd, .inl (cB, 8192, .inl f2))]) H := hP
  have hD : va_D A ([(h0, .inr (3, [.ref hc, .int (nI n2)])), (hc, .inl (cB, 8192, .inl (va_cpy f2 f 0 0 n2))), (h1, .inr (3, [.ref hd, .int (nI n2)])), (hd, .inl (cB, 8192, .inl f2))]) := hD
  exact fin _ _ _ _ _ d_Rw_copy_25 hP hS (rfl)
end
section
/-! THE CLASS's spans, as pure functions -/
def mnI (x y : Int32) : Int32 := if y < x then y else x
def mxI (x y : Int32) : Int32 := if x < y then y else x
/-- a span: from x, y to x, y -/
abbrev E4 : Type := Int32 × Int32 × Int32 × Int32
def trn (cx cy px py qx qy : Int32) : Int64 := (px - cx).toInt64 * (qy - cy).toInt64 - (py - cy).toInt64 * (qx - cx).toInt64
def sgn (x : Int64) : Int32 := ((x >>> ((63 : Int32).toInt64 &&& 63)) ||| ((-x).toUInt64 >>> ((63 : Int32).toInt64.toUInt64 &&& Int64.toUInt64 63)).toInt64).toInt32
def alg (cx cy px py qx qy : Int32) : Int64 := (px - cx).toInt64 * (qx - cx).toInt64 + (py - cy).toInt64 * (qy - cy).toInt64
def swy (cx cy px py qx qy : Int32) : Int32 := if lg_cmp (alg cx cy px py qx qy) 0 ≤ 0 then 0 else if lg_cmp (trn cx cy px py qx qy) 0 = 0 then 1 else 0
theorem swy_z (cx cy px py qx qy : Int32) : narrow .boolean (.int (swy cx cy px py qx qy)) = .int (swy cx cy px py qx qy) := by
  unfold swy
  split
  · rfl
  · split <;> rfl
def sid (a : E4) (x y : Int32) : Int32 := sgn (trn a.1 a.2.1 a.2.2.1 a.2.2.2 x y)
def lpt (a b : E4) : Int32 := if 0 < sid a b.1 b.2.1 * sid a b.2.2.1 b.2.2.2 then 0 else 1
def bxa (a b : E4) : Int32 := if mxI a.1 a.2.2.1 < mnI b.1 b.2.2.1 then 1 else if mxI b.1 b.2.2.1 < mnI a.1 a.2.2.1 then 1 else if mxI a.2.1 a.2.2.2 < mnI b.2.1 b.2.2.2 then 1 else if mnI a.2.1 a.2.2.2 ≤ mxI b.2.1 b.2.2.2 then 0 else 1
def mt5 (a b : E4) : Int32 := if lpt a b = 0 then 0 else if lpt b a = 0 then 0 else 1
def mt4 (a b : E4) : Int32 := if a.2.2.1 = b.2.2.1 then (if a.2.2.2 = b.2.2.2 then swy a.2.2.1 a.2.2.2 a.1 a.2.1 b.1 b.2.1 else mt5 a b) else mt5 a b
def mt3 (a b : E4) : Int32 := if a.2.2.1 = b.1 then (if a.2.2.2 = b.2.1 then swy a.2.2.1 a.2.2.2 a.1 a.2.1 b.2.2.1 b.2.2.2 else mt4 a b) else mt4 a b
def mt2 (a b : E4) : Int32 := if a.1 = b.2.2.1 then (if a.2.1 = b.2.2.2 then swy a.1 a.2.1 a.2.2.1 a.2.2.2 b.1 b.2.1 else mt3 a b) else mt3 a b
def mt1 (a b : E4) : Int32 := if a.1 = b.1 then (if a.2.1 = b.2.1 then swy a.1 a.2.1 a.2.2.1 a.2.2.2 b.2.2.1 b.2.2.2 else mt2 a b) else mt2 a b
/-- do the two spans meet? -/
def mts (a b : E4) : Int32 := if bxa a b = 0 then mt1 a b else 0
end
section
set_option maxRecDepth 100000 in
set_option maxHeartbeats 4000000 in
/-- Long.signum -/
theorem c_Jl_signum (l : Launch) (D : va_G) (cB cI cS : ClassId) (x : Int64)  : mI l y_Jl_signum b_Jl_signum 2 (some .int) 0 D cls [(cB, .byte), (cI, .int), (cS, .object "MapLumps$Span")] [.long x] ([]) (sgn x) ([]) := by
  refine pz_openI (by decide) (Nat.le_of_ble_eq_true rfl) ?_
  intro p e s m below meth c A ls Q X hN hK hP hD hS hA hl fin
  obtain ⟨hx, hb, hml, hown, hts⟩ := id X
  have hl : lv_has ls 2 [(0, .long x)] := hl
  refine lv_lload_n hx hb d_Jl_signum_0 rfl (lv_at hl 0 rfl) ?_
  refine lv_bipush (v := 63) hx hb d_Jl_signum_1 (by decide) ?_
  refine lv_lshr hx hb d_Jl_signum_3 rfl ?_
  refine lv_lload_n hx hb d_Jl_signum_4 rfl (lv_at hl 0 rfl) ?_
  refine lv_lneg hx hb d_Jl_signum_5 ?_
  refine lv_bipush (v := 63) hx hb d_Jl_signum_6 (by decide) ?_
  refine lv_lushr hx hb d_Jl_signum_8 rfl ?_
  refine lv_lor hx hb d_Jl_signum_9 ?_
  refine lv_l2i hx hb d_Jl_signum_10 rfl ?_
  exact fin _ _ _ _ _ _ d_Jl_signum_11 hP hS (rfl) (rfl)

set_option maxRecDepth 100000 in
set_option maxHeartbeats 4000000 in
/-- Span.turn -/
theorem c_Sp_turn (l : Launch) (D : va_G) (cB cI cS : ClassId) (cx cy px py qx qy : Int32)  : mL l y_Sp_turn b_Sp_turn 6 (some .long) 0 D cls [(cB, .byte), (cI, .int), (cS, .object "MapLumps$Span")] [.int cx, .int cy, .int px, .int py, .int qx, .int qy] ([]) (trn cx cy px py qx qy) ([]) := by
  refine pz_openL (by decide) (Nat.le_of_ble_eq_true rfl) ?_
  intro p e s m below meth c A ls Q X hN hK hP hD hS hA hl fin
  obtain ⟨hx, hb, hml, hown, hts⟩ := id X
  have hl : lv_has ls 6 [(0, .int cx), (1, .int cy), (2, .int px), (3, .int py), (4, .int qx), (5, .int qy)] := hl
  refine lv_iload_n hx hb d_Sp_turn_0 rfl (lv_at hl 2 rfl) ?_
  refine lv_iload_n hx hb d_Sp_turn_1 rfl (lv_at hl 0 rfl) ?_
  refine lv_isub hx hb d_Sp_turn_2 ?_
  refine lv_i2l hx hb d_Sp_turn_3 rfl ?_
  refine lv_iload hx hb d_Sp_turn_4 (lv_at hl 5 rfl) ?_
  refine lv_iload_n hx hb d_Sp_turn_6 rfl (lv_at hl 1 rfl) ?_
  refine lv_isub hx hb d_Sp_turn_7 ?_
  refine lv_i2l hx hb d_Sp_turn_8 rfl ?_
  refine lv_lmul hx hb d_Sp_turn_9 ?_
  refine lv_iload_n hx hb d_Sp_turn_10 rfl (lv_at hl 3 rfl) ?_
  refine lv_iload_n hx hb d_Sp_turn_11 rfl (lv_at hl 1 rfl) ?_
  refine lv_isub hx hb d_Sp_turn_12 ?_
  refine lv_i2l hx hb d_Sp_turn_13 rfl ?_
  refine lv_iload hx hb d_Sp_turn_14 (lv_at hl 4 rfl) ?_
  refine lv_iload_n hx hb d_Sp_turn_16 rfl (lv_at hl 0 rfl) ?_
  refine lv_isub hx hb d_Sp_turn_17 ?_
  refine lv_i2l hx hb d_Sp_turn_18 rfl ?_
  refine lv_lmul hx hb d_Sp_turn_19 ?_
  refine lv_lsub hx hb d_Sp_turn_20 ?_
  exact fin _ _ _ _ _ _ d_Sp_turn_21 hP hS (rfl) (rfl)

set_option maxRecDepth 100000 in
set_option maxHeartbeats 4000000 in
/-- Span.sameWay -/
theorem c_Sp_sameWay (l : Launch) (D : va_G) (cB cI cS : ClassId) (cx cy px py qx qy : Int32)  : mI l y_Sp_sameWay b_Sp_sameWay 8 (some .boolean) 1 D cls [(cB, .byte), (cI, .int), (cS, .object "MapLumps$Span")] [.int cx, .int cy, .int px, .int py, .int qx, .int qy] ([]) (swy cx cy px py qx qy) ([]) := by
  refine pz_openZ (by decide) (Nat.le_of_ble_eq_true rfl) ?_
  intro p e s m below meth c A ls Q X hN hK hP hD hS hA hl fin
  obtain ⟨hx, hb, hml, hown, hts⟩ := id X
  have hl : lv_has ls 8 [(0, .int cx), (1, .int cy), (2, .int px), (3, .int py), (4, .int qx), (5, .int qy)] := hl
  refine lv_iload_n hx hb d_Sp_sameWay_0 rfl (lv_at hl 2 rfl) ?_
  refine lv_iload_n hx hb d_Sp_sameWay_1 rfl (lv_at hl 0 rfl) ?_
  refine lv_isub hx hb d_Sp_sameWay_2 ?_
  refine lv_i2l hx hb d_Sp_sameWay_3 rfl ?_
  refine lv_iload hx hb d_Sp_sameWay_4 (lv_at hl 4 rfl) ?_
  refine lv_iload_n hx hb d_Sp_sameWay_6 rfl (lv_at hl 0 rfl) ?_
  refine lv_isub hx hb d_Sp_sameWay_7 ?_
  refine lv_i2l hx hb d_Sp_sameWay_8 rfl ?_
  refine lv_lmul hx hb d_Sp_sameWay_9 ?_
  refine lv_iload_n hx hb d_Sp_sameWay_10 rfl (lv_at hl 3 rfl) ?_
  refine lv_iload_n hx hb d_Sp_sameWay_11 rfl (lv_at hl 1 rfl) ?_
  refine lv_isub hx hb d_Sp_sameWay_12 ?_
  refine lv_i2l hx hb d_Sp_sameWay_13 rfl ?_
  refine lv_iload hx hb d_Sp_sameWay_14 (lv_at hl 5 rfl) ?_
  refine lv_iload_n hx hb d_Sp_sameWay_16 rfl (lv_at hl 1 rfl) ?_
  refine lv_isub hx hb d_Sp_sameWay_17 ?_
  refine lv_i2l hx hb d_Sp_sameWay_18 rfl ?_
  refine lv_lmul hx hb d_Sp_sameWay_19 ?_
  refine lv_ladd hx hb d_Sp_sameWay_20 ?_
  refine lv_lstore (lv' := [(6, .long ((((px - cx).toInt64) * ((qx - cx).toInt64)) + (((py - cy).toInt64) * ((qy - cy).toInt64)))), (0, .int cx), (1, .int cy), (2, .int px), (3, .int py), (4, .int qx), (5, .int qy)]) hx hb d_Sp_sameWay_21 hl (by decide) rfl (fun ls hl => ?_)
  refine lv_lload hx hb d_Sp_sameWay_23 (lv_at hl 0 rfl) ?_
  refine lv_lconst (v := 0) hx hb d_Sp_sameWay_25 (by decide) ?_
  refine W.lcmp hx hb d_Sp_sameWay_26 ?_
  refine lv_if_le (tgt := 50) hx hb d_Sp_sameWay_27 (by decide) (fun c_1 => ?_) (fun c_1 => ?_)
  · refine lv_iconst (v := 0) hx hb d_Sp_sameWay_50 (by decide) ?_
    exact fin _ _ _ _ _ _ d_Sp_sameWay_51 hP hS (by rw [swy, if_pos (show lg_cmp (alg cx cy px py qx qy) 0 ≤ 0 from c_1)]) (rfl) rfl
  · refine lv_iload_n hx hb d_Sp_sameWay_30 rfl (lv_at hl 1 rfl) ?_
    refine lv_iload_n hx hb d_Sp_sameWay_31 rfl (lv_at hl 2 rfl) ?_
    refine lv_iload_n hx hb d_Sp_sameWay_32 rfl (lv_at hl 3 rfl) ?_
    refine lv_iload_n hx hb d_Sp_sameWay_33 rfl (lv_at hl 4 rfl) ?_
    refine lv_iload hx hb d_Sp_sameWay_34 (lv_at hl 5 rfl) ?_
    refine lv_iload hx hb d_Sp_sameWay_36 (lv_at hl 6 rfl) ?_
    refine pz_l0 (pz_rS (d := 0) (As := [.int cx, .int cy, .int px, .int py, .int qx, .int qy]) (rest := []) X hN (c_Sp_turn l D cB cI cS cx cy px py qx qy _) k_Sp_turn w_318 ⟨by decide, by decide⟩ hK hP hD [] rfl rfl rfl hl.1 rfl (Nat.le_of_ble_eq_true rfl) d_Sp_sameWay_38 ⟨Nat.zero_le _, Nat.zero_le _⟩) hP hD hS hA [] rfl (fun H locs hP hS => ?_)
    refine lv_lconst (v := 0) hx hb d_Sp_sameWay_41 (by decide) ?_
    refine W.lcmp hx hb d_Sp_sameWay_42 ?_
    refine lv_if_ne (tgt := 50) hx hb d_Sp_sameWay_43 (by decide) (fun c_2 => ?_) (fun c_2 => ?_)
    · refine lv_iconst (v := 0) hx hb d_Sp_sameWay_50 (by decide) ?_
      exact fin _ _ _ _ _ _ d_Sp_sameWay_51 hP hS (by rw [swy, if_neg (show ¬ lg_cmp (alg cx cy px py qx qy) 0 ≤ 0 from c_1), if_neg c_2]) (rfl) rfl
    · refine lv_iconst (v := 1) hx hb d_Sp_sameWay_46 (by decide) ?_
      refine lv_goto (tgt := 51) hx hb d_Sp_sameWay_47 (by decide) ?_
      exact fin _ _ _ _ _ _ d_Sp_sameWay_51 hP hS (by rw [swy, if_neg (show ¬ lg_cmp (alg cx cy px py qx qy) 0 ≤ 0 from c_1), if_pos c_2]) (rfl) rfl

set_option maxRecDepth 100000 in
set_option maxHeartbeats 4000000 in
/-- Span.lay -/
theorem c_Sp_lay (l : Launch) (D : va_G) (cB cI cS : ClassId) (h0 : Nat) (a4 : E4) (x1 y1 x2 y2 : Int32)  : mV l y_Sp_lay b_Sp_lay 5 (none) 1 D cls [(cB, .byte), (cI, .int), (cS, .object "MapLumps$Span")] [.ref h0, .int x1, .int y1, .int x2, .int y2] ([(h0, .inr (4, [.int a4.1, .int a4.2.1, .int a4.2.2.1, .int a4.2.2.2, .int (mnI a4.1 a4.2.2.1), .int (mxI a4.1 a4.2.2.1), .int (mnI a4.2.1 a4.2.2.2), .int (mxI a4.2.1 a4.2.2.2)]))]) ([(h0, .inr (4, [.int x1, .int y1, .int x2, .int y2, .int (mnI x1 x2), .int (mxI x1 x2), .int (mnI y1 y2), .int (mxI y1 y2)]))]) := by
  refine pz_openV (by decide) (Nat.le_of_ble_eq_true rfl) ?_
  intro p e s m below meth c A ls Q X hN hK hP hD hS hA hl fin
  obtain ⟨hx, hb, hml, hown, hts⟩ := id X
  have hl : lv_has ls 5 [(0, .ref h0), (1, .int x1), (2, .int y1), (3, .int x2), (4, .int y2)] := hl
  refine lv_aload_n hx hb d_Sp_lay_0 rfl (lv_at hl 0 rfl) ?_
  refine lv_iload_n hx hb d_Sp_lay_1 rfl (lv_at hl 1 rfl) ?_
  refine va_put (D := D) (ci := 4) (v := .int x1) (ty := (.int)) (C := R_Sp) (T := T_Sp) (N := 8) hx hb hts i_Sp ty_Sp tyok_Sp nm_Sp hown hK hP hD hS 0 rfl rfl 0 (by decide) (hts _ w_47) (fun _ h9 => h9) rfl (by decide +kernel) rfl rfl (Nat.le_of_ble_eq_true rfl) d_Sp_lay_2 (fun H locs hP hD hS => ?_)
  have hP : va_P D cls ([(h0, .inr (4, [.int x1, .int a4.2.1, .int a4.2.2.1, .int a4.2.2.2, .int (mnI a4.1 a4.2.2.1), .int (mxI a4.1 a4.2.2.1), .int (mnI a4.2.1 a4.2.2.2), .int (mxI a4.2.1 a4.2.2.2)]))]) H := hP
  have hD : va_D A ([(h0, .inr (4, [.int x1, .int a4.2.1, .int a4.2.2.1, .int a4.2.2.2, .int (mnI a4.1 a4.2.2.1), .int (mxI a4.1 a4.2.2.1), .int (mnI a4.2.1 a4.2.2.2), .int (mxI a4.2.1 a4.2.2.2)]))]) := hD
  refine lv_aload_n hx hb d_Sp_lay_5 rfl (lv_at hl 0 rfl) ?_
  refine lv_iload_n hx hb d_Sp_lay_6 rfl (lv_at hl 2 rfl) ?_
  refine va_put (D := D) (ci := 4) (v := .int y1) (ty := (.int)) (C := R_Sp) (T := T_Sp) (N := 8) hx hb hts i_Sp ty_Sp tyok_Sp nm_Sp hown hK hP hD hS 0 rfl rfl 1 (by decide) (hts _ w_48) (fun _ h9 => h9) rfl (by decide +kernel) rfl rfl (Nat.le_of_ble_eq_true rfl) d_Sp_lay_7 (fun H locs hP hD hS => ?_)
  have hP : va_P D cls ([(h0, .inr (4, [.int x1, .int y1, .int a4.2.2.1, .int a4.2.2.2, .int (mnI a4.1 a4.2.2.1), .int (mxI a4.1 a4.2.2.1), .int (mnI a4.2.1 a4.2.2.2), .int (mxI a4.2.1 a4.2.2.2)]))]) H := hP
  have hD : va_D A ([(h0, .inr (4, [.int x1, .int y1, .int a4.2.2.1, .int a4.2.2.2, .int (mnI a4.1 a4.2.2.1), .int (mxI a4.1 a4.2.2.1), .int (mnI a4.2.1 a4.2.2.2), .int (mxI a4.2.1 a4.2.2.2)]))]) := hD
  refine lv_aload_n hx hb d_Sp_lay_10 rfl (lv_at hl 0 rfl) ?_
  refine lv_iload_n hx hb d_Sp_lay_11 rfl (lv_at hl 3 rfl) ?_
  refine va_put (D := D) (ci := 4) (v := .int x2) (ty := (.int)) (C := R_Sp) (T := T_Sp) (N := 8) hx hb hts i_Sp ty_Sp tyok_Sp nm_Sp hown hK hP hD hS 0 rfl rfl 2 (by decide) (hts _ w_49) (fun _ h9 => h9) rfl (by decide +kernel) rfl rfl (Nat.le_of_ble_eq_true rfl) d_Sp_lay_12 (fun H locs hP hD hS => ?_)
  have hP : va_P D cls ([(h0, .inr (4, [.int x1, .int y1, .int x2, .int a4.2.2.2, .int (mnI a4.1 a4.2.2.1), .int (mxI a4.1 a4.2.2.1), .int (mnI a4.2.1 a4.2.2.2), .int (mxI a4.2.1 a4.2.2.2)]))]) H := hP
  have hD : va_D A ([(h0, .inr (4, [.int x1, .int y1, .int x2, .int a4.2.2.2, .int (mnI a4.1 a4.2.2.1), .int (mxI a4.1 a4.2.2.1), .int (mnI a4.2.1 a4.2.2.2), .int (mxI a4.2.1 a4.2.2.2)]))]) := hD
  refine lv_aload_n hx hb d_Sp_lay_15 rfl (lv_at hl 0 rfl) ?_
  refine lv_iload hx hb d_Sp_lay_16 (lv_at hl 4 rfl) ?_
  refine va_put (D := D) (ci := 4) (v := .int y2) (ty := (.int)) (C := R_Sp) (T := T_Sp) (N := 8) hx hb hts i_Sp ty_Sp tyok_Sp nm_Sp hown hK hP hD hS 0 rfl rfl 3 (by decide) (hts _ w_50) (fun _ h9 => h9) rfl (by decide +kernel) rfl rfl (Nat.le_of_ble_eq_true rfl) d_Sp_lay_18 (fun H locs hP hD hS => ?_)
  have hP : va_P D cls ([(h0, .inr (4, [.int x1, .int y1, .int x2, .int y2, .int (mnI a4.1 a4.2.2.1), .int (mxI a4.1 a4.2.2.1), .int (mnI a4.2.1 a4.2.2.2), .int (mxI a4.2.1 a4.2.2.2)]))]) H := hP
  have hD : va_D A ([(h0, .inr (4, [.int x1, .int y1, .int x2, .int y2, .int (mnI a4.1 a4.2.2.1), .int (mxI a4.1 a4.2.2.1), .int (mnI a4.2.1 a4.2.2.2), .int (mxI a4.2.1 a4.2.2.2)]))]) := hD
  refine lv_aload_n hx hb d_Sp_lay_21 rfl (lv_at hl 0 rfl) ?_
  refine lv_aload_n hx hb d_Sp_lay_22 rfl (lv_at hl 0 rfl) ?_
  refine va_get (D := D) (ci := 4) (v := .int x1) (C := R_Sp) (T := T_Sp) (N := 8) hx hb hts i_Sp hown hK hP 0 rfl rfl 0 (by decide) (hts _ w_47) (fun _ h9 => h9) rfl d_Sp_lay_23 ?_
  refine lv_aload_n hx hb d_Sp_lay_26 rfl (lv_at hl 0 rfl) ?_
  refine va_get (D := D) (ci := 4) (v := .int x2) (C := R_Sp) (T := T_Sp) (N := 8) hx hb hts i_Sp hown hK hP 0 rfl rfl 2 (by decide) (hts _ w_49) (fun _ h9 => h9) rfl d_Sp_lay_27 ?_
  refine va_mmin hx hb (hml.trans hl.1.symm) hown (hts _ w_281) (hts _ w_282) (hts _ w_7) (hts _ w_283) (by decide) (Nat.le_of_ble_eq_true rfl) (Nat.zero_le _) (Nat.zero_le _) d_Sp_lay_30 ?_
  refine va_put (D := D) (ci := 4) (v := .int (mnI x1 x2)) (ty := (.int)) (C := R_Sp) (T := T_Sp) (N := 8) hx hb hts i_Sp ty_Sp tyok_Sp nm_Sp hown hK hP hD hS 0 rfl rfl 4 (by decide) (hts _ w_51) (fun _ h9 => h9) rfl (by decide +kernel) rfl rfl (Nat.le_of_ble_eq_true rfl) d_Sp_lay_33 (fun H locs hP hD hS => ?_)
  have hP : va_P D cls ([(h0, .inr (4, [.int x1, .int y1, .int x2, .int y2, .int (mnI x1 x2), .int (mxI a4.1 a4.2.2.1), .int (mnI a4.2.1 a4.2.2.2), .int (mxI a4.2.1 a4.2.2.2)]))]) H := hP
  have hD : va_D A ([(h0, .inr (4, [.int x1, .int y1, .int x2, .int y2, .int (mnI x1 x2), .int (mxI a4.1 a4.2.2.1), .int (mnI a4.2.1 a4.2.2.2), .int (mxI a4.2.1 a4.2.2.2)]))]) := hD
  refine lv_aload_n hx hb d_Sp_lay_36 rfl (lv_at hl 0 rfl) ?_
  refine lv_aload_n hx hb d_Sp_lay_37 rfl (lv_at hl 0 rfl) ?_
  refine va_get (D := D) (ci := 4) (v := .int x1) (C := R_Sp) (T := T_Sp) (N := 8) hx hb hts i_Sp hown hK hP 0 rfl rfl 0 (by decide) (hts _ w_47) (fun _ h9 => h9) rfl d_Sp_lay_38 ?_
  refine lv_aload_n hx hb d_Sp_lay_41 rfl (lv_at hl 0 rfl) ?_
  refine va_get (D := D) (ci := 4) (v := .int x2) (C := R_Sp) (T := T_Sp) (N := 8) hx hb hts i_Sp hown hK hP 0 rfl rfl 2 (by decide) (hts _ w_49) (fun _ h9 => h9) rfl d_Sp_lay_42 ?_
  refine va_mmax hx hb (hml.trans hl.1.symm) hown (hts _ w_284) (hts _ w_285) (hts _ w_7) (hts _ w_286) (by decide) (Nat.le_of_ble_eq_true rfl) (Nat.zero_le _) (Nat.zero_le _) d_Sp_lay_45 ?_
  refine va_put (D := D) (ci := 4) (v := .int (mxI x1 x2)) (ty := (.int)) (C := R_Sp) (T := T_Sp) (N := 8) hx hb hts i_Sp ty_Sp tyok_Sp nm_Sp hown hK hP hD hS 0 rfl rfl 5 (by decide) (hts _ w_52) (fun _ h9 => h9) rfl (by decide +kernel) rfl rfl (Nat.le_of_ble_eq_true rfl) d_Sp_lay_48 (fun H locs hP hD hS => ?_)
  have hP : va_P D cls ([(h0, .inr (4, [.int x1, .int y1, .int x2, .int y2, .int (mnI x1 x2), .int (mxI x1 x2), .int (mnI a4.2.1 a4.2.2.2), .int (mxI a4.2.1 a4.2.2.2)]))]) H := hP
  have hD : va_D A ([(h0, .inr (4, [.int x1, .int y1, .int x2, .int y2, .int (mnI x1 x2), .int (mxI x1 x2), .int (mnI a4.2.1 a4.2.2.2), .int (mxI a4.2.1 a4.2.2.2)]))]) := hD
  refine lv_aload_n hx hb d_Sp_lay_51 rfl (lv_at hl 0 rfl) ?_
  refine lv_aload_n hx hb d_Sp_lay_52 rfl (lv_at hl 0 rfl) ?_
  refine va_get (D := D) (ci := 4) (v := .int y1) (C := R_Sp) (T := T_Sp) (N := 8) hx hb hts i_Sp hown hK hP 0 rfl rfl 1 (by decide) (hts _ w_48) (fun _ h9 => h9) rfl d_Sp_lay_53 ?_
  refine lv_aload_n hx hb d_Sp_lay_56 rfl (lv_at hl 0 rfl) ?_
  refine va_get (D := D) (ci := 4) (v := .int y2) (C := R_Sp) (T := T_Sp) (N := 8) hx hb hts i_Sp hown hK hP 0 rfl rfl 3 (by decide) (hts _ w_50) (fun _ h9 => h9) rfl d_Sp_lay_57 ?_
  refine va_mmin hx hb (hml.trans hl.1.symm) hown (hts _ w_281) (hts _ w_282) (hts _ w_7) (hts _ w_283) (by decide) (Nat.le_of_ble_eq_true rfl) (Nat.zero_le _) (Nat.zero_le _) d_Sp_lay_60 ?_
  refine va_put (D := D) (ci := 4) (v := .int (mnI y1 y2)) (ty := (.int)) (C := R_Sp) (T := T_Sp) (N := 8) hx hb hts i_Sp ty_Sp tyok_Sp nm_Sp hown hK hP hD hS 0 rfl rfl 6 (by decide) (hts _ w_53) (fun _ h9 => h9) rfl (by decide +kernel) rfl rfl (Nat.le_of_ble_eq_true rfl) d_Sp_lay_63 (fun H locs hP hD hS => ?_)
  have hP : va_P D cls ([(h0, .inr (4, [.int x1, .int y1, .int x2, .int y2, .int (mnI x1 x2), .int (mxI x1 x2), .int (mnI y1 y2), .int (mxI a4.2.1 a4.2.2.2)]))]) H := hP
  have hD : va_D A ([(h0, .inr (4, [.int x1, .int y1, .int x2, .int y2, .int (mnI x1 x2), .int (mxI x1 x2), .int (mnI y1 y2), .int (mxI a4.2.1 a4.2.2.2)]))]) := hD
  refine lv_aload_n hx hb d_Sp_lay_66 rfl (lv_at hl 0 rfl) ?_
  refine lv_aload_n hx hb d_Sp_lay_67 rfl (lv_at hl 0 rfl) ?_
  refine va_get (D := D) (ci := 4) (v := .int y1) (C := R_Sp) (T := T_Sp) (N := 8) hx hb hts i_Sp hown hK hP 0 rfl rfl 1 (by decide) (hts _ w_48) (fun _ h9 => h9) rfl d_Sp_lay_68 ?_
  refine lv_aload_n hx hb d_Sp_lay_71 rfl (lv_at hl 0 rfl) ?_
  refine va_get (D := D) (ci := 4) (v := .int y2) (C := R_Sp) (T := T_Sp) (N := 8) hx hb hts i_Sp hown hK hP 0 rfl rfl 3 (by decide) (hts _ w_50) (fun _ h9 => h9) rfl d_Sp_lay_72 ?_
  refine va_mmax hx hb (hml.trans hl.1.symm) hown (hts _ w_284) (hts _ w_285) (hts _ w_7) (hts _ w_286) (by decide) (Nat.le_of_ble_eq_true rfl) (Nat.zero_le _) (Nat.zero_le _) d_Sp_lay_75 ?_
  refine va_put (D := D) (ci := 4) (v := .int (mxI y1 y2)) (ty := (.int)) (C := R_Sp) (T := T_Sp) (N := 8) hx hb hts i_Sp ty_Sp tyok_Sp nm_Sp hown hK hP hD hS 0 rfl rfl 7 (by decide) (hts _ w_54) (fun _ h9 => h9) rfl (by decide +kernel) rfl rfl (Nat.le_of_ble_eq_true rfl) d_Sp_lay_78 (fun H locs hP hD hS => ?_)
  have hP : va_P D cls ([(h0, .inr (4, [.int x1, .int y1, .int x2, .int y2, .int (mnI x1 x2), .int (mxI x1 x2), .int (mnI y1 y2), .int (mxI y1 y2)]))]) H := hP
  have hD : va_D A ([(h0, .inr (4, [.int x1, .int y1, .int x2, .int y2, .int (mnI x1 x2), .int (mxI x1 x2), .int (mnI y1 y2), .int (mxI y1 y2)]))]) := hD
  exact fin _ _ _ _ _ d_Sp_lay_81 hP hS (rfl)

set_option maxRecDepth 100000 in
set_option maxHeartbeats 4000000 in
/-- Span.side -/
theorem c_Sp_side (l : Launch) (D : va_G) (cB cI cS : ClassId) (h0 : Nat) (a4 : E4) (x y : Int32)  : mI l y_Sp_side b_Sp_side 3 (some .int) 1 D cls [(cB, .byte), (cI, .int), (cS, .object "MapLumps$Span")] [.ref h0, .int x, .int y] ([(h0, .inr (4, [.int a4.1, .int a4.2.1, .int a4.2.2.1, .int a4.2.2.2, .int (mnI a4.1 a4.2.2.1), .int (mxI a4.1 a4.2.2.1), .int (mnI a4.2.1 a4.2.2.2), .int (mxI a4.2.1 a4.2.2.2)]))]) (sid a4 x y) ([(h0, .inr (4, [.int a4.1, .int a4.2.1, .int a4.2.2.1, .int a4.2.2.2, .int (mnI a4.1 a4.2.2.1), .int (mxI a4.1 a4.2.2.1), .int (mnI a4.2.1 a4.2.2.2), .int (mxI a4.2.1 a4.2.2.2)]))]) := by
  refine pz_openI (by decide) (Nat.le_of_ble_eq_true rfl) ?_
  intro p e s m below meth c A ls Q X hN hK hP hD hS hA hl fin
  obtain ⟨hx, hb, hml, hown, hts⟩ := id X
  have hl : lv_has ls 3 [(0, .ref h0), (1, .int x), (2, .int y)] := hl
  refine lv_aload_n hx hb d_Sp_side_0 rfl (lv_at hl 0 rfl) ?_
  refine va_get (D := D) (ci := 4) (v := .int a4.1) (C := R_Sp) (T := T_Sp) (N := 8) hx hb hts i_Sp hown hK hP 0 rfl rfl 0 (by decide) (hts _ w_47) (fun _ h9 => h9) rfl d_Sp_side_1 ?_
  refine lv_aload_n hx hb d_Sp_side_4 rfl (lv_at hl 0 rfl) ?_
  refine va_get (D := D) (ci := 4) (v := .int a4.2.1) (C := R_Sp) (T := T_Sp) (N := 8) hx hb hts i_Sp hown hK hP 0 rfl rfl 1 (by decide) (hts _ w_48) (fun _ h9 => h9) rfl d_Sp_side_5 ?_
  refine lv_aload_n hx hb d_Sp_side_8 rfl (lv_at hl 0 rfl) ?_
  refine va_get (D := D) (ci := 4) (v := .int a4.2.2.1) (C := R_Sp) (T := T_Sp) (N := 8) hx hb hts i_Sp hown hK hP 0 rfl rfl 2 (by decide) (hts _ w_49) (fun _ h9 => h9) rfl d_Sp_side_9 ?_
  refine lv_aload_n hx hb d_Sp_side_12 rfl (lv_at hl 0 rfl) ?_
  refine va_get (D := D) (ci := 4) (v := .int a4.2.2.2) (C := R_Sp) (T := T_Sp) (N := 8) hx hb hts i_Sp hown hK hP 0 rfl rfl 3 (by decide) (hts _ w_50) (fun _ h9 => h9) rfl d_Sp_side_13 ?_
  refine lv_iload_n hx hb d_Sp_side_16 rfl (lv_at hl 1 rfl) ?_
  refine lv_iload_n hx hb d_Sp_side_17 rfl (lv_at hl 2 rfl) ?_
  refine pz_l0 (pz_rS (d := 0) (As := [.int a4.1, .int a4.2.1, .int a4.2.2.1, .int a4.2.2.2, .int x, .int y]) (rest := []) X hN (c_Sp_turn l D cB cI cS a4.1 a4.2.1 a4.2.2.1 a4.2.2.2 x y _) k_Sp_turn w_318 ⟨by decide, by decide⟩ hK hP hD [] rfl rfl rfl hl.1 rfl (Nat.le_of_ble_eq_true rfl) d_Sp_side_18 ⟨Nat.zero_le _, Nat.zero_le _⟩) hP hD hS hA [] rfl (fun H locs hP hS => ?_)
  refine pz_i0 (pz_rS (d := 0) (As := [.long (trn a4.1 a4.2.1 a4.2.2.1 a4.2.2.2 x y)]) (rest := []) X hN (c_Jl_signum l D cB cI cS (trn a4.1 a4.2.1 a4.2.2.1 a4.2.2.2 x y) _) k_Jl_signum w_329 ⟨by decide, by decide⟩ hK hP hD [] rfl rfl rfl hl.1 rfl (Nat.le_of_ble_eq_true rfl) d_Sp_side_21 ⟨Nat.zero_le _, Nat.zero_le _⟩) hP hD hS hA [] rfl (fun H locs hP hS => ?_)
  exact fin _ _ _ _ _ _ d_Sp_side_24 hP hS (rfl) (rfl)

set_option maxRecDepth 100000 in
set_option maxHeartbeats 4000000 in
/-- Span.boxesApart -/
theorem c_Sp_boxesApart (l : Launch) (D : va_G) (cB cI cS : ClassId) (h0 h1 : Nat) (a4 b4 : E4)  : mI l y_Sp_boxesApart b_Sp_boxesApart 2 (some .boolean) 0 D cls [(cB, .byte), (cI, .int), (cS, .object "MapLumps$Span")] [.ref h0, .ref h1] ([(h0, .inr (4, [.int a4.1, .int a4.2.1, .int a4.2.2.1, .int a4.2.2.2, .int (mnI a4.1 a4.2.2.1), .int (mxI a4.1 a4.2.2.1), .int (mnI a4.2.1 a4.2.2.2), .int (mxI a4.2.1 a4.2.2.2)])), (h1, .inr (4, [.int b4.1, .int b4.2.1, .int b4.2.2.1, .int b4.2.2.2, .int (mnI b4.1 b4.2.2.1), .int (mxI b4.1 b4.2.2.1), .int (mnI b4.2.1 b4.2.2.2), .int (mxI b4.2.1 b4.2.2.2)]))]) (bxa a4 b4) ([(h0, .inr (4, [.int a4.1, .int a4.2.1, .int a4.2.2.1, .int a4.2.2.2, .int (mnI a4.1 a4.2.2.1), .int (mxI a4.1 a4.2.2.1), .int (mnI a4.2.1 a4.2.2.2), .int (mxI a4.2.1 a4.2.2.2)])), (h1, .inr (4, [.int b4.1, .int b4.2.1, .int b4.2.2.1, .int b4.2.2.2, .int (mnI b4.1 b4.2.2.1), .int (mxI b4.1 b4.2.2.1), .int (mnI b4.2.1 b4.2.2.2), .int (mxI b4.2.1 b4.2.2.2)]))]) := by
  refine pz_openZ (by decide) (Nat.le_of_ble_eq_true rfl) ?_
  intro p e s m below meth c A ls Q X hN hK hP hD hS hA hl fin
  obtain ⟨hx, hb, hml, hown, hts⟩ := id X
  have hl : lv_has ls 2 [(0, .ref h0), (1, .ref h1)] := hl
  refine lv_aload_n hx hb d_Sp_boxesApart_0 rfl (lv_at hl 0 rfl) ?_
  refine va_get (D := D) (ci := 4) (v := .int (mxI a4.1 a4.2.2.1)) (C := R_Sp) (T := T_Sp) (N := 8) hx hb hts i_Sp hown hK hP 0 rfl rfl 5 (by decide) (hts _ w_52) (fun _ h9 => h9) rfl d_Sp_boxesApart_1 ?_
  refine lv_aload_n hx hb d_Sp_boxesApart_4 rfl (lv_at hl 1 rfl) ?_
  refine va_get (D := D) (ci := 4) (v := .int (mnI b4.1 b4.2.2.1)) (C := R_Sp) (T := T_Sp) (N := 8) hx hb hts i_Sp hown hK hP 1 rfl rfl 4 (by decide) (hts _ w_51) (fun _ h9 => h9) rfl d_Sp_boxesApart_5 ?_
  refine lv_icmp_lt (tgt := 44) hx hb d_Sp_boxesApart_8 (by decide) (fun c_1 => ?_) (fun c_1 => ?_)
  · refine lv_iconst (v := 1) hx hb d_Sp_boxesApart_44 (by decide) ?_
    refine lv_goto (tgt := 49) hx hb d_Sp_boxesApart_45 (by decide) ?_
    exact fin _ _ _ _ _ _ d_Sp_boxesApart_49 hP hS (by simp only [bxa, if_pos c_1]) (rfl) rfl
  · refine lv_aload_n hx hb d_Sp_boxesApart_11 rfl (lv_at hl 1 rfl) ?_
    refine va_get (D := D) (ci := 4) (v := .int (mxI b4.1 b4.2.2.1)) (C := R_Sp) (T := T_Sp) (N := 8) hx hb hts i_Sp hown hK hP 1 rfl rfl 5 (by decide) (hts _ w_52) (fun _ h9 => h9) rfl d_Sp_boxesApart_12 ?_
    refine lv_aload_n hx hb d_Sp_boxesApart_15 rfl (lv_at hl 0 rfl) ?_
    refine va_get (D := D) (ci := 4) (v := .int (mnI a4.1 a4.2.2.1)) (C := R_Sp) (T := T_Sp) (N := 8) hx hb hts i_Sp hown hK hP 0 rfl rfl 4 (by decide) (hts _ w_51) (fun _ h9 => h9) rfl d_Sp_boxesApart_16 ?_
    refine lv_icmp_lt (tgt := 44) hx hb d_Sp_boxesApart_19 (by decide) (fun c_2 => ?_) (fun c_2 => ?_)
    · refine lv_iconst (v := 1) hx hb d_Sp_boxesApart_44 (by decide) ?_
      refine lv_goto (tgt := 49) hx hb d_Sp_boxesApart_45 (by decide) ?_
      exact fin _ _ _ _ _ _ d_Sp_boxesApart_49 hP hS (by simp only [bxa, if_neg c_1, if_pos c_2]) (rfl) rfl
    · refine lv_aload_n hx hb d_Sp_boxesApart_22 rfl (lv_at hl 0 rfl) ?_
      refine va_get (D := D) (ci := 4) (v := .int (mxI a4.2.1 a4.2.2.2)) (C := R_Sp) (T := T_Sp) (N := 8) hx hb hts i_Sp hown hK hP 0 rfl rfl 7 (by decide) (hts _ w_54) (fun _ h9 => h9) rfl d_Sp_boxesApart_23 ?_
      refine lv_aload_n hx hb d_Sp_boxesApart_26 rfl (lv_at hl 1 rfl) ?_
      refine va_get (D := D) (ci := 4) (v := .int (mnI b4.2.1 b4.2.2.2)) (C := R_Sp) (T := T_Sp) (N := 8) hx hb hts i_Sp hown hK hP 1 rfl rfl 6 (by decide) (hts _ w_53) (fun _ h9 => h9) rfl d_Sp_boxesApart_27 ?_
      refine lv_icmp_lt (tgt := 44) hx hb d_Sp_boxesApart_30 (by decide) (fun c_3 => ?_) (fun c_3 => ?_)
      · refine lv_iconst (v := 1) hx hb d_Sp_boxesApart_44 (by decide) ?_
        refine lv_goto (tgt := 49) hx hb d_Sp_boxesApart_45 (by decide) ?_
        exact fin _ _ _ _ _ _ d_Sp_boxesApart_49 hP hS (by simp only [bxa, if_neg c_1, if_neg c_2, if_pos c_3]) (rfl) rfl
      · refine lv_aload_n hx hb d_Sp_boxesApart_33 rfl (lv_at hl 1 rfl) ?_
        refine va_get (D := D) (ci := 4) (v := .int (mxI b4.2.1 b4.2.2.2)) (C := R_Sp) (T := T_Sp) (N := 8) hx hb hts i_Sp hown hK hP 1 rfl rfl 7 (by decide) (hts _ w_54) (fun _ h9 => h9) rfl d_Sp_boxesApart_34 ?_
        refine lv_aload_n hx hb d_Sp_boxesApart_37 rfl (lv_at hl 0 rfl) ?_
        refine va_get (D := D) (ci := 4) (v := .int (mnI a4.2.1 a4.2.2.2)) (C := R_Sp) (T := T_Sp) (N := 8) hx hb hts i_Sp hown hK hP 0 rfl rfl 6 (by decide) (hts _ w_53) (fun _ h9 => h9) rfl d_Sp_boxesApart_38 ?_
        refine lv_icmp_ge (tgt := 48) hx hb d_Sp_boxesApart_41 (by decide) (fun c_4 => ?_) (fun c_4 => ?_)
        · refine lv_iconst (v := 0) hx hb d_Sp_boxesApart_48 (by decide) ?_
          exact fin _ _ _ _ _ _ d_Sp_boxesApart_49 hP hS (by simp only [bxa, if_neg c_1, if_neg c_2, if_neg c_3, if_pos c_4]) (rfl) rfl
        · refine lv_iconst (v := 1) hx hb d_Sp_boxesApart_44 (by decide) ?_
          refine lv_goto (tgt := 49) hx hb d_Sp_boxesApart_45 (by decide) ?_
          exact fin _ _ _ _ _ _ d_Sp_boxesApart_49 hP hS (by simp only [bxa, if_neg c_1, if_neg c_2, if_neg c_3, if_neg c_4]) (rfl) rfl

set_option maxRecDepth 100000 in
set_option maxHeartbeats 4000000 in
/-- Span.lineParts -/
theorem c_Sp_lineParts (l : Launch) (D : va_G) (cB cI cS : ClassId) (h0 h1 : Nat) (a4 b4 : E4)  : mI l y_Sp_lineParts b_Sp_lineParts 2 (some .boolean) 2 D cls [(cB, .byte), (cI, .int), (cS, .object "MapLumps$Span")] [.ref h0, .ref h1] ([(h0, .inr (4, [.int a4.1, .int a4.2.1, .int a4.2.2.1, .int a4.2.2.2, .int (mnI a4.1 a4.2.2.1), .int (mxI a4.1 a4.2.2.1), .int (mnI a4.2.1 a4.2.2.2), .int (mxI a4.2.1 a4.2.2.2)])), (h1, .inr (4, [.int b4.1, .int b4.2.1, .int b4.2.2.1, .int b4.2.2.2, .int (mnI b4.1 b4.2.2.1), .int (mxI b4.1 b4.2.2.1), .int (mnI b4.2.1 b4.2.2.2), .int (mxI b4.2.1 b4.2.2.2)]))]) (lpt a4 b4) ([(h0, .inr (4, [.int a4.1, .int a4.2.1, .int a4.2.2.1, .int a4.2.2.2, .int (mnI a4.1 a4.2.2.1), .int (mxI a4.1 a4.2.2.1), .int (mnI a4.2.1 a4.2.2.2), .int (mxI a4.2.1 a4.2.2.2)])), (h1, .inr (4, [.int b4.1, .int b4.2.1, .int b4.2.2.1, .int b4.2.2.2, .int (mnI b4.1 b4.2.2.1), .int (mxI b4.1 b4.2.2.1), .int (mnI b4.2.1 b4.2.2.2), .int (mxI b4.2.1 b4.2.2.2)]))]) := by
  refine pz_openZ (by decide) (Nat.le_of_ble_eq_true rfl) ?_
  intro p e s m below meth c A ls Q X hN hK hP hD hS hA hl fin
  obtain ⟨hx, hb, hml, hown, hts⟩ := id X
  have hl : lv_has ls 2 [(0, .ref h0), (1, .ref h1)] := hl
  refine lv_aload_n hx hb d_Sp_lineParts_0 rfl (lv_at hl 0 rfl) ?_
  refine lv_aload_n hx hb d_Sp_lineParts_1 rfl (lv_at hl 1 rfl) ?_
  refine va_get (D := D) (ci := 4) (v := .int b4.1) (C := R_Sp) (T := T_Sp) (N := 8) hx hb hts i_Sp hown hK hP 1 rfl rfl 0 (by decide) (hts _ w_47) (fun _ h9 => h9) rfl d_Sp_lineParts_2 ?_
  refine lv_aload_n hx hb d_Sp_lineParts_5 rfl (lv_at hl 1 rfl) ?_
  refine va_get (D := D) (ci := 4) (v := .int b4.2.1) (C := R_Sp) (T := T_Sp) (N := 8) hx hb hts i_Sp hown hK hP 1 rfl rfl 1 (by decide) (hts _ w_48) (fun _ h9 => h9) rfl d_Sp_lineParts_6 ?_
  refine pz_i0 (pz_rV (d := 1) (As := [.int b4.1, .int b4.2.1]) (rest := []) X hN (c_Sp_side l D cB cI cS h0 a4 b4.1 b4.2.1 _) k_Sp_side w_325 ⟨by decide, by decide⟩ hK hP hD [0] rfl rfl 0 rfl rfl rfl rfl hl.1 rfl (Nat.le_of_ble_eq_true rfl) d_Sp_lineParts_9 ⟨Nat.zero_le _, Nat.zero_le _⟩) hP hD hS hA [0] rfl (fun H locs hP hS => ?_)
  refine lv_aload_n hx hb d_Sp_lineParts_12 rfl (lv_at hl 0 rfl) ?_
  refine lv_aload_n hx hb d_Sp_lineParts_13 rfl (lv_at hl 1 rfl) ?_
  refine va_get (D := D) (ci := 4) (v := .int b4.2.2.1) (C := R_Sp) (T := T_Sp) (N := 8) hx hb hts i_Sp hown hK hP 1 rfl rfl 2 (by decide) (hts _ w_49) (fun _ h9 => h9) rfl d_Sp_lineParts_14 ?_
  refine lv_aload_n hx hb d_Sp_lineParts_17 rfl (lv_at hl 1 rfl) ?_
  refine va_get (D := D) (ci := 4) (v := .int b4.2.2.2) (C := R_Sp) (T := T_Sp) (N := 8) hx hb hts i_Sp hown hK hP 1 rfl rfl 3 (by decide) (hts _ w_50) (fun _ h9 => h9) rfl d_Sp_lineParts_18 ?_
  refine pz_i0 (pz_rV (d := 1) (As := [.int b4.2.2.1, .int b4.2.2.2]) (rest := [.int (sid a4 b4.1 b4.2.1)]) X hN (c_Sp_side l D cB cI cS h0 a4 b4.2.2.1 b4.2.2.2 _) k_Sp_side w_325 ⟨by decide, by decide⟩ hK hP hD [0] rfl rfl 0 rfl rfl rfl rfl hl.1 rfl (Nat.le_of_ble_eq_true rfl) d_Sp_lineParts_21 ⟨Nat.zero_le _, Nat.zero_le _⟩) hP hD hS hA [0] rfl (fun H locs hP hS => ?_)
  refine lv_imul hx hb d_Sp_lineParts_24 ?_
  refine lv_if_gt (tgt := 32) hx hb d_Sp_lineParts_25 (by decide) (fun c_1 => ?_) (fun c_1 => ?_)
  · refine lv_iconst (v := 0) hx hb d_Sp_lineParts_32 (by decide) ?_
    exact fin _ _ _ _ _ _ d_Sp_lineParts_33 hP hS (by simp only [lpt, if_pos c_1]) (rfl) rfl
  · refine lv_iconst (v := 1) hx hb d_Sp_lineParts_28 (by decide) ?_
    refine lv_goto (tgt := 33) hx hb d_Sp_lineParts_29 (by decide) ?_
    exact fin _ _ _ _ _ _ d_Sp_lineParts_33 hP hS (by simp only [lpt, if_neg c_1]) (rfl) rfl

set_option maxRecDepth 100000 in
set_option maxHeartbeats 4000000 in
/-- Span.meets -/
theorem c_Sp_meets (l : Launch) (D : va_G) (cB cI cS : ClassId) (h0 h1 : Nat) (a4 b4 : E4)  : mI l y_Sp_meets b_Sp_meets 2 (some .boolean) 3 D cls [(cB, .byte), (cI, .int), (cS, .object "MapLumps$Span")] [.ref h0, .ref h1] ([(h0, .inr (4, [.int a4.1, .int a4.2.1, .int a4.2.2.1, .int a4.2.2.2, .int (mnI a4.1 a4.2.2.1), .int (mxI a4.1 a4.2.2.1), .int (mnI a4.2.1 a4.2.2.2), .int (mxI a4.2.1 a4.2.2.2)])), (h1, .inr (4, [.int b4.1, .int b4.2.1, .int b4.2.2.1, .int b4.2.2.2, .int (mnI b4.1 b4.2.2.1), .int (mxI b4.1 b4.2.2.1), .int (mnI b4.2.1 b4.2.2.2), .int (mxI b4.2.1 b4.2.2.2)]))]) (mts a4 b4) ([(h0, .inr (4, [.int a4.1, .int a4.2.1, .int a4.2.2.1, .int a4.2.2.2, .int (mnI a4.1 a4.2.2.1), .int (mxI a4.1 a4.2.2.1), .int (mnI a4.2.1 a4.2.2.2), .int (mxI a4.2.1 a4.2.2.2)])), (h1, .inr (4, [.int b4.1, .int b4.2.1, .int b4.2.2.1, .int b4.2.2.2, .int (mnI b4.1 b4.2.2.1), .int (mxI b4.1 b4.2.2.1), .int (mnI b4.2.1 b4.2.2.2), .int (mxI b4.2.1 b4.2.2.2)]))]) := by
  refine pz_openZ (by decide) (Nat.le_of_ble_eq_true rfl) ?_
  intro p e s m below meth c A ls Q X hN hK hP hD hS hA hl fin
  obtain ⟨hx, hb, hml, hown, hts⟩ := id X
  have hl : lv_has ls 2 [(0, .ref h0), (1, .ref h1)] := hl
  refine lv_aload_n hx hb d_Sp_meets_0 rfl (lv_at hl 0 rfl) ?_
  refine lv_aload_n hx hb d_Sp_meets_1 rfl (lv_at hl 1 rfl) ?_
  refine pz_i0 (pz_rV (d := 0) (As := [.ref h1]) (rest := []) X hN (c_Sp_boxesApart l D cB cI cS h0 h1 a4 b4 _) k_Sp_boxesApart w_311 ⟨by decide, by decide⟩ hK hP hD [0, 1] rfl rfl 0 rfl rfl rfl rfl hl.1 rfl (Nat.le_of_ble_eq_true rfl) d_Sp_meets_2 ⟨Nat.zero_le _, Nat.zero_le _⟩) hP hD hS hA [0, 1] rfl (fun H locs hP hS => ?_)
  refine lv_if_eq (tgt := 10) hx hb d_Sp_meets_5 (by decide) (fun c_1 => ?_) (fun c_1 => ?_)
  · refine lv_aload_n hx hb d_Sp_meets_10 rfl (lv_at hl 0 rfl) ?_
    refine va_get (D := D) (ci := 4) (v := .int a4.1) (C := R_Sp) (T := T_Sp) (N := 8) hx hb hts i_Sp hown hK hP 0 rfl rfl 0 (by decide) (hts _ w_47) (fun _ h9 => h9) rfl d_Sp_meets_11 ?_
    refine lv_aload_n hx hb d_Sp_meets_14 rfl (lv_at hl 1 rfl) ?_
    refine va_get (D := D) (ci := 4) (v := .int b4.1) (C := R_Sp) (T := T_Sp) (N := 8) hx hb hts i_Sp hown hK hP 1 rfl rfl 0 (by decide) (hts _ w_47) (fun _ h9 => h9) rfl d_Sp_meets_15 ?_
    refine lv_icmp_ne (tgt := 60) hx hb d_Sp_meets_18 (by decide) (fun c_2 => ?_) (fun c_2 => ?_)
    · refine lv_aload_n hx hb d_Sp_meets_60 rfl (lv_at hl 0 rfl) ?_
      refine va_get (D := D) (ci := 4) (v := .int a4.1) (C := R_Sp) (T := T_Sp) (N := 8) hx hb hts i_Sp hown hK hP 0 rfl rfl 0 (by decide) (hts _ w_47) (fun _ h9 => h9) rfl d_Sp_meets_61 ?_
      refine lv_aload_n hx hb d_Sp_meets_64 rfl (lv_at hl 1 rfl) ?_
      refine va_get (D := D) (ci := 4) (v := .int b4.2.2.1) (C := R_Sp) (T := T_Sp) (N := 8) hx hb hts i_Sp hown hK hP 1 rfl rfl 2 (by decide) (hts _ w_49) (fun _ h9 => h9) rfl d_Sp_meets_65 ?_
      refine lv_icmp_ne (tgt := 110) hx hb d_Sp_meets_68 (by decide) (fun c_3 => ?_) (fun c_3 => ?_)
      · refine lv_aload_n hx hb d_Sp_meets_110 rfl (lv_at hl 0 rfl) ?_
        refine va_get (D := D) (ci := 4) (v := .int a4.2.2.1) (C := R_Sp) (T := T_Sp) (N := 8) hx hb hts i_Sp hown hK hP 0 rfl rfl 2 (by decide) (hts _ w_49) (fun _ h9 => h9) rfl d_Sp_meets_111 ?_
        refine lv_aload_n hx hb d_Sp_meets_114 rfl (lv_at hl 1 rfl) ?_
        refine va_get (D := D) (ci := 4) (v := .int b4.1) (C := R_Sp) (T := T_Sp) (N := 8) hx hb hts i_Sp hown hK hP 1 rfl rfl 0 (by decide) (hts _ w_47) (fun _ h9 => h9) rfl d_Sp_meets_115 ?_
        refine lv_icmp_ne (tgt := 160) hx hb d_Sp_meets_118 (by decide) (fun c_4 => ?_) (fun c_4 => ?_)
        · refine lv_aload_n hx hb d_Sp_meets_160 rfl (lv_at hl 0 rfl) ?_
          refine va_get (D := D) (ci := 4) (v := .int a4.2.2.1) (C := R_Sp) (T := T_Sp) (N := 8) hx hb hts i_Sp hown hK hP 0 rfl rfl 2 (by decide) (hts _ w_49) (fun _ h9 => h9) rfl d_Sp_meets_161 ?_
          refine lv_aload_n hx hb d_Sp_meets_164 rfl (lv_at hl 1 rfl) ?_
          refine va_get (D := D) (ci := 4) (v := .int b4.2.2.1) (C := R_Sp) (T := T_Sp) (N := 8) hx hb hts i_Sp hown hK hP 1 rfl rfl 2 (by decide) (hts _ w_49) (fun _ h9 => h9) rfl d_Sp_meets_165 ?_
          refine lv_icmp_ne (tgt := 210) hx hb d_Sp_meets_168 (by decide) (fun c_5 => ?_) (fun c_5 => ?_)
          · refine lv_aload_n hx hb d_Sp_meets_210 rfl (lv_at hl 0 rfl) ?_
            refine lv_aload_n hx hb d_Sp_meets_211 rfl (lv_at hl 1 rfl) ?_
            refine pz_i0 (pz_rV (d := 2) (As := [.ref h1]) (rest := []) X hN (c_Sp_lineParts l D cB cI cS h0 h1 a4 b4 _) k_Sp_lineParts w_321 ⟨by decide, by decide⟩ hK hP hD [0, 1] rfl rfl 0 rfl rfl rfl rfl hl.1 rfl (Nat.le_of_ble_eq_true rfl) d_Sp_meets_212 ⟨Nat.zero_le _, Nat.zero_le _⟩) hP hD hS hA [0, 1] rfl (fun H locs hP hS => ?_)
            refine lv_if_eq (tgt := 230) hx hb d_Sp_meets_215 (by decide) (fun c_6 => ?_) (fun c_6 => ?_)
            · refine lv_iconst (v := 0) hx hb d_Sp_meets_230 (by decide) ?_
              exact fin _ _ _ _ _ _ d_Sp_meets_231 hP hS (by simp only [mts, mt1, mt2, mt3, mt4, mt5, if_pos c_1, if_neg c_2, if_neg c_3, if_neg c_4, if_neg c_5, if_pos c_6]) (rfl) rfl
            · refine lv_aload_n hx hb d_Sp_meets_218 rfl (lv_at hl 1 rfl) ?_
              refine lv_aload_n hx hb d_Sp_meets_219 rfl (lv_at hl 0 rfl) ?_
              refine pz_i0 (pz_rV (d := 2) (As := [.ref h0]) (rest := []) X hN (c_Sp_lineParts l D cB cI cS h1 h0 b4 a4 _) k_Sp_lineParts w_321 ⟨by decide, by decide⟩ hK hP hD [1, 0] rfl rfl 1 rfl rfl rfl rfl hl.1 rfl (Nat.le_of_ble_eq_true rfl) d_Sp_meets_220 ⟨Nat.zero_le _, Nat.zero_le _⟩) hP hD hS hA [1, 0] rfl (fun H locs hP hS => ?_)
              refine lv_if_eq (tgt := 230) hx hb d_Sp_meets_223 (by decide) (fun c_7 => ?_) (fun c_7 => ?_)
              · refine lv_iconst (v := 0) hx hb d_Sp_meets_230 (by decide) ?_
                exact fin _ _ _ _ _ _ d_Sp_meets_231 hP hS (by simp only [mts, mt1, mt2, mt3, mt4, mt5, if_pos c_1, if_neg c_2, if_neg c_3, if_neg c_4, if_neg c_5, if_neg c_6, if_pos c_7]) (rfl) rfl
              · refine lv_iconst (v := 1) hx hb d_Sp_meets_226 (by decide) ?_
                refine lv_goto (tgt := 231) hx hb d_Sp_meets_227 (by decide) ?_
                exact fin _ _ _ _ _ _ d_Sp_meets_231 hP hS (by simp only [mts, mt1, mt2, mt3, mt4, mt5, if_pos c_1, if_neg c_2, if_neg c_3, if_neg c_4, if_neg c_5, if_neg c_6, if_neg c_7]) (rfl) rfl
          · refine lv_aload_n hx hb d_Sp_meets_171 rfl (lv_at hl 0 rfl) ?_
            refine va_get (D := D) (ci := 4) (v := .int a4.2.2.2) (C := R_Sp) (T := T_Sp) (N := 8) hx hb hts i_Sp hown hK hP 0 rfl rfl 3 (by decide) (hts _ w_50) (fun _ h9 => h9) rfl d_Sp_meets_172 ?_
            refine lv_aload_n hx hb d_Sp_meets_175 rfl (lv_at hl 1 rfl) ?_
            refine va_get (D := D) (ci := 4) (v := .int b4.2.2.2) (C := R_Sp) (T := T_Sp) (N := 8) hx hb hts i_Sp hown hK hP 1 rfl rfl 3 (by decide) (hts _ w_50) (fun _ h9 => h9) rfl d_Sp_meets_176 ?_
            refine lv_icmp_ne (tgt := 210) hx hb d_Sp_meets_179 (by decide) (fun c_8 => ?_) (fun c_8 => ?_)
            · refine lv_aload_n hx hb d_Sp_meets_210 rfl (lv_at hl 0 rfl) ?_
              refine lv_aload_n hx hb d_Sp_meets_211 rfl (lv_at hl 1 rfl) ?_
              refine pz_i0 (pz_rV (d := 2) (As := [.ref h1]) (rest := []) X hN (c_Sp_lineParts l D cB cI cS h0 h1 a4 b4 _) k_Sp_lineParts w_321 ⟨by decide, by decide⟩ hK hP hD [0, 1] rfl rfl 0 rfl rfl rfl rfl hl.1 rfl (Nat.le_of_ble_eq_true rfl) d_Sp_meets_212 ⟨Nat.zero_le _, Nat.zero_le _⟩) hP hD hS hA [0, 1] rfl (fun H locs hP hS => ?_)
              refine lv_if_eq (tgt := 230) hx hb d_Sp_meets_215 (by decide) (fun c_9 => ?_) (fun c_9 => ?_)
              · refine lv_iconst (v := 0) hx hb d_Sp_meets_230 (by decide) ?_
                exact fin _ _ _ _ _ _ d_Sp_meets_231 hP hS (by simp only [mts, mt1, mt2, mt3, mt4, mt5, if_pos c_1, if_neg c_2, if_neg c_3, if_neg c_4, if_pos c_5, if_neg c_8, if_pos c_9]) (rfl) rfl
              · refine lv_aload_n hx hb d_Sp_meets_218 rfl (lv_at hl 1 rfl) ?_
                refine lv_aload_n hx hb d_Sp_meets_219 rfl (lv_at hl 0 rfl) ?_
                refine pz_i0 (pz_rV (d := 2) (As := [.ref h0]) (rest := []) X hN (c_Sp_lineParts l D cB cI cS h1 h0 b4 a4 _) k_Sp_lineParts w_321 ⟨by decide, by decide⟩ hK hP hD [1, 0] rfl rfl 1 rfl rfl rfl rfl hl.1 rfl (Nat.le_of_ble_eq_true rfl) d_Sp_meets_220 ⟨Nat.zero_le _, Nat.zero_le _⟩) hP hD hS hA [1, 0] rfl (fun H locs hP hS => ?_)
                refine lv_if_eq (tgt := 230) hx hb d_Sp_meets_223 (by decide) (fun c_10 => ?_) (fun c_10 => ?_)
                · refine lv_iconst (v := 0) hx hb d_Sp_meets_230 (by decide) ?_
                  exact fin _ _ _ _ _ _ d_Sp_meets_231 hP hS (by simp only [mts, mt1, mt2, mt3, mt4, mt5, if_pos c_1, if_neg c_2, if_neg c_3, if_neg c_4, if_pos c_5, if_neg c_8, if_neg c_9, if_pos c_10]) (rfl) rfl
                · refine lv_iconst (v := 1) hx hb d_Sp_meets_226 (by decide) ?_
                  refine lv_goto (tgt := 231) hx hb d_Sp_meets_227 (by decide) ?_
                  exact fin _ _ _ _ _ _ d_Sp_meets_231 hP hS (by simp only [mts, mt1, mt2, mt3, mt4, mt5, if_pos c_1, if_neg c_2, if_neg c_3, if_neg c_4, if_pos c_5, if_neg c_8, if_neg c_9, if_neg c_10]) (rfl) rfl
            · refine lv_aload_n hx hb d_Sp_meets_182 rfl (lv_at hl 0 rfl) ?_
              refine va_get (D := D) (ci := 4) (v := .int a4.2.2.1) (C := R_Sp) (T := T_Sp) (N := 8) hx hb hts i_Sp hown hK hP 0 rfl rfl 2 (by decide) (hts _ w_49) (fun _ h9 => h9) rfl d_Sp_meets_183 ?_
              refine lv_aload_n hx hb d_Sp_meets_186 rfl (lv_at hl 0 rfl) ?_
              refine va_get (D := D) (ci := 4) (v := .int a4.2.2.2) (C := R_Sp) (T := T_Sp) (N := 8) hx hb hts i_Sp hown hK hP 0 rfl rfl 3 (by decide) (hts _ w_50) (fun _ h9 => h9) rfl d_Sp_meets_187 ?_
              refine lv_aload_n hx hb d_Sp_meets_190 rfl (lv_at hl 0 rfl) ?_
              refine va_get (D := D) (ci := 4) (v := .int a4.1) (C := R_Sp) (T := T_Sp) (N := 8) hx hb hts i_Sp hown hK hP 0 rfl rfl 0 (by decide) (hts _ w_47) (fun _ h9 => h9) rfl d_Sp_meets_191 ?_
              refine lv_aload_n hx hb d_Sp_meets_194 rfl (lv_at hl 0 rfl) ?_
              refine va_get (D := D) (ci := 4) (v := .int a4.2.1) (C := R_Sp) (T := T_Sp) (N := 8) hx hb hts i_Sp hown hK hP 0 rfl rfl 1 (by decide) (hts _ w_48) (fun _ h9 => h9) rfl d_Sp_meets_195 ?_
              refine lv_aload_n hx hb d_Sp_meets_198 rfl (lv_at hl 1 rfl) ?_
              refine va_get (D := D) (ci := 4) (v := .int b4.1) (C := R_Sp) (T := T_Sp) (N := 8) hx hb hts i_Sp hown hK hP 1 rfl rfl 0 (by decide) (hts _ w_47) (fun _ h9 => h9) rfl d_Sp_meets_199 ?_
              refine lv_aload_n hx hb d_Sp_meets_202 rfl (lv_at hl 1 rfl) ?_
              refine va_get (D := D) (ci := 4) (v := .int b4.2.1) (C := R_Sp) (T := T_Sp) (N := 8) hx hb hts i_Sp hown hK hP 1 rfl rfl 1 (by decide) (hts _ w_48) (fun _ h9 => h9) rfl d_Sp_meets_203 ?_
              refine pz_i0 (pz_rS (d := 1) (As := [.int a4.2.2.1, .int a4.2.2.2, .int a4.1, .int a4.2.1, .int b4.1, .int b4.2.1]) (rest := []) X hN (c_Sp_sameWay l D cB cI cS a4.2.2.1 a4.2.2.2 a4.1 a4.2.1 b4.1 b4.2.1 _) k_Sp_sameWay w_315 ⟨by decide, by decide⟩ hK hP hD [] rfl rfl rfl hl.1 rfl (Nat.le_of_ble_eq_true rfl) d_Sp_meets_206 ⟨Nat.zero_le _, Nat.zero_le _⟩) hP hD hS hA [] rfl (fun H locs hP hS => ?_)
              exact fin _ _ _ _ _ _ d_Sp_meets_209 hP hS (by simp only [mts, mt1, mt2, mt3, mt4, mt5, if_pos c_1, if_neg c_2, if_neg c_3, if_neg c_4, if_pos c_5, if_pos c_8]) (rfl) (swy_z _ _ _ _ _ _)
        · refine lv_aload_n hx hb d_Sp_meets_121 rfl (lv_at hl 0 rfl) ?_
          refine va_get (D := D) (ci := 4) (v := .int a4.2.2.2) (C := R_Sp) (T := T_Sp) (N := 8) hx hb hts i_Sp hown hK hP 0 rfl rfl 3 (by decide) (hts _ w_50) (fun _ h9 => h9) rfl d_Sp_meets_122 ?_
          refine lv_aload_n hx hb d_Sp_meets_125 rfl (lv_at hl 1 rfl) ?_
          refine va_get (D := D) (ci := 4) (v := .int b4.2.1) (C := R_Sp) (T := T_Sp) (N := 8) hx hb hts i_Sp hown hK hP 1 rfl rfl 1 (by decide) (hts _ w_48) (fun _ h9 => h9) rfl d_Sp_meets_126 ?_
          refine lv_icmp_ne (tgt := 160) hx hb d_Sp_meets_129 (by decide) (fun c_11 => ?_) (fun c_11 => ?_)
          · refine lv_aload_n hx hb d_Sp_meets_160 rfl (lv_at hl 0 rfl) ?_
            refine va_get (D := D) (ci := 4) (v := .int a4.2.2.1) (C := R_Sp) (T := T_Sp) (N := 8) hx hb hts i_Sp hown hK hP 0 rfl rfl 2 (by decide) (hts _ w_49) (fun _ h9 => h9) rfl d_Sp_meets_161 ?_
            refine lv_aload_n hx hb d_Sp_meets_164 rfl (lv_at hl 1 rfl) ?_
            refine va_get (D := D) (ci := 4) (v := .int b4.2.2.1) (C := R_Sp) (T := T_Sp) (N := 8) hx hb hts i_Sp hown hK hP 1 rfl rfl 2 (by decide) (hts _ w_49) (fun _ h9 => h9) rfl d_Sp_meets_165 ?_
            refine lv_icmp_ne (tgt := 210) hx hb d_Sp_meets_168 (by decide) (fun c_12 => ?_) (fun c_12 => ?_)
            · refine lv_aload_n hx hb d_Sp_meets_210 rfl (lv_at hl 0 rfl) ?_
              refine lv_aload_n hx hb d_Sp_meets_211 rfl (lv_at hl 1 rfl) ?_
              refine pz_i0 (pz_rV (d := 2) (As := [.ref h1]) (rest := []) X hN (c_Sp_lineParts l D cB cI cS h0 h1 a4 b4 _) k_Sp_lineParts w_321 ⟨by decide, by decide⟩ hK hP hD [0, 1] rfl rfl 0 rfl rfl rfl rfl hl.1 rfl (Nat.le_of_ble_eq_true rfl) d_Sp_meets_212 ⟨Nat.zero_le _, Nat.zero_le _⟩) hP hD hS hA [0, 1] rfl (fun H locs hP hS => ?_)
              refine lv_if_eq (tgt := 230) hx hb d_Sp_meets_215 (by decide) (fun c_13 => ?_) (fun c_13 => ?_)
              · refine lv_iconst (v := 0) hx hb d_Sp_meets_230 (by decide) ?_
                exact fin _ _ _ _ _ _ d_Sp_meets_231 hP hS (by simp only [mts, mt1, mt2, mt3, mt4, mt5, if_pos c_1, if_neg c_2, if_neg c_3, if_pos c_4, if_neg c_11, if_neg c_12, if_pos c_13]) (rfl) rfl
              · refine lv_aload_n hx hb d_Sp_meets_218 rfl (lv_at hl 1 rfl) ?_
                refine lv_aload_n hx hb d_Sp_meets_219 rfl (lv_at hl 0 rfl) ?_
                refine pz_i0 (pz_rV (d := 2) (As := [.ref h0]) (rest := []) X hN (c_Sp_lineParts l D cB cI cS h1 h0 b4 a4 _) k_Sp_lineParts w_321 ⟨by decide, by decide⟩ hK hP hD [1, 0] rfl rfl 1 rfl rfl rfl rfl hl.1 rfl (Nat.le_of_ble_eq_true rfl) d_Sp_meets_220 ⟨Nat.zero_le _, Nat.zero_le _⟩) hP hD hS hA [1, 0] rfl (fun H locs hP hS => ?_)
                refine lv_if_eq (tgt := 230) hx hb d_Sp_meets_223 (by decide) (fun c_14 => ?_) (fun c_14 => ?_)
                · refine lv_iconst (v := 0) hx hb d_Sp_meets_230 (by decide) ?_
                  exact fin _ _ _ _ _ _ d_Sp_meets_231 hP hS (by simp only [mts, mt1, mt2, mt3, mt4, mt5, if_pos c_1, if_neg c_2, if_neg c_3, if_pos c_4, if_neg c_11, if_neg c_12, if_neg c_13, if_pos c_14]) (rfl) rfl
                · refine lv_iconst (v := 1) hx hb d_Sp_meets_226 (by decide) ?_
                  refine lv_goto (tgt := 231) hx hb d_Sp_meets_227 (by decide) ?_
                  exact fin _ _ _ _ _ _ d_Sp_meets_231 hP hS (by simp only [mts, mt1, mt2, mt3, mt4, mt5, if_pos c_1, if_neg c_2, if_neg c_3, if_pos c_4, if_neg c_11, if_neg c_12, if_neg c_13, if_neg c_14]) (rfl) rfl
            · refine lv_aload_n hx hb d_Sp_meets_171 rfl (lv_at hl 0 rfl) ?_
              refine va_get (D := D) (ci := 4) (v := .int a4.2.2.2) (C := R_Sp) (T := T_Sp) (N := 8) hx hb hts i_Sp hown hK hP 0 rfl rfl 3 (by decide) (hts _ w_50) (fun _ h9 => h9) rfl d_Sp_meets_172 ?_
              refine lv_aload_n hx hb d_Sp_meets_175 rfl (lv_at hl 1 rfl) ?_
              refine va_get (D := D) (ci := 4) (v := .int b4.2.2.2) (C := R_Sp) (T := T_Sp) (N := 8) hx hb hts i_Sp hown hK hP 1 rfl rfl 3 (by decide) (hts _ w_50) (fun _ h9 => h9) rfl d_Sp_meets_176 ?_
              refine lv_icmp_ne (tgt := 210) hx hb d_Sp_meets_179 (by decide) (fun c_15 => ?_) (fun c_15 => ?_)
              · refine lv_aload_n hx hb d_Sp_meets_210 rfl (lv_at hl 0 rfl) ?_
                refine lv_aload_n hx hb d_Sp_meets_211 rfl (lv_at hl 1 rfl) ?_
                refine pz_i0 (pz_rV (d := 2) (As := [.ref h1]) (rest := []) X hN (c_Sp_lineParts l D cB cI cS h0 h1 a4 b4 _) k_Sp_lineParts w_321 ⟨by decide, by decide⟩ hK hP hD [0, 1] rfl rfl 0 rfl rfl rfl rfl hl.1 rfl (Nat.le_of_ble_eq_true rfl) d_Sp_meets_212 ⟨Nat.zero_le _, Nat.zero_le _⟩) hP hD hS hA [0, 1] rfl (fun H locs hP hS => ?_)
                refine lv_if_eq (tgt := 230) hx hb d_Sp_meets_215 (by decide) (fun c_16 => ?_) (fun c_16 => ?_)
                · refine lv_iconst (v := 0) hx hb d_Sp_meets_230 (by decide) ?_
                  exact fin _ _ _ _ _ _ d_Sp_meets_231 hP hS (by simp only [mts, mt1, mt2, mt3, mt4, mt5, if_pos c_1, if_neg c_2, if_neg c_3, if_pos c_4, if_neg c_11, if_pos c_12, if_neg c_15, if_pos c_16]) (rfl) rfl
                · refine lv_aload_n hx hb d_Sp_meets_218 rfl (lv_at hl 1 rfl) ?_
                  refine lv_aload_n hx hb d_Sp_meets_219 rfl (lv_at hl 0 rfl) ?_
                  refine pz_i0 (pz_rV (d := 2) (As := [.ref h0]) (rest := []) X hN (c_Sp_lineParts l D cB cI cS h1 h0 b4 a4 _) k_Sp_lineParts w_321 ⟨by decide, by decide⟩ hK hP hD [1, 0] rfl rfl 1 rfl rfl rfl rfl hl.1 rfl (Nat.le_of_ble_eq_true rfl) d_Sp_meets_220 ⟨Nat.zero_le _, Nat.zero_le _⟩) hP hD hS hA [1, 0] rfl (fun H locs hP hS => ?_)
                  refine lv_if_eq (tgt := 230) hx hb d_Sp_meets_223 (by decide) (fun c_17 => ?_) (fun c_17 => ?_)
                  · refine lv_iconst (v := 0) hx hb d_Sp_meets_230 (by decide) ?_
                    exact fin _ _ _ _ _ _ d_Sp_meets_231 hP hS (by simp only [mts, mt1, mt2, mt3, mt4, mt5, if_pos c_1, if_neg c_2, if_neg c_3, if_pos c_4, if_neg c_11, if_pos c_12, if_neg c_15, if_neg c_16, if_pos c_17]) (rfl) rfl
                  · refine lv_iconst (v := 1) hx hb d_Sp_meets_226 (by decide) ?_
                    refine lv_goto (tgt := 231) hx hb d_Sp_meets_227 (by decide) ?_
                    exact fin _ _ _ _ _ _ d_Sp_meets_231 hP hS (by simp only [mts, mt1, mt2, mt3, mt4, mt5, if_pos c_1, if_neg c_2, if_neg c_3, if_pos c_4, if_neg c_11, if_pos c_12, if_neg c_15, if_neg c_16, if_neg c_17]) (rfl) rfl
              · refine lv_aload_n hx hb d_Sp_meets_182 rfl (lv_at hl 0 rfl) ?_
                refine va_get (D := D) (ci := 4) (v := .int a4.2.2.1) (C := R_Sp) (T := T_Sp) (N := 8) hx hb hts i_Sp hown hK hP 0 rfl rfl 2 (by decide) (hts _ w_49) (fun _ h9 => h9) rfl d_Sp_meets_183 ?_
                refine lv_aload_n hx hb d_Sp_meets_186 rfl (lv_at hl 0 rfl) ?_
                refine va_get (D := D) (ci := 4) (v := .int a4.2.2.2) (C := R_Sp) (T := T_Sp) (N := 8) hx hb hts i_Sp hown hK hP 0 rfl rfl 3 (by decide) (hts _ w_50) (fun _ h9 => h9) rfl d_Sp_meets_187 ?_
                refine lv_aload_n hx hb d_Sp_meets_190 rfl (lv_at hl 0 rfl) ?_
                refine va_get (D := D) (ci := 4) (v := .int a4.1) (C := R_Sp) (T := T_Sp) (N := 8) hx hb hts i_Sp hown hK hP 0 rfl rfl 0 (by decide) (hts _ w_47) (fun _ h9 => h9) rfl d_Sp_meets_191 ?_
                refine lv_aload_n hx hb d_Sp_meets_194 rfl (lv_at hl 0 rfl) ?_
                refine va_get (D := D) (ci := 4) (v := .int a4.2.1) (C := R_Sp) (T := T_Sp) (N := 8) hx hb hts i_Sp hown hK hP 0 rfl rfl 1 (by decide) (hts _ w_48) (fun _ h9 => h9) rfl d_Sp_meets_195 ?_
                refine lv_aload_n hx hb d_Sp_meets_198 rfl (lv_at hl 1 rfl) ?_
                refine va_get (D := D) (ci := 4) (v := .int b4.1) (C := R_Sp) (T := T_Sp) (N := 8) hx hb hts i_Sp hown hK hP 1 rfl rfl 0 (by decide) (hts _ w_47) (fun _ h9 => h9) rfl d_Sp_meets_199 ?_
                refine lv_aload_n hx hb d_Sp_meets_202 rfl (lv_at hl 1 rfl) ?_
                refine va_get (D := D) (ci := 4) (v := .int b4.2.1) (C := R_Sp) (T := T_Sp) (N := 8) hx hb hts i_Sp hown hK hP 1 rfl rfl 1 (by decide) (hts _ w_48) (fun _ h9 => h9) rfl d_Sp_meets_203 ?_
                refine pz_i0 (pz_rS (d := 1) (As := [.int a4.2.2.1, .int a4.2.2.2, .int a4.1, .int a4.2.1, .int b4.1, .int b4.2.1]) (rest := []) X hN (c_Sp_sameWay l D cB cI cS a4.2.2.1 a4.2.2.2 a4.1 a4.2.1 b4.1 b4.2.1 _) k_Sp_sameWay w_315 ⟨by decide, by decide⟩ hK hP hD [] rfl rfl rfl hl.1 rfl (Nat.le_of_ble_eq_true rfl) d_Sp_meets_206 ⟨Nat.zero_le _, Nat.zero_le _⟩) hP hD hS hA [] rfl (fun H locs hP hS => ?_)
                exact fin _ _ _ _ _ _ d_Sp_meets_209 hP hS (by simp only [mts, mt1, mt2, mt3, mt4, mt5, if_pos c_1, if_neg c_2, if_neg c_3, if_pos c_4, if_neg c_11, if_pos c_12, if_pos c_15]) (rfl) (swy_z _ _ _ _ _ _)
          · refine lv_aload_n hx hb d_Sp_meets_132 rfl (lv_at hl 0 rfl) ?_
            refine va_get (D := D) (ci := 4) (v := .int a4.2.2.1) (C := R_Sp) (T := T_Sp) (N := 8) hx hb hts i_Sp hown hK hP 0 rfl rfl 2 (by decide) (hts _ w_49) (fun _ h9 => h9) rfl d_Sp_meets_133 ?_
            refine lv_aload_n hx hb d_Sp_meets_136 rfl (lv_at hl 0 rfl) ?_
            refine va_get (D := D) (ci := 4) (v := .int a4.2.2.2) (C := R_Sp) (T := T_Sp) (N := 8) hx hb hts i_Sp hown hK hP 0 rfl rfl 3 (by decide) (hts _ w_50) (fun _ h9 => h9) rfl d_Sp_meets_137 ?_
            refine lv_aload_n hx hb d_Sp_meets_140 rfl (lv_at hl 0 rfl) ?_
            refine va_get (D := D) (ci := 4) (v := .int a4.1) (C := R_Sp) (T := T_Sp) (N := 8) hx hb hts i_Sp hown hK hP 0 rfl rfl 0 (by decide) (hts _ w_47) (fun _ h9 => h9) rfl d_Sp_meets_141 ?_
            refine lv_aload_n hx hb d_Sp_meets_144 rfl (lv_at hl 0 rfl) ?_
            refine va_get (D := D) (ci := 4) (v := .int a4.2.1) (C := R_Sp) (T := T_Sp) (N := 8) hx hb hts i_Sp hown hK hP 0 rfl rfl 1 (by decide) (hts _ w_48) (fun _ h9 => h9) rfl d_Sp_meets_145 ?_
            refine lv_aload_n hx hb d_Sp_meets_148 rfl (lv_at hl 1 rfl) ?_
            refine va_get (D := D) (ci := 4) (v := .int b4.2.2.1) (C := R_Sp) (T := T_Sp) (N := 8) hx hb hts i_Sp hown hK hP 1 rfl rfl 2 (by decide) (hts _ w_49) (fun _ h9 => h9) rfl d_Sp_meets_149 ?_
            refine lv_aload_n hx hb d_Sp_meets_152 rfl (lv_at hl 1 rfl) ?_
            refine va_get (D := D) (ci := 4) (v := .int b4.2.2.2) (C := R_Sp) (T := T_Sp) (N := 8) hx hb hts i_Sp hown hK hP 1 rfl rfl 3 (by decide) (hts _ w_50) (fun _ h9 => h9) rfl d_Sp_meets_153 ?_
            refine pz_i0 (pz_rS (d := 1) (As := [.int a4.2.2.1, .int a4.2.2.2, .int a4.1, .int a4.2.1, .int b4.2.2.1, .int b4.2.2.2]) (rest := []) X hN (c_Sp_sameWay l D cB cI cS a4.2.2.1 a4.2.2.2 a4.1 a4.2.1 b4.2.2.1 b4.2.2.2 _) k_Sp_sameWay w_315 ⟨by decide, by decide⟩ hK hP hD [] rfl rfl rfl hl.1 rfl (Nat.le_of_ble_eq_true rfl) d_Sp_meets_156 ⟨Nat.zero_le _, Nat.zero_le _⟩) hP hD hS hA [] rfl (fun H locs hP hS => ?_)
            exact fin _ _ _ _ _ _ d_Sp_meets_159 hP hS (by simp only [mts, mt1, mt2, mt3, mt4, mt5, if_pos c_1, if_neg c_2, if_neg c_3, if_pos c_4, if_pos c_11]) (rfl) (swy_z _ _ _ _ _ _)
      · refine lv_aload_n hx hb d_Sp_meets_71 rfl (lv_at hl 0 rfl) ?_
        refine va_get (D := D) (ci := 4) (v := .int a4.2.1) (C := R_Sp) (T := T_Sp) (N := 8) hx hb hts i_Sp hown hK hP 0 rfl rfl 1 (by decide) (hts _ w_48) (fun _ h9 => h9) rfl d_Sp_meets_72 ?_
        refine lv_aload_n hx hb d_Sp_meets_75 rfl (lv_at hl 1 rfl) ?_
        refine va_get (D := D) (ci := 4) (v := .int b4.2.2.2) (C := R_Sp) (T := T_Sp) (N := 8) hx hb hts i_Sp hown hK hP 1 rfl rfl 3 (by decide) (hts _ w_50) (fun _ h9 => h9) rfl d_Sp_meets_76 ?_
        refine lv_icmp_ne (tgt := 110) hx hb d_Sp_meets_79 (by decide) (fun c_18 => ?_) (fun c_18 => ?_)
        · refine lv_aload_n hx hb d_Sp_meets_110 rfl (lv_at hl 0 rfl) ?_
          refine va_get (D := D) (ci := 4) (v := .int a4.2.2.1) (C := R_Sp) (T := T_Sp) (N := 8) hx hb hts i_Sp hown hK hP 0 rfl rfl 2 (by decide) (hts _ w_49) (fun _ h9 => h9) rfl d_Sp_meets_111 ?_
          refine lv_aload_n hx hb d_Sp_meets_114 rfl (lv_at hl 1 rfl) ?_
          refine va_get (D := D) (ci := 4) (v := .int b4.1) (C := R_Sp) (T := T_Sp) (N := 8) hx hb hts i_Sp hown hK hP 1 rfl rfl 0 (by decide) (hts _ w_47) (fun _ h9 => h9) rfl d_Sp_meets_115 ?_
          refine lv_icmp_ne (tgt := 160) hx hb d_Sp_meets_118 (by decide) (fun c_19 => ?_) (fun c_19 => ?_)
          · refine lv_aload_n hx hb d_Sp_meets_160 rfl (lv_at hl 0 rfl) ?_
            refine va_get (D := D) (ci := 4) (v := .int a4.2.2.1) (C := R_Sp) (T := T_Sp) (N := 8) hx hb hts i_Sp hown hK hP 0 rfl rfl 2 (by decide) (hts _ w_49) (fun _ h9 => h9) rfl d_Sp_meets_161 ?_
            refine lv_aload_n hx hb d_Sp_meets_164 rfl (lv_at hl 1 rfl) ?_
            refine va_get (D := D) (ci := 4) (v := .int b4.2.2.1) (C := R_Sp) (T := T_Sp) (N := 8) hx hb hts i_Sp hown hK hP 1 rfl rfl 2 (by decide) (hts _ w_49) (fun _ h9 => h9) rfl d_Sp_meets_165 ?_
            refine lv_icmp_ne (tgt := 210) hx hb d_Sp_meets_168 (by decide) (fun c_20 => ?_) (fun c_20 => ?_)
            · refine lv_aload_n hx hb d_Sp_meets_210 rfl (lv_at hl 0 rfl) ?_
              refine lv_aload_n hx hb d_Sp_meets_211 rfl (lv_at hl 1 rfl) ?_
              refine pz_i0 (pz_rV (d := 2) (As := [.ref h1]) (rest := []) X hN (c_Sp_lineParts l D cB cI cS h0 h1 a4 b4 _) k_Sp_lineParts w_321 ⟨by decide, by decide⟩ hK hP hD [0, 1] rfl rfl 0 rfl rfl rfl rfl hl.1 rfl (Nat.le_of_ble_eq_true rfl) d_Sp_meets_212 ⟨Nat.zero_le _, Nat.zero_le _⟩) hP hD hS hA [0, 1] rfl (fun H locs hP hS => ?_)
              refine lv_if_eq (tgt := 230) hx hb d_Sp_meets_215 (by decide) (fun c_21 => ?_) (fun c_21 => ?_)
              · refine lv_iconst (v := 0) hx hb d_Sp_meets_230 (by decide) ?_
                exact fin _ _ _ _ _ _ d_Sp_meets_231 hP hS (by simp only [mts, mt1, mt2, mt3, mt4, mt5, if_pos c_1, if_neg c_2, if_pos c_3, if_neg c_18, if_neg c_19, if_neg c_20, if_pos c_21]) (rfl) rfl
              · refine lv_aload_n hx hb d_Sp_meets_218 rfl (lv_at hl 1 rfl) ?_
                refine lv_aload_n hx hb d_Sp_meets_219 rfl (lv_at hl 0 rfl) ?_
                refine pz_i0 (pz_rV (d := 2) (As := [.ref h0]) (rest := []) X hN (c_Sp_lineParts l D cB cI cS h1 h0 b4 a4 _) k_Sp_lineParts w_321 ⟨by decide, by decide⟩ hK hP hD [1, 0] rfl rfl 1 rfl rfl rfl rfl hl.1 rfl (Nat.le_of_ble_eq_true rfl) d_Sp_meets_220 ⟨Nat.zero_le _, Nat.zero_le _⟩) hP hD hS hA [1, 0] rfl (fun H locs hP hS => ?_)
                refine lv_if_eq (tgt := 230) hx hb d_Sp_meets_223 (by decide) (fun c_22 => ?_) (fun c_22 => ?_)
                · refine lv_iconst (v := 0) hx hb d_Sp_meets_230 (by decide) ?_
                  exact fin _ _ _ _ _ _ d_Sp_meets_231 hP hS (by simp only [mts, mt1, mt2, mt3, mt4, mt5, if_pos c_1, if_neg c_2, if_pos c_3, if_neg c_18, if_neg c_19, if_neg c_20, if_neg c_21, if_pos c_22]) (rfl) rfl
                · refine lv_iconst (v := 1) hx hb d_Sp_meets_226 (by decide) ?_
                  refine lv_goto (tgt := 231) hx hb d_Sp_meets_227 (by decide) ?_
                  exact fin _ _ _ _ _ _ d_Sp_meets_231 hP hS (by simp only [mts, mt1, mt2, mt3, mt4, mt5, if_pos c_1, if_neg c_2, if_pos c_3, if_neg c_18, if_neg c_19, if_neg c_20, if_neg c_21, if_neg c_22]) (rfl) rfl
            · refine lv_aload_n hx hb d_Sp_meets_171 rfl (lv_at hl 0 rfl) ?_
              refine va_get (D := D) (ci := 4) (v := .int a4.2.2.2) (C := R_Sp) (T := T_Sp) (N := 8) hx hb hts i_Sp hown hK hP 0 rfl rfl 3 (by decide) (hts _ w_50) (fun _ h9 => h9) rfl d_Sp_meets_172 ?_
              refine lv_aload_n hx hb d_Sp_meets_175 rfl (lv_at hl 1 rfl) ?_
              refine va_get (D := D) (ci := 4) (v := .int b4.2.2.2) (C := R_Sp) (T := T_Sp) (N := 8) hx hb hts i_Sp hown hK hP 1 rfl rfl 3 (by decide) (hts _ w_50) (fun _ h9 => h9) rfl d_Sp_meets_176 ?_
              refine lv_icmp_ne (tgt := 210) hx hb d_Sp_meets_179 (by decide) (fun c_23 => ?_) (fun c_23 => ?_)
              · refine lv_aload_n hx hb d_Sp_meets_210 rfl (lv_at hl 0 rfl) ?_
                refine lv_aload_n hx hb d_Sp_meets_211 rfl (lv_at hl 1 rfl) ?_
                refine pz_i0 (pz_rV (d := 2) (As := [.ref h1]) (rest := []) X hN (c_Sp_lineParts l D cB cI cS h0 h1 a4 b4 _) k_Sp_lineParts w_321 ⟨by decide, by decide⟩ hK hP hD [0, 1] rfl rfl 0 rfl rfl rfl rfl hl.1 rfl (Nat.le_of_ble_eq_true rfl) d_Sp_meets_212 ⟨Nat.zero_le _, Nat.zero_le _⟩) hP hD hS hA [0, 1] rfl (fun H locs hP hS => ?_)
                refine lv_if_eq (tgt := 230) hx hb d_Sp_meets_215 (by decide) (fun c_24 => ?_) (fun c_24 => ?_)
                · refine lv_iconst (v := 0) hx hb d_Sp_meets_230 (by decide) ?_
                  exact fin _ _ _ _ _ _ d_Sp_meets_231 hP hS (by simp only [mts, mt1, mt2, mt3, mt4, mt5, if_pos c_1, if_neg c_2, if_pos c_3, if_neg c_18, if_neg c_19, if_pos c_20, if_neg c_23, if_pos c_24]) (rfl) rfl
                · refine lv_aload_n hx hb d_Sp_meets_218 rfl (lv_at hl 1 rfl) ?_
                  refine lv_aload_n hx hb d_Sp_meets_219 rfl (lv_at hl 0 rfl) ?_
                  refine pz_i0 (pz_rV (d := 2) (As := [.ref h0]) (rest := []) X hN (c_Sp_lineParts l D cB cI cS h1 h0 b4 a4 _) k_Sp_lineParts w_321 ⟨by decide, by decide⟩ hK hP hD [1, 0] rfl rfl 1 rfl rfl rfl rfl hl.1 rfl (Nat.le_of_ble_eq_true rfl) d_Sp_meets_220 ⟨Nat.zero_le _, Nat.zero_le _⟩) hP hD hS hA [1, 0] rfl (fun H locs hP hS => ?_)
                  refine lv_if_eq (tgt := 230) hx hb d_Sp_meets_223 (by decide) (fun c_25 => ?_) (fun c_25 => ?_)
                  · refine lv_iconst (v := 0) hx hb d_Sp_meets_230 (by decide) ?_
                    exact fin _ _ _ _ _ _ d_Sp_meets_231 hP hS (by simp only [mts, mt1, mt2, mt3, mt4, mt5, if_pos c_1, if_neg c_2, if_pos c_3, if_neg c_18, if_neg c_19, if_pos c_20, if_neg c_23, if_neg c_24, if_pos c_25]) (rfl) rfl
                  · refine lv_iconst (v := 1) hx hb d_Sp_meets_226 (by decide) ?_
                    refine lv_goto (tgt := 231) hx hb d_Sp_meets_227 (by decide) ?_
                    exact fin _ _ _ _ _ _ d_Sp_meets_231 hP hS (by simp only [mts, mt1, mt2, mt3, mt4, mt5, if_pos c_1, if_neg c_2, if_pos c_3, if_neg c_18, if_neg c_19, if_pos c_20, if_neg c_23, if_neg c_24, if_neg c_25]) (rfl) rfl
              · refine lv_aload_n hx hb d_Sp_meets_182 rfl (lv_at hl 0 rfl) ?_
                refine va_get (D := D) (ci := 4) (v := .int a4.2.2.1) (C := R_Sp) (T := T_Sp) (N := 8) hx hb hts i_Sp hown hK hP 0 rfl rfl 2 (by decide) (hts _ w_49) (fun _ h9 => h9) rfl d_Sp_meets_183 ?_
                refine lv_aload_n hx hb d_Sp_meets_186 rfl (lv_at hl 0 rfl) ?_
                refine va_get (D := D) (ci := 4) (v := .int a4.2.2.2) (C := R_Sp) (T := T_Sp) (N := 8) hx hb hts i_Sp hown hK hP 0 rfl rfl 3 (by decide) (hts _ w_50) (fun _ h9 => h9) rfl d_Sp_meets_187 ?_
                refine lv_aload_n hx hb d_Sp_meets_190 rfl (lv_at hl 0 rfl) ?_
                refine va_get (D := D) (ci := 4) (v := .int a4.1) (C := R_Sp) (T := T_Sp) (N := 8) hx hb hts i_Sp hown hK hP 0 rfl rfl 0 (by decide) (hts _ w_47) (fun _ h9 => h9) rfl d_Sp_meets_191 ?_
                refine lv_aload_n hx hb d_Sp_meets_194 rfl (lv_at hl 0 rfl) ?_
                refine va_get (D := D) (ci := 4) (v := .int a4.2.1) (C := R_Sp) (T := T_Sp) (N := 8) hx hb hts i_Sp hown hK hP 0 rfl rfl 1 (by decide) (hts _ w_48) (fun _ h9 => h9) rfl d_Sp_meets_195 ?_
                refine lv_aload_n hx hb d_Sp_meets_198 rfl (lv_at hl 1 rfl) ?_
                refine va_get (D := D) (ci := 4) (v := .int b4.1) (C := R_Sp) (T := T_Sp) (N := 8) hx hb hts i_Sp hown hK hP 1 rfl rfl 0 (by decide) (hts _ w_47) (fun _ h9 => h9) rfl d_Sp_meets_199 ?_
                refine lv_aload_n hx hb d_Sp_meets_202 rfl (lv_at hl 1 rfl) ?_
                refine va_get (D := D) (ci := 4) (v := .int b4.2.1) (C := R_Sp) (T := T_Sp) (N := 8) hx hb hts i_Sp hown hK hP 1 rfl rfl 1 (by decide) (hts _ w_48) (fun _ h9 => h9) rfl d_Sp_meets_203 ?_
                refine pz_i0 (pz_rS (d := 1) (As := [.int a4.2.2.1, .int a4.2.2.2, .int a4.1, .int a4.2.1, .int b4.1, .int b4.2.1]) (rest := []) X hN (c_Sp_sameWay l D cB cI cS a4.2.2.1 a4.2.2.2 a4.1 a4.2.1 b4.1 b4.2.1 _) k_Sp_sameWay w_315 ⟨by decide, by decide⟩ hK hP hD [] rfl rfl rfl hl.1 rfl (Nat.le_of_ble_eq_true rfl) d_Sp_meets_206 ⟨Nat.zero_le _, Nat.zero_le _⟩) hP hD hS hA [] rfl (fun H locs hP hS => ?_)
                exact fin _ _ _ _ _ _ d_Sp_meets_209 hP hS (by simp only [mts, mt1, mt2, mt3, mt4, mt5, if_pos c_1, if_neg c_2, if_pos c_3, if_neg c_18, if_neg c_19, if_pos c_20, if_pos c_23]) (rfl) (swy_z _ _ _ _ _ _)
          · refine lv_aload_n hx hb d_Sp_meets_121 rfl (lv_at hl 0 rfl) ?_
            refine va_get (D := D) (ci := 4) (v := .int a4.2.2.2) (C := R_Sp) (T := T_Sp) (N := 8) hx hb hts i_Sp hown hK hP 0 rfl rfl 3 (by decide) (hts _ w_50) (fun _ h9 => h9) rfl d_Sp_meets_122 ?_
            refine lv_aload_n hx hb d_Sp_meets_125 rfl (lv_at hl 1 rfl) ?_
            refine va_get (D := D) (ci := 4) (v := .int b4.2.1) (C := R_Sp) (T := T_Sp) (N := 8) hx hb hts i_Sp hown hK hP 1 rfl rfl 1 (by decide) (hts _ w_48) (fun _ h9 => h9) rfl d_Sp_meets_126 ?_
            refine lv_icmp_ne (tgt := 160) hx hb d_Sp_meets_129 (by decide) (fun c_26 => ?_) (fun c_26 => ?_)
            · refine lv_aload_n hx hb d_Sp_meets_160 rfl (lv_at hl 0 rfl) ?_
              refine va_get (D := D) (ci := 4) (v := .int a4.2.2.1) (C := R_Sp) (T := T_Sp) (N := 8) hx hb hts i_Sp hown hK hP 0 rfl rfl 2 (by decide) (hts _ w_49) (fun _ h9 => h9) rfl d_Sp_meets_161 ?_
              refine lv_aload_n hx hb d_Sp_meets_164 rfl (lv_at hl 1 rfl) ?_
              refine va_get (D := D) (ci := 4) (v := .int b4.2.2.1) (C := R_Sp) (T := T_Sp) (N := 8) hx hb hts i_Sp hown hK hP 1 rfl rfl 2 (by decide) (hts _ w_49) (fun _ h9 => h9) rfl d_Sp_meets_165 ?_
              refine lv_icmp_ne (tgt := 210) hx hb d_Sp_meets_168 (by decide) (fun c_27 => ?_) (fun c_27 => ?_)
              · refine lv_aload_n hx hb d_Sp_meets_210 rfl (lv_at hl 0 rfl) ?_
                refine lv_aload_n hx hb d_Sp_meets_211 rfl (lv_at hl 1 rfl) ?_
                refine pz_i0 (pz_rV (d := 2) (As := [.ref h1]) (rest := []) X hN (c_Sp_lineParts l D cB cI cS h0 h1 a4 b4 _) k_Sp_lineParts w_321 ⟨by decide, by decide⟩ hK hP hD [0, 1] rfl rfl 0 rfl rfl rfl rfl hl.1 rfl (Nat.le_of_ble_eq_true rfl) d_Sp_meets_212 ⟨Nat.zero_le _, Nat.zero_le _⟩) hP hD hS hA [0, 1] rfl (fun H locs hP hS => ?_)
                refine lv_if_eq (tgt := 230) hx hb d_Sp_meets_215 (by decide) (fun c_28 => ?_) (fun c_28 => ?_)
                · refine lv_iconst (v := 0) hx hb d_Sp_meets_230 (by decide) ?_
                  exact fin _ _ _ _ _ _ d_Sp_meets_231 hP hS (by simp only [mts, mt1, mt2, mt3, mt4, mt5, if_pos c_1, if_neg c_2, if_pos c_3, if_neg c_18, if_pos c_19, if_neg c_26, if_neg c_27, if_pos c_28]) (rfl) rfl
                · refine lv_aload_n hx hb d_Sp_meets_218 rfl (lv_at hl 1 rfl) ?_
                  refine lv_aload_n hx hb d_Sp_meets_219 rfl (lv_at hl 0 rfl) ?_
                  refine pz_i0 (pz_rV (d := 2) (As := [.ref h0]) (rest := []) X hN (c_Sp_lineParts l D cB cI cS h1 h0 b4 a4 _) k_Sp_lineParts w_321 ⟨by decide, by decide⟩ hK hP hD [1, 0] rfl rfl 1 rfl rfl rfl rfl hl.1 rfl (Nat.le_of_ble_eq_true rfl) d_Sp_meets_220 ⟨Nat.zero_le _, Nat.zero_le _⟩) hP hD hS hA [1, 0] rfl (fun H locs hP hS => ?_)
                  refine lv_if_eq (tgt := 230) hx hb d_Sp_meets_223 (by decide) (fun c_29 => ?_) (fun c_29 => ?_)
                  · refine lv_iconst (v := 0) hx hb d_Sp_meets_230 (by decide) ?_
                    exact fin _ _ _ _ _ _ d_Sp_meets_231 hP hS (by simp only [mts, mt1, mt2, mt3, mt4, mt5, if_pos c_1, if_neg c_2, if_pos c_3, if_neg c_18, if_pos c_19, if_neg c_26, if_neg c_27, if_neg c_28, if_pos c_29]) (rfl) rfl
                  · refine lv_iconst (v := 1) hx hb d_Sp_meets_226 (by decide) ?_
                    refine lv_goto (tgt := 231) hx hb d_Sp_meets_227 (by decide) ?_
                    exact fin _ _ _ _ _ _ d_Sp_meets_231 hP hS (by simp only [mts, mt1, mt2, mt3, mt4, mt5, if_pos c_1, if_neg c_2, if_pos c_3, if_neg c_18, if_pos c_19, if_neg c_26, if_neg c_27, if_neg c_28, if_neg c_29]) (rfl) rfl
              · refine lv_aload_n hx hb d_Sp_meets_171 rfl (lv_at hl 0 rfl) ?_
                refine va_get (D := D) (ci := 4) (v := .int a4.2.2.2) (C := R_Sp) (T := T_Sp) (N := 8) hx hb hts i_Sp hown hK hP 0 rfl rfl 3 (by decide) (hts _ w_50) (fun _ h9 => h9) rfl d_Sp_meets_172 ?_
                refine lv_aload_n hx hb d_Sp_meets_175 rfl (lv_at hl 1 rfl) ?_
                refine va_get (D := D) (ci := 4) (v := .int b4.2.2.2) (C := R_Sp) (T := T_Sp) (N := 8) hx hb hts i_Sp hown hK hP 1 rfl rfl 3 (by decide) (hts _ w_50) (fun _ h9 => h9) rfl d_Sp_meets_176 ?_
                refine lv_icmp_ne (tgt := 210) hx hb d_Sp_meets_179 (by decide) (fun c_30 => ?_) (fun c_30 => ?_)
                · refine lv_aload_n hx hb d_Sp_meets_210 rfl (lv_at hl 0 rfl) ?_
                  refine lv_aload_n hx hb d_Sp_meets_211 rfl (lv_at hl 1 rfl) ?_
                  refine pz_i0 (pz_rV (d := 2) (As := [.ref h1]) (rest := []) X hN (c_Sp_lineParts l D cB cI cS h0 h1 a4 b4 _) k_Sp_lineParts w_321 ⟨by decide, by decide⟩ hK hP hD [0, 1] rfl rfl 0 rfl rfl rfl rfl hl.1 rfl (Nat.le_of_ble_eq_true rfl) d_Sp_meets_212 ⟨Nat.zero_le _, Nat.zero_le _⟩) hP hD hS hA [0, 1] rfl (fun H locs hP hS => ?_)
                  refine lv_if_eq (tgt := 230) hx hb d_Sp_meets_215 (by decide) (fun c_31 => ?_) (fun c_31 => ?_)
                  · refine lv_iconst (v := 0) hx hb d_Sp_meets_230 (by decide) ?_
                    exact fin _ _ _ _ _ _ d_Sp_meets_231 hP hS (by simp only [mts, mt1, mt2, mt3, mt4, mt5, if_pos c_1, if_neg c_2, if_pos c_3, if_neg c_18, if_pos c_19, if_neg c_26, if_pos c_27, if_neg c_30, if_pos c_31]) (rfl) rfl
                  · refine lv_aload_n hx hb d_Sp_meets_218 rfl (lv_at hl 1 rfl) ?_
                    refine lv_aload_n hx hb d_Sp_meets_219 rfl (lv_at hl 0 rfl) ?_
                    refine pz_i0 (pz_rV (d := 2) (As := [.ref h0]) (rest := []) X hN (c_Sp_lineParts l D cB cI cS h1 h0 b4 a4 _) k_Sp_lineParts w_321 ⟨by decide, by decide⟩ hK hP hD [1, 0] rfl rfl 1 rfl rfl rfl rfl hl.1 rfl (Nat.le_of_ble_eq_true rfl) d_Sp_meets_220 ⟨Nat.zero_le _, Nat.zero_le _⟩) hP hD hS hA [1, 0] rfl (fun H locs hP hS => ?_)
                    refine lv_if_eq (tgt := 230) hx hb d_Sp_meets_223 (by decide) (fun c_32 => ?_) (fun c_32 => ?_)
                    · refine lv_iconst (v := 0) hx hb d_Sp_meets_230 (by decide) ?_
                      exact fin _ _ _ _ _ _ d_Sp_meets_231 hP hS (by simp only [mts, mt1, mt2, mt3, mt4, mt5, if_pos c_1, if_neg c_2, if_pos c_3, if_neg c_18, if_pos c_19, if_neg c_26, if_pos c_27, if_neg c_30, if_neg c_31, if_pos c_32]) (rfl) rfl
                    · refine lv_iconst (v := 1) hx hb d_Sp_meets_226 (by decide) ?_
                      refine lv_goto (tgt := 231) hx hb d_Sp_meets_227 (by decide) ?_
                      exact fin _ _ _ _ _ _ d_Sp_meets_231 hP hS (by simp only [mts, mt1, mt2, mt3, mt4, mt5, if_pos c_1, if_neg c_2, if_pos c_3, if_neg c_18, if_pos c_19, if_neg c_26, if_pos c_27, if_neg c_30, if_neg c_31, if_neg c_32]) (rfl) rfl
                · refine lv_aload_n hx hb d_Sp_meets_182 rfl (lv_at hl 0 rfl) ?_
                  refine va_get (D := D) (ci := 4) (v := .int a4.2.2.1) (C := R_Sp) (T := T_Sp) (N := 8) hx hb hts i_Sp hown hK hP 0 rfl rfl 2 (by decide) (hts _ w_49) (fun _ h9 => h9) rfl d_Sp_meets_183 ?_
                  refine lv_aload_n hx hb d_Sp_meets_186 rfl (lv_at hl 0 rfl) ?_
                  refine va_get (D := D) (ci := 4) (v := .int a4.2.2.2) (C := R_Sp) (T := T_Sp) (N := 8) hx hb hts i_Sp hown hK hP 0 rfl rfl 3 (by decide) (hts _ w_50) (fun _ h9 => h9) rfl d_Sp_meets_187 ?_
                  refine lv_aload_n hx hb d_Sp_meets_190 rfl (lv_at hl 0 rfl) ?_
                  refine va_get (D := D) (ci := 4) (v := .int a4.1) (C := R_Sp) (T := T_Sp) (N := 8) hx hb hts i_Sp hown hK hP 0 rfl rfl 0 (by decide) (hts _ w_47) (fun _ h9 => h9) rfl d_Sp_meets_191 ?_
                  refine lv_aload_n hx hb d_Sp_meets_194 rfl (lv_at hl 0 rfl) ?_
                  refine va_get (D := D) (ci := 4) (v := .int a4.2.1) (C := R_Sp) (T := T_Sp) (N := 8) hx hb hts i_Sp hown hK hP 0 rfl rfl 1 (by decide) (hts _ w_48) (fun _ h9 => h9) rfl d_Sp_meets_195 ?_
                  refine lv_aload_n hx hb d_Sp_meets_198 rfl (lv_at hl 1 rfl) ?_
                  refine va_get (D := D) (ci := 4) (v := .int b4.1) (C := R_Sp) (T := T_Sp) (N := 8) hx hb hts i_Sp hown hK hP 1 rfl rfl 0 (by decide) (hts _ w_47) (fun _ h9 => h9) rfl d_Sp_meets_199 ?_
                  refine lv_aload_n hx hb d_Sp_meets_202 rfl (lv_at hl 1 rfl) ?_
                  refine va_get (D := D) (ci := 4) (v := .int b4.2.1) (C := R_Sp) (T := T_Sp) (N := 8) hx hb hts i_Sp hown hK hP 1 rfl rfl 1 (by decide) (hts _ w_48) (fun _ h9 => h9) rfl d_Sp_meets_203 ?_
                  refine pz_i0 (pz_rS (d := 1) (As := [.int a4.2.2.1, .int a4.2.2.2, .int a4.1, .int a4.2.1, .int b4.1, .int b4.2.1]) (rest := []) X hN (c_Sp_sameWay l D cB cI cS a4.2.2.1 a4.2.2.2 a4.1 a4.2.1 b4.1 b4.2.1 _) k_Sp_sameWay w_315 ⟨by decide, by decide⟩ hK hP hD [] rfl rfl rfl hl.1 rfl (Nat.le_of_ble_eq_true rfl) d_Sp_meets_206 ⟨Nat.zero_le _, Nat.zero_le _⟩) hP hD hS hA [] rfl (fun H locs hP hS => ?_)
                  exact fin _ _ _ _ _ _ d_Sp_meets_209 hP hS (by simp only [mts, mt1, mt2, mt3, mt4, mt5, if_pos c_1, if_neg c_2, if_pos c_3, if_neg c_18, if_pos c_19, if_neg c_26, if_pos c_27, if_pos c_30]) (rfl) (swy_z _ _ _ _ _ _)
            · refine lv_aload_n hx hb d_Sp_meets_132 rfl (lv_at hl 0 rfl) ?_
              refine va_get (D := D) (ci := 4) (v := .int a4.2.2.1) (C := R_Sp) (T := T_Sp) (N := 8) hx hb hts i_Sp hown hK hP 0 rfl rfl 2 (by decide) (hts _ w_49) (fun _ h9 => h9) rfl d_Sp_meets_133 ?_
              refine lv_aload_n hx hb d_Sp_meets_136 rfl (lv_at hl 0 rfl) ?_
              refine va_get (D := D) (ci := 4) (v := .int a4.2.2.2) (C := R_Sp) (T := T_Sp) (N := 8) hx hb hts i_Sp hown hK hP 0 rfl rfl 3 (by decide) (hts _ w_50) (fun _ h9 => h9) rfl d_Sp_meets_137 ?_
              refine lv_aload_n hx hb d_Sp_meets_140 rfl (lv_at hl 0 rfl) ?_
              refine va_get (D := D) (ci := 4) (v := .int a4.1) (C := R_Sp) (T := T_Sp) (N := 8) hx hb hts i_Sp hown hK hP 0 rfl rfl 0 (by decide) (hts _ w_47) (fun _ h9 => h9) rfl d_Sp_meets_141 ?_
              refine lv_aload_n hx hb d_Sp_meets_144 rfl (lv_at hl 0 rfl) ?_
              refine va_get (D := D) (ci := 4) (v := .int a4.2.1) (C := R_Sp) (T := T_Sp) (N := 8) hx hb hts i_Sp hown hK hP 0 rfl rfl 1 (by decide) (hts _ w_48) (fun _ h9 => h9) rfl d_Sp_meets_145 ?_
              refine lv_aload_n hx hb d_Sp_meets_148 rfl (lv_at hl 1 rfl) ?_
              refine va_get (D := D) (ci := 4) (v := .int b4.2.2.1) (C := R_Sp) (T := T_Sp) (N := 8) hx hb hts i_Sp hown hK hP 1 rfl rfl 2 (by decide) (hts _ w_49) (fun _ h9 => h9) rfl d_Sp_meets_149 ?_
              refine lv_aload_n hx hb d_Sp_meets_152 rfl (lv_at hl 1 rfl) ?_
              refine va_get (D := D) (ci := 4) (v := .int b4.2.2.2) (C := R_Sp) (T := T_Sp) (N := 8) hx hb hts i_Sp hown hK hP 1 rfl rfl 3 (by decide) (hts _ w_50) (fun _ h9 => h9) rfl d_Sp_meets_153 ?_
              refine pz_i0 (pz_rS (d := 1) (As := [.int a4.2.2.1, .int a4.2.2.2, .int a4.1, .int a4.2.1, .int b4.2.2.1, .int b4.2.2.2]) (rest := []) X hN (c_Sp_sameWay l D cB cI cS a4.2.2.1 a4.2.2.2 a4.1 a4.2.1 b4.2.2.1 b4.2.2.2 _) k_Sp_sameWay w_315 ⟨by decide, by decide⟩ hK hP hD [] rfl rfl rfl hl.1 rfl (Nat.le_of_ble_eq_true rfl) d_Sp_meets_156 ⟨Nat.zero_le _, Nat.zero_le _⟩) hP hD hS hA [] rfl (fun H locs hP hS => ?_)
              exact fin _ _ _ _ _ _ d_Sp_meets_159 hP hS (by simp only [mts, mt1, mt2, mt3, mt4, mt5, if_pos c_1, if_neg c_2, if_pos c_3, if_neg c_18, if_pos c_19, if_pos c_26]) (rfl) (swy_z _ _ _ _ _ _)
        · refine lv_aload_n hx hb d_Sp_meets_82 rfl (lv_at hl 0 rfl) ?_
          refine va_get (D := D) (ci := 4) (v := .int a4.1) (C := R_Sp) (T := T_Sp) (N := 8) hx hb hts i_Sp hown hK hP 0 rfl rfl 0 (by decide) (hts _ w_47) (fun _ h9 => h9) rfl d_Sp_meets_83 ?_
          refine lv_aload_n hx hb d_Sp_meets_86 rfl (lv_at hl 0 rfl) ?_
          refine va_get (D := D) (ci := 4) (v := .int a4.2.1) (C := R_Sp) (T := T_Sp) (N := 8) hx hb hts i_Sp hown hK hP 0 rfl rfl 1 (by decide) (hts _ w_48) (fun _ h9 => h9) rfl d_Sp_meets_87 ?_
          refine lv_aload_n hx hb d_Sp_meets_90 rfl (lv_at hl 0 rfl) ?_
          refine va_get (D := D) (ci := 4) (v := .int a4.2.2.1) (C := R_Sp) (T := T_Sp) (N := 8) hx hb hts i_Sp hown hK hP 0 rfl rfl 2 (by decide) (hts _ w_49) (fun _ h9 => h9) rfl d_Sp_meets_91 ?_
          refine lv_aload_n hx hb d_Sp_meets_94 rfl (lv_at hl 0 rfl) ?_
          refine va_get (D := D) (ci := 4) (v := .int a4.2.2.2) (C := R_Sp) (T := T_Sp) (N := 8) hx hb hts i_Sp hown hK hP 0 rfl rfl 3 (by decide) (hts _ w_50) (fun _ h9 => h9) rfl d_Sp_meets_95 ?_
          refine lv_aload_n hx hb d_Sp_meets_98 rfl (lv_at hl 1 rfl) ?_
          refine va_get (D := D) (ci := 4) (v := .int b4.1) (C := R_Sp) (T := T_Sp) (N := 8) hx hb hts i_Sp hown hK hP 1 rfl rfl 0 (by decide) (hts _ w_47) (fun _ h9 => h9) rfl d_Sp_meets_99 ?_
          refine lv_aload_n hx hb d_Sp_meets_102 rfl (lv_at hl 1 rfl) ?_
          refine va_get (D := D) (ci := 4) (v := .int b4.2.1) (C := R_Sp) (T := T_Sp) (N := 8) hx hb hts i_Sp hown hK hP 1 rfl rfl 1 (by decide) (hts _ w_48) (fun _ h9 => h9) rfl d_Sp_meets_103 ?_
          refine pz_i0 (pz_rS (d := 1) (As := [.int a4.1, .int a4.2.1, .int a4.2.2.1, .int a4.2.2.2, .int b4.1, .int b4.2.1]) (rest := []) X hN (c_Sp_sameWay l D cB cI cS a4.1 a4.2.1 a4.2.2.1 a4.2.2.2 b4.1 b4.2.1 _) k_Sp_sameWay w_315 ⟨by decide, by decide⟩ hK hP hD [] rfl rfl rfl hl.1 rfl (Nat.le_of_ble_eq_true rfl) d_Sp_meets_106 ⟨Nat.zero_le _, Nat.zero_le _⟩) hP hD hS hA [] rfl (fun H locs hP hS => ?_)
          exact fin _ _ _ _ _ _ d_Sp_meets_109 hP hS (by simp only [mts, mt1, mt2, mt3, mt4, mt5, if_pos c_1, if_neg c_2, if_pos c_3, if_pos c_18]) (rfl) (swy_z _ _ _ _ _ _)
    · refine lv_aload_n hx hb d_Sp_meets_21 rfl (lv_at hl 0 rfl) ?_
      refine va_get (D := D) (ci := 4) (v := .int a4.2.1) (C := R_Sp) (T := T_Sp) (N := 8) hx hb hts i_Sp hown hK hP 0 rfl rfl 1 (by decide) (hts _ w_48) (fun _ h9 => h9) rfl d_Sp_meets_22 ?_
      refine lv_aload_n hx hb d_Sp_meets_25 rfl (lv_at hl 1 rfl) ?_
      refine va_get (D := D) (ci := 4) (v := .int b4.2.1) (C := R_Sp) (T := T_Sp) (N := 8) hx hb hts i_Sp hown hK hP 1 rfl rfl 1 (by decide) (hts _ w_48) (fun _ h9 => h9) rfl d_Sp_meets_26 ?_
      refine lv_icmp_ne (tgt := 60) hx hb d_Sp_meets_29 (by decide) (fun c_33 => ?_) (fun c_33 => ?_)
      · refine lv_aload_n hx hb d_Sp_meets_60 rfl (lv_at hl 0 rfl) ?_
        refine va_get (D := D) (ci := 4) (v := .int a4.1) (C := R_Sp) (T := T_Sp) (N := 8) hx hb hts i_Sp hown hK hP 0 rfl rfl 0 (by decide) (hts _ w_47) (fun _ h9 => h9) rfl d_Sp_meets_61 ?_
        refine lv_aload_n hx hb d_Sp_meets_64 rfl (lv_at hl 1 rfl) ?_
        refine va_get (D := D) (ci := 4) (v := .int b4.2.2.1) (C := R_Sp) (T := T_Sp) (N := 8) hx hb hts i_Sp hown hK hP 1 rfl rfl 2 (by decide) (hts _ w_49) (fun _ h9 => h9) rfl d_Sp_meets_65 ?_
        refine lv_icmp_ne (tgt := 110) hx hb d_Sp_meets_68 (by decide) (fun c_34 => ?_) (fun c_34 => ?_)
        · refine lv_aload_n hx hb d_Sp_meets_110 rfl (lv_at hl 0 rfl) ?_
          refine va_get (D := D) (ci := 4) (v := .int a4.2.2.1) (C := R_Sp) (T := T_Sp) (N := 8) hx hb hts i_Sp hown hK hP 0 rfl rfl 2 (by decide) (hts _ w_49) (fun _ h9 => h9) rfl d_Sp_meets_111 ?_
          refine lv_aload_n hx hb d_Sp_meets_114 rfl (lv_at hl 1 rfl) ?_
          refine va_get (D := D) (ci := 4) (v := .int b4.1) (C := R_Sp) (T := T_Sp) (N := 8) hx hb hts i_Sp hown hK hP 1 rfl rfl 0 (by decide) (hts _ w_47) (fun _ h9 => h9) rfl d_Sp_meets_115 ?_
          refine lv_icmp_ne (tgt := 160) hx hb d_Sp_meets_118 (by decide) (fun c_35 => ?_) (fun c_35 => ?_)
          · refine lv_aload_n hx hb d_Sp_meets_160 rfl (lv_at hl 0 rfl) ?_
            refine va_get (D := D) (ci := 4) (v := .int a4.2.2.1) (C := R_Sp) (T := T_Sp) (N := 8) hx hb hts i_Sp hown hK hP 0 rfl rfl 2 (by decide) (hts _ w_49) (fun _ h9 => h9) rfl d_Sp_meets_161 ?_
            refine lv_aload_n hx hb d_Sp_meets_164 rfl (lv_at hl 1 rfl) ?_
            refine va_get (D := D) (ci := 4) (v := .int b4.2.2.1) (C := R_Sp) (T := T_Sp) (N := 8) hx hb hts i_Sp hown hK hP 1 rfl rfl 2 (by decide) (hts _ w_49) (fun _ h9 => h9) rfl d_Sp_meets_165 ?_
            refine lv_icmp_ne (tgt := 210) hx hb d_Sp_meets_168 (by decide) (fun c_36 => ?_) (fun c_36 => ?_)
            · refine lv_aload_n hx hb d_Sp_meets_210 rfl (lv_at hl 0 rfl) ?_
              refine lv_aload_n hx hb d_Sp_meets_211 rfl (lv_at hl 1 rfl) ?_
              refine pz_i0 (pz_rV (d := 2) (As := [.ref h1]) (rest := []) X hN (c_Sp_lineParts l D cB cI cS h0 h1 a4 b4 _) k_Sp_lineParts w_321 ⟨by decide, by decide⟩ hK hP hD [0, 1] rfl rfl 0 rfl rfl rfl rfl hl.1 rfl (Nat.le_of_ble_eq_true rfl) d_Sp_meets_212 ⟨Nat.zero_le _, Nat.zero_le _⟩) hP hD hS hA [0, 1] rfl (fun H locs hP hS => ?_)
              refine lv_if_eq (tgt := 230) hx hb d_Sp_meets_215 (by decide) (fun c_37 => ?_) (fun c_37 => ?_)
              · refine lv_iconst (v := 0) hx hb d_Sp_meets_230 (by decide) ?_
                exact fin _ _ _ _ _ _ d_Sp_meets_231 hP hS (by simp only [mts, mt1, mt2, mt3, mt4, mt5, if_pos c_1, if_pos c_2, if_neg c_33, if_neg c_34, if_neg c_35, if_neg c_36, if_pos c_37]) (rfl) rfl
              · refine lv_aload_n hx hb d_Sp_meets_218 rfl (lv_at hl 1 rfl) ?_
                refine lv_aload_n hx hb d_Sp_meets_219 rfl (lv_at hl 0 rfl) ?_
                refine pz_i0 (pz_rV (d := 2) (As := [.ref h0]) (rest := []) X hN (c_Sp_lineParts l D cB cI cS h1 h0 b4 a4 _) k_Sp_lineParts w_321 ⟨by decide, by decide⟩ hK hP hD [1, 0] rfl rfl 1 rfl rfl rfl rfl hl.1 rfl (Nat.le_of_ble_eq_true rfl) d_Sp_meets_220 ⟨Nat.zero_le _, Nat.zero_le _⟩) hP hD hS hA [1, 0] rfl (fun H locs hP hS => ?_)
                refine lv_if_eq (tgt := 230) hx hb d_Sp_meets_223 (by decide) (fun c_38 => ?_) (fun c_38 => ?_)
                · refine lv_iconst (v := 0) hx hb d_Sp_meets_230 (by decide) ?_
                  exact fin _ _ _ _ _ _ d_Sp_meets_231 hP hS (by simp only [mts, mt1, mt2, mt3, mt4, mt5, if_pos c_1, if_pos c_2, if_neg c_33, if_neg c_34, if_neg c_35, if_neg c_36, if_neg c_37, if_pos c_38]) (rfl) rfl
                · refine lv_iconst (v := 1) hx hb d_Sp_meets_226 (by decide) ?_
                  refine lv_goto (tgt := 231) hx hb d_Sp_meets_227 (by decide) ?_
                  exact fin _ _ _ _ _ _ d_Sp_meets_231 hP hS (by simp only [mts, mt1, mt2, mt3, mt4, mt5, if_pos c_1, if_pos c_2, if_neg c_33, if_neg c_34, if_neg c_35, if_neg c_36, if_neg c_37, if_neg c_38]) (rfl) rfl
            · refine lv_aload_n hx hb d_Sp_meets_171 rfl (lv_at hl 0 rfl) ?_
              refine va_get (D := D) (ci := 4) (v := .int a4.2.2.2) (C := R_Sp) (T := T_Sp) (N := 8) hx hb hts i_Sp hown hK hP 0 rfl rfl 3 (by decide) (hts _ w_50) (fun _ h9 => h9) rfl d_Sp_meets_172 ?_
              refine lv_aload_n hx hb d_Sp_meets_175 rfl (lv_at hl 1 rfl) ?_
              refine va_get (D := D) (ci := 4) (v := .int b4.2.2.2) (C := R_Sp) (T := T_Sp) (N := 8) hx hb hts i_Sp hown hK hP 1 rfl rfl 3 (by decide) (hts _ w_50) (fun _ h9 => h9) rfl d_Sp_meets_176 ?_
              refine lv_icmp_ne (tgt := 210) hx hb d_Sp_meets_179 (by decide) (fun c_39 => ?_) (fun c_39 => ?_)
              · refine lv_aload_n hx hb d_Sp_meets_210 rfl (lv_at hl 0 rfl) ?_
                refine lv_aload_n hx hb d_Sp_meets_211 rfl (lv_at hl 1 rfl) ?_
                refine pz_i0 (pz_rV (d := 2) (As := [.ref h1]) (rest := []) X hN (c_Sp_lineParts l D cB cI cS h0 h1 a4 b4 _) k_Sp_lineParts w_321 ⟨by decide, by decide⟩ hK hP hD [0, 1] rfl rfl 0 rfl rfl rfl rfl hl.1 rfl (Nat.le_of_ble_eq_true rfl) d_Sp_meets_212 ⟨Nat.zero_le _, Nat.zero_le _⟩) hP hD hS hA [0, 1] rfl (fun H locs hP hS => ?_)
                refine lv_if_eq (tgt := 230) hx hb d_Sp_meets_215 (by decide) (fun c_40 => ?_) (fun c_40 => ?_)
                · refine lv_iconst (v := 0) hx hb d_Sp_meets_230 (by decide) ?_
                  exact fin _ _ _ _ _ _ d_Sp_meets_231 hP hS (by simp only [mts, mt1, mt2, mt3, mt4, mt5, if_pos c_1, if_pos c_2, if_neg c_33, if_neg c_34, if_neg c_35, if_pos c_36, if_neg c_39, if_pos c_40]) (rfl) rfl
                · refine lv_aload_n hx hb d_Sp_meets_218 rfl (lv_at hl 1 rfl) ?_
                  refine lv_aload_n hx hb d_Sp_meets_219 rfl (lv_at hl 0 rfl) ?_
                  refine pz_i0 (pz_rV (d := 2) (As := [.ref h0]) (rest := []) X hN (c_Sp_lineParts l D cB cI cS h1 h0 b4 a4 _) k_Sp_lineParts w_321 ⟨by decide, by decide⟩ hK hP hD [1, 0] rfl rfl 1 rfl rfl rfl rfl hl.1 rfl (Nat.le_of_ble_eq_true rfl) d_Sp_meets_220 ⟨Nat.zero_le _, Nat.zero_le _⟩) hP hD hS hA [1, 0] rfl (fun H locs hP hS => ?_)
                  refine lv_if_eq (tgt := 230) hx hb d_Sp_meets_223 (by decide) (fun c_41 => ?_) (fun c_41 => ?_)
                  · refine lv_iconst (v := 0) hx hb d_Sp_meets_230 (by decide) ?_
                    exact fin _ _ _ _ _ _ d_Sp_meets_231 hP hS (by simp only [mts, mt1, mt2, mt3, mt4, mt5, if_pos c_1, if_pos c_2, if_neg c_33, if_neg c_34, if_neg c_35, if_pos c_36, if_neg c_39, if_neg c_40, if_pos c_41]) (rfl) rfl
                  · refine lv_iconst (v := 1) hx hb d_Sp_meets_226 (by decide) ?_
                    refine lv_goto (tgt := 231) hx hb d_Sp_meets_227 (by decide) ?_
                    exact fin _ _ _ _ _ _ d_Sp_meets_231 hP hS (by simp only [mts, mt1, mt2, mt3, mt4, mt5, if_pos c_1, if_pos c_2, if_neg c_33, if_neg c_34, if_neg c_35, if_pos c_36, if_neg c_39, if_neg c_40, if_neg c_41]) (rfl) rfl
              · refine lv_aload_n hx hb d_Sp_meets_182 rfl (lv_at hl 0 rfl) ?_
                refine va_get (D := D) (ci := 4) (v := .int a4.2.2.1) (C := R_Sp) (T := T_Sp) (N := 8) hx hb hts i_Sp hown hK hP 0 rfl rfl 2 (by decide) (hts _ w_49) (fun _ h9 => h9) rfl d_Sp_meets_183 ?_
                refine lv_aload_n hx hb d_Sp_meets_186 rfl (lv_at hl 0 rfl) ?_
                refine va_get (D := D) (ci := 4) (v := .int a4.2.2.2) (C := R_Sp) (T := T_Sp) (N := 8) hx hb hts i_Sp hown hK hP 0 rfl rfl 3 (by decide) (hts _ w_50) (fun _ h9 => h9) rfl d_Sp_meets_187 ?_
                refine lv_aload_n hx hb d_Sp_meets_190 rfl (lv_at hl 0 rfl) ?_
                refine va_get (D := D) (ci := 4) (v := .int a4.1) (C := R_Sp) (T := T_Sp) (N := 8) hx hb hts i_Sp hown hK hP 0 rfl rfl 0 (by decide) (hts _ w_47) (fun _ h9 => h9) rfl d_Sp_meets_191 ?_
                refine lv_aload_n hx hb d_Sp_meets_194 rfl (lv_at hl 0 rfl) ?_
                refine va_get (D := D) (ci := 4) (v := .int a4.2.1) (C := R_Sp) (T := T_Sp) (N := 8) hx hb hts i_Sp hown hK hP 0 rfl rfl 1 (by decide) (hts _ w_48) (fun _ h9 => h9) rfl d_Sp_meets_195 ?_
                refine lv_aload_n hx hb d_Sp_meets_198 rfl (lv_at hl 1 rfl) ?_
                refine va_get (D := D) (ci := 4) (v := .int b4.1) (C := R_Sp) (T := T_Sp) (N := 8) hx hb hts i_Sp hown hK hP 1 rfl rfl 0 (by decide) (hts _ w_47) (fun _ h9 => h9) rfl d_Sp_meets_199 ?_
                refine lv_aload_n hx hb d_Sp_meets_202 rfl (lv_at hl 1 rfl) ?_
                refine va_get (D := D) (ci := 4) (v := .int b4.2.1) (C := R_Sp) (T := T_Sp) (N := 8) hx hb hts i_Sp hown hK hP 1 rfl rfl 1 (by decide) (hts _ w_48) (fun _ h9 => h9) rfl d_Sp_meets_203 ?_
                refine pz_i0 (pz_rS (d := 1) (As := [.int a4.2.2.1, .int a4.2.2.2, .int a4.1, .int a4.2.1, .int b4.1, .int b4.2.1]) (rest := []) X hN (c_Sp_sameWay l D cB cI cS a4.2.2.1 a4.2.2.2 a4.1 a4.2.1 b4.1 b4.2.1 _) k_Sp_sameWay w_315 ⟨by decide, by decide⟩ hK hP hD [] rfl rfl rfl hl.1 rfl (Nat.le_of_ble_eq_true rfl) d_Sp_meets_206 ⟨Nat.zero_le _, Nat.zero_le _⟩) hP hD hS hA [] rfl (fun H locs hP hS => ?_)
                exact fin _ _ _ _ _ _ d_Sp_meets_209 hP hS (by simp only [mts, mt1, mt2, mt3, mt4, mt5, if_pos c_1, if_pos c_2, if_neg c_33, if_neg c_34, if_neg c_35, if_pos c_36, if_pos c_39]) (rfl) (swy_z _ _ _ _ _ _)
          · refine lv_aload_n hx hb d_Sp_meets_121 rfl (lv_at hl 0 rfl) ?_
            refine va_get (D := D) (ci := 4) (v := .int a4.2.2.2) (C := R_Sp) (T := T_Sp) (N := 8) hx hb hts i_Sp hown hK hP 0 rfl rfl 3 (by decide) (hts _ w_50) (fun _ h9 => h9) rfl d_Sp_meets_122 ?_
            refine lv_aload_n hx hb d_Sp_meets_125 rfl (lv_at hl 1 rfl) ?_
            refine va_get (D := D) (ci := 4) (v := .int b4.2.1) (C := R_Sp) (T := T_Sp) (N := 8) hx hb hts i_Sp hown hK hP 1 rfl rfl 1 (by decide) (hts _ w_48) (fun _ h9 => h9) rfl d_Sp_meets_126 ?_
            refine lv_icmp_ne (tgt := 160) hx hb d_Sp_meets_129 (by decide) (fun c_42 => ?_) (fun c_42 => ?_)
            · refine lv_aload_n hx hb d_Sp_meets_160 rfl (lv_at hl 0 rfl) ?_
              refine va_get (D := D) (ci := 4) (v := .int a4.2.2.1) (C := R_Sp) (T := T_Sp) (N := 8) hx hb hts i_Sp hown hK hP 0 rfl rfl 2 (by decide) (hts _ w_49) (fun _ h9 => h9) rfl d_Sp_meets_161 ?_
              refine lv_aload_n hx hb d_Sp_meets_164 rfl (lv_at hl 1 rfl) ?_
              refine va_get (D := D) (ci := 4) (v := .int b4.2.2.1) (C := R_Sp) (T := T_Sp) (N := 8) hx hb hts i_Sp hown hK hP 1 rfl rfl 2 (by decide) (hts _ w_49) (fun _ h9 => h9) rfl d_Sp_meets_165 ?_
              refine lv_icmp_ne (tgt := 210) hx hb d_Sp_meets_168 (by decide) (fun c_43 => ?_) (fun c_43 => ?_)
              · refine lv_aload_n hx hb d_Sp_meets_210 rfl (lv_at hl 0 rfl) ?_
                refine lv_aload_n hx hb d_Sp_meets_211 rfl (lv_at hl 1 rfl) ?_
                refine pz_i0 (pz_rV (d := 2) (As := [.ref h1]) (rest := []) X hN (c_Sp_lineParts l D cB cI cS h0 h1 a4 b4 _) k_Sp_lineParts w_321 ⟨by decide, by decide⟩ hK hP hD [0, 1] rfl rfl 0 rfl rfl rfl rfl hl.1 rfl (Nat.le_of_ble_eq_true rfl) d_Sp_meets_212 ⟨Nat.zero_le _, Nat.zero_le _⟩) hP hD hS hA [0, 1] rfl (fun H locs hP hS => ?_)
                refine lv_if_eq (tgt := 230) hx hb d_Sp_meets_215 (by decide) (fun c_44 => ?_) (fun c_44 => ?_)
                · refine lv_iconst (v := 0) hx hb d_Sp_meets_230 (by decide) ?_
                  exact fin _ _ _ _ _ _ d_Sp_meets_231 hP hS (by simp only [mts, mt1, mt2, mt3, mt4, mt5, if_pos c_1, if_pos c_2, if_neg c_33, if_neg c_34, if_pos c_35, if_neg c_42, if_neg c_43, if_pos c_44]) (rfl) rfl
                · refine lv_aload_n hx hb d_Sp_meets_218 rfl (lv_at hl 1 rfl) ?_
                  refine lv_aload_n hx hb d_Sp_meets_219 rfl (lv_at hl 0 rfl) ?_
                  refine pz_i0 (pz_rV (d := 2) (As := [.ref h0]) (rest := []) X hN (c_Sp_lineParts l D cB cI cS h1 h0 b4 a4 _) k_Sp_lineParts w_321 ⟨by decide, by decide⟩ hK hP hD [1, 0] rfl rfl 1 rfl rfl rfl rfl hl.1 rfl (Nat.le_of_ble_eq_true rfl) d_Sp_meets_220 ⟨Nat.zero_le _, Nat.zero_le _⟩) hP hD hS hA [1, 0] rfl (fun H locs hP hS => ?_)
                  refine lv_if_eq (tgt := 230) hx hb d_Sp_meets_223 (by decide) (fun c_45 => ?_) (fun c_45 => ?_)
                  · refine lv_iconst (v := 0) hx hb d_Sp_meets_230 (by decide) ?_
                    exact fin _ _ _ _ _ _ d_Sp_meets_231 hP hS (by simp only [mts, mt1, mt2, mt3, mt4, mt5, if_pos c_1, if_pos c_2, if_neg c_33, if_neg c_34, if_pos c_35, if_neg c_42, if_neg c_43, if_neg c_44, if_pos c_45]) (rfl) rfl
                  · refine lv_iconst (v := 1) hx hb d_Sp_meets_226 (by decide) ?_
                    refine lv_goto (tgt := 231) hx hb d_Sp_meets_227 (by decide) ?_
                    exact fin _ _ _ _ _ _ d_Sp_meets_231 hP hS (by simp only [mts, mt1, mt2, mt3, mt4, mt5, if_pos c_1, if_pos c_2, if_neg c_33, if_neg c_34, if_pos c_35, if_neg c_42, if_neg c_43, if_neg c_44, if_neg c_45]) (rfl) rfl
              · refine lv_aload_n hx hb d_Sp_meets_171 rfl (lv_at hl 0 rfl) ?_
                refine va_get (D := D) (ci := 4) (v := .int a4.2.2.2) (C := R_Sp) (T := T_Sp) (N := 8) hx hb hts i_Sp hown hK hP 0 rfl rfl 3 (by decide) (hts _ w_50) (fun _ h9 => h9) rfl d_Sp_meets_172 ?_
                refine lv_aload_n hx hb d_Sp_meets_175 rfl (lv_at hl 1 rfl) ?_
                refine va_get (D := D) (ci := 4) (v := .int b4.2.2.2) (C := R_Sp) (T := T_Sp) (N := 8) hx hb hts i_Sp hown hK hP 1 rfl rfl 3 (by decide) (hts _ w_50) (fun _ h9 => h9) rfl d_Sp_meets_176 ?_
                refine lv_icmp_ne (tgt := 210) hx hb d_Sp_meets_179 (by decide) (fun c_46 => ?_) (fun c_46 => ?_)
                · refine lv_aload_n hx hb d_Sp_meets_210 rfl (lv_at hl 0 rfl) ?_
                  refine lv_aload_n hx hb d_Sp_meets_211 rfl (lv_at hl 1 rfl) ?_
                  refine pz_i0 (pz_rV (d := 2) (As := [.ref h1]) (rest := []) X hN (c_Sp_lineParts l D cB cI cS h0 h1 a4 b4 _) k_Sp_lineParts w_321 ⟨by decide, by decide⟩ hK hP hD [0, 1] rfl rfl 0 rfl rfl rfl rfl hl.1 rfl (Nat.le_of_ble_eq_true rfl) d_Sp_meets_212 ⟨Nat.zero_le _, Nat.zero_le _⟩) hP hD hS hA [0, 1] rfl (fun H locs hP hS => ?_)
                  refine lv_if_eq (tgt := 230) hx hb d_Sp_meets_215 (by decide) (fun c_47 => ?_) (fun c_47 => ?_)
                  · refine lv_iconst (v := 0) hx hb d_Sp_meets_230 (by decide) ?_
                    exact fin _ _ _ _ _ _ d_Sp_meets_231 hP hS (by simp only [mts, mt1, mt2, mt3, mt4, mt5, if_pos c_1, if_pos c_2, if_neg c_33, if_neg c_34, if_pos c_35, if_neg c_42, if_pos c_43, if_neg c_46, if_pos c_47]) (rfl) rfl
                  · refine lv_aload_n hx hb d_Sp_meets_218 rfl (lv_at hl 1 rfl) ?_
                    refine lv_aload_n hx hb d_Sp_meets_219 rfl (lv_at hl 0 rfl) ?_
                    refine pz_i0 (pz_rV (d := 2) (As := [.ref h0]) (rest := []) X hN (c_Sp_lineParts l D cB cI cS h1 h0 b4 a4 _) k_Sp_lineParts w_321 ⟨by decide, by decide⟩ hK hP hD [1, 0] rfl rfl 1 rfl rfl rfl rfl hl.1 rfl (Nat.le_of_ble_eq_true rfl) d_Sp_meets_220 ⟨Nat.zero_le _, Nat.zero_le _⟩) hP hD hS hA [1, 0] rfl (fun H locs hP hS => ?_)
                    refine lv_if_eq (tgt := 230) hx hb d_Sp_meets_223 (by decide) (fun c_48 => ?_) (fun c_48 => ?_)
                    · refine lv_iconst (v := 0) hx hb d_Sp_meets_230 (by decide) ?_
                      exact fin _ _ _ _ _ _ d_Sp_meets_231 hP hS (by simp only [mts, mt1, mt2, mt3, mt4, mt5, if_pos c_1, if_pos c_2, if_neg c_33, if_neg c_34, if_pos c_35, if_neg c_42, if_pos c_43, if_neg c_46, if_neg c_47, if_pos c_48]) (rfl) rfl
                    · refine lv_iconst (v := 1) hx hb d_Sp_meets_226 (by decide) ?_
                      refine lv_goto (tgt := 231) hx hb d_Sp_meets_227 (by decide) ?_
                      exact fin _ _ _ _ _ _ d_Sp_meets_231 hP hS (by simp only [mts, mt1, mt2, mt3, mt4, mt5, if_pos c_1, if_pos c_2, if_neg c_33, if_neg c_34, if_pos c_35, if_neg c_42, if_pos c_43, if_neg c_46, if_neg c_47, if_neg c_48]) (rfl) rfl
                · refine lv_aload_n hx hb d_Sp_meets_182 rfl (lv_at hl 0 rfl) ?_
                  refine va_get (D := D) (ci := 4) (v := .int a4.2.2.1) (C := R_Sp) (T := T_Sp) (N := 8) hx hb hts i_Sp hown hK hP 0 rfl rfl 2 (by decide) (hts _ w_49) (fun _ h9 => h9) rfl d_Sp_meets_183 ?_
                  refine lv_aload_n hx hb d_Sp_meets_186 rfl (lv_at hl 0 rfl) ?_
                  refine va_get (D := D) (ci := 4) (v := .int a4.2.2.2) (C := R_Sp) (T := T_Sp) (N := 8) hx hb hts i_Sp hown hK hP 0 rfl rfl 3 (by decide) (hts _ w_50) (fun _ h9 => h9) rfl d_Sp_meets_187 ?_
                  refine lv_aload_n hx hb d_Sp_meets_190 rfl (lv_at hl 0 rfl) ?_
                  refine va_get (D := D) (ci := 4) (v := .int a4.1) (C := R_Sp) (T := T_Sp) (N := 8) hx hb hts i_Sp hown hK hP 0 rfl rfl 0 (by decide) (hts _ w_47) (fun _ h9 => h9) rfl d_Sp_meets_191 ?_
                  refine lv_aload_n hx hb d_Sp_meets_194 rfl (lv_at hl 0 rfl) ?_
                  refine va_get (D := D) (ci := 4) (v := .int a4.2.1) (C := R_Sp) (T := T_Sp) (N := 8) hx hb hts i_Sp hown hK hP 0 rfl rfl 1 (by decide) (hts _ w_48) (fun _ h9 => h9) rfl d_Sp_meets_195 ?_
                  refine lv_aload_n hx hb d_Sp_meets_198 rfl (lv_at hl 1 rfl) ?_
                  refine va_get (D := D) (ci := 4) (v := .int b4.1) (C := R_Sp) (T := T_Sp) (N := 8) hx hb hts i_Sp hown hK hP 1 rfl rfl 0 (by decide) (hts _ w_47) (fun _ h9 => h9) rfl d_Sp_meets_199 ?_
                  refine lv_aload_n hx hb d_Sp_meets_202 rfl (lv_at hl 1 rfl) ?_
                  refine va_get (D := D) (ci := 4) (v := .int b4.2.1) (C := R_Sp) (T := T_Sp) (N := 8) hx hb hts i_Sp hown hK hP 1 rfl rfl 1 (by decide) (hts _ w_48) (fun _ h9 => h9) rfl d_Sp_meets_203 ?_
                  refine pz_i0 (pz_rS (d := 1) (As := [.int a4.2.2.1, .int a4.2.2.2, .int a4.1, .int a4.2.1, .int b4.1, .int b4.2.1]) (rest := []) X hN (c_Sp_sameWay l D cB cI cS a4.2.2.1 a4.2.2.2 a4.1 a4.2.1 b4.1 b4.2.1 _) k_Sp_sameWay w_315 ⟨by decide, by decide⟩ hK hP hD [] rfl rfl rfl hl.1 rfl (Nat.le_of_ble_eq_true rfl) d_Sp_meets_206 ⟨Nat.zero_le _, Nat.zero_le _⟩) hP hD hS hA [] rfl (fun H locs hP hS => ?_)
                  exact fin _ _ _ _ _ _ d_Sp_meets_209 hP hS (by simp only [mts, mt1, mt2, mt3, mt4, mt5, if_pos c_1, if_pos c_2, if_neg c_33, if_neg c_34, if_pos c_35, if_neg c_42, if_pos c_43, if_pos c_46]) (rfl) (swy_z _ _ _ _ _ _)
            · refine lv_aload_n hx hb d_Sp_meets_132 rfl (lv_at hl 0 rfl) ?_
              refine va_get (D := D) (ci := 4) (v := .int a4.2.2.1) (C := R_Sp) (T := T_Sp) (N := 8) hx hb hts i_Sp hown hK hP 0 rfl rfl 2 (by decide) (hts _ w_49) (fun _ h9 => h9) rfl d_Sp_meets_133 ?_
              refine lv_aload_n hx hb d_Sp_meets_136 rfl (lv_at hl 0 rfl) ?_
              refine va_get (D := D) (ci := 4) (v := .int a4.2.2.2) (C := R_Sp) (T := T_Sp) (N := 8) hx hb hts i_Sp hown hK hP 0 rfl rfl 3 (by decide) (hts _ w_50) (fun _ h9 => h9) rfl d_Sp_meets_137 ?_
              refine lv_aload_n hx hb d_Sp_meets_140 rfl (lv_at hl 0 rfl) ?_
              refine va_get (D := D) (ci := 4) (v := .int a4.1) (C := R_Sp) (T := T_Sp) (N := 8) hx hb hts i_Sp hown hK hP 0 rfl rfl 0 (by decide) (hts _ w_47) (fun _ h9 => h9) rfl d_Sp_meets_141 ?_
              refine lv_aload_n hx hb d_Sp_meets_144 rfl (lv_at hl 0 rfl) ?_
              refine va_get (D := D) (ci := 4) (v := .int a4.2.1) (C := R_Sp) (T := T_Sp) (N := 8) hx hb hts i_Sp hown hK hP 0 rfl rfl 1 (by decide) (hts _ w_48) (fun _ h9 => h9) rfl d_Sp_meets_145 ?_
              refine lv_aload_n hx hb d_Sp_meets_148 rfl (lv_at hl 1 rfl) ?_
              refine va_get (D := D) (ci := 4) (v := .int b4.2.2.1) (C := R_Sp) (T := T_Sp) (N := 8) hx hb hts i_Sp hown hK hP 1 rfl rfl 2 (by decide) (hts _ w_49) (fun _ h9 => h9) rfl d_Sp_meets_149 ?_
              refine lv_aload_n hx hb d_Sp_meets_152 rfl (lv_at hl 1 rfl) ?_
              refine va_get (D := D) (ci := 4) (v := .int b4.2.2.2) (C := R_Sp) (T := T_Sp) (N := 8) hx hb hts i_Sp hown hK hP 1 rfl rfl 3 (by decide) (hts _ w_50) (fun _ h9 => h9) rfl d_Sp_meets_153 ?_
              refine pz_i0 (pz_rS (d := 1) (As := [.int a4.2.2.1, .int a4.2.2.2, .int a4.1, .int a4.2.1, .int b4.2.2.1, .int b4.2.2.2]) (rest := []) X hN (c_Sp_sameWay l D cB cI cS a4.2.2.1 a4.2.2.2 a4.1 a4.2.1 b4.2.2.1 b4.2.2.2 _) k_Sp_sameWay w_315 ⟨by decide, by decide⟩ hK hP hD [] rfl rfl rfl hl.1 rfl (Nat.le_of_ble_eq_true rfl) d_Sp_meets_156 ⟨Nat.zero_le _, Nat.zero_le _⟩) hP hD hS hA [] rfl (fun H locs hP hS => ?_)
              exact fin _ _ _ _ _ _ d_Sp_meets_159 hP hS (by simp only [mts, mt1, mt2, mt3, mt4, mt5, if_pos c_1, if_pos c_2, if_neg c_33, if_neg c_34, if_pos c_35, if_pos c_42]) (rfl) (swy_z _ _ _ _ _ _)
        · refine lv_aload_n hx hb d_Sp_meets_71 rfl (lv_at hl 0 rfl) ?_
          refine va_get (D := D) (ci := 4) (v := .int a4.2.1) (C := R_Sp) (T := T_Sp) (N := 8) hx hb hts i_Sp hown hK hP 0 rfl rfl 1 (by decide) (hts _ w_48) (fun _ h9 => h9) rfl d_Sp_meets_72 ?_
          refine lv_aload_n hx hb d_Sp_meets_75 rfl (lv_at hl 1 rfl) ?_
          refine va_get (D := D) (ci := 4) (v := .int b4.2.2.2) (C := R_Sp) (T := T_Sp) (N := 8) hx hb hts i_Sp hown hK hP 1 rfl rfl 3 (by decide) (hts _ w_50) (fun _ h9 => h9) rfl d_Sp_meets_76 ?_
          refine lv_icmp_ne (tgt := 110) hx hb d_Sp_meets_79 (by decide) (fun c_49 => ?_) (fun c_49 => ?_)
          · refine lv_aload_n hx hb d_Sp_meets_110 rfl (lv_at hl 0 rfl) ?_
            refine va_get (D := D) (ci := 4) (v := .int a4.2.2.1) (C := R_Sp) (T := T_Sp) (N := 8) hx hb hts i_Sp hown hK hP 0 rfl rfl 2 (by decide) (hts _ w_49) (fun _ h9 => h9) rfl d_Sp_meets_111 ?_
            refine lv_aload_n hx hb d_Sp_meets_114 rfl (lv_at hl 1 rfl) ?_
            refine va_get (D := D) (ci := 4) (v := .int b4.1) (C := R_Sp) (T := T_Sp) (N := 8) hx hb hts i_Sp hown hK hP 1 rfl rfl 0 (by decide) (hts _ w_47) (fun _ h9 => h9) rfl d_Sp_meets_115 ?_
            refine lv_icmp_ne (tgt := 160) hx hb d_Sp_meets_118 (by decide) (fun c_50 => ?_) (fun c_50 => ?_)
            · refine lv_aload_n hx hb d_Sp_meets_160 rfl (lv_at hl 0 rfl) ?_
              refine va_get (D := D) (ci := 4) (v := .int a4.2.2.1) (C := R_Sp) (T := T_Sp) (N := 8) hx hb hts i_Sp hown hK hP 0 rfl rfl 2 (by decide) (hts _ w_49) (fun _ h9 => h9) rfl d_Sp_meets_161 ?_
              refine lv_aload_n hx hb d_Sp_meets_164 rfl (lv_at hl 1 rfl) ?_
              refine va_get (D := D) (ci := 4) (v := .int b4.2.2.1) (C := R_Sp) (T := T_Sp) (N := 8) hx hb hts i_Sp hown hK hP 1 rfl rfl 2 (by decide) (hts _ w_49) (fun _ h9 => h9) rfl d_Sp_meets_165 ?_
              refine lv_icmp_ne (tgt := 210) hx hb d_Sp_meets_168 (by decide) (fun c_51 => ?_) (fun c_51 => ?_)
              · refine lv_aload_n hx hb d_Sp_meets_210 rfl (lv_at hl 0 rfl) ?_
                refine lv_aload_n hx hb d_Sp_meets_211 rfl (lv_at hl 1 rfl) ?_
                refine pz_i0 (pz_rV (d := 2) (As := [.ref h1]) (rest := []) X hN (c_Sp_lineParts l D cB cI cS h0 h1 a4 b4 _) k_Sp_lineParts w_321 ⟨by decide, by decide⟩ hK hP hD [0, 1] rfl rfl 0 rfl rfl rfl rfl hl.1 rfl (Nat.le_of_ble_eq_true rfl) d_Sp_meets_212 ⟨Nat.zero_le _, Nat.zero_le _⟩) hP hD hS hA [0, 1] rfl (fun H locs hP hS => ?_)
                refine lv_if_eq (tgt := 230) hx hb d_Sp_meets_215 (by decide) (fun c_52 => ?_) (fun c_52 => ?_)
                · refine lv_iconst (v := 0) hx hb d_Sp_meets_230 (by decide) ?_
                  exact fin _ _ _ _ _ _ d_Sp_meets_231 hP hS (by simp only [mts, mt1, mt2, mt3, mt4, mt5, if_pos c_1, if_pos c_2, if_neg c_33, if_pos c_34, if_neg c_49, if_neg c_50, if_neg c_51, if_pos c_52]) (rfl) rfl
                · refine lv_aload_n hx hb d_Sp_meets_218 rfl (lv_at hl 1 rfl) ?_
                  refine lv_aload_n hx hb d_Sp_meets_219 rfl (lv_at hl 0 rfl) ?_
                  refine pz_i0 (pz_rV (d := 2) (As := [.ref h0]) (rest := []) X hN (c_Sp_lineParts l D cB cI cS h1 h0 b4 a4 _) k_Sp_lineParts w_321 ⟨by decide, by decide⟩ hK hP hD [1, 0] rfl rfl 1 rfl rfl rfl rfl hl.1 rfl (Nat.le_of_ble_eq_true rfl) d_Sp_meets_220 ⟨Nat.zero_le _, Nat.zero_le _⟩) hP hD hS hA [1, 0] rfl (fun H locs hP hS => ?_)
                  refine lv_if_eq (tgt := 230) hx hb d_Sp_meets_223 (by decide) (fun c_53 => ?_) (fun c_53 => ?_)
                  · refine lv_iconst (v := 0) hx hb d_Sp_meets_230 (by decide) ?_
                    exact fin _ _ _ _ _ _ d_Sp_meets_231 hP hS (by simp only [mts, mt1, mt2, mt3, mt4, mt5, if_pos c_1, if_pos c_2, if_neg c_33, if_pos c_34, if_neg c_49, if_neg c_50, if_neg c_51, if_neg c_52, if_pos c_53]) (rfl) rfl
                  · refine lv_iconst (v := 1) hx hb d_Sp_meets_226 (by decide) ?_
                    refine lv_goto (tgt := 231) hx hb d_Sp_meets_227 (by decide) ?_
                    exact fin _ _ _ _ _ _ d_Sp_meets_231 hP hS (by simp only [mts, mt1, mt2, mt3, mt4, mt5, if_pos c_1, if_pos c_2, if_neg c_33, if_pos c_34, if_neg c_49, if_neg c_50, if_neg c_51, if_neg c_52, if_neg c_53]) (rfl) rfl
              · refine lv_aload_n hx hb d_Sp_meets_171 rfl (lv_at hl 0 rfl) ?_
                refine va_get (D := D) (ci := 4) (v := .int a4.2.2.2) (C := R_Sp) (T := T_Sp) (N := 8) hx hb hts i_Sp hown hK hP 0 rfl rfl 3 (by decide) (hts _ w_50) (fun _ h9 => h9) rfl d_Sp_meets_172 ?_
                refine lv_aload_n hx hb d_Sp_meets_175 rfl (lv_at hl 1 rfl) ?_
                refine va_get (D := D) (ci := 4) (v := .int b4.2.2.2) (C := R_Sp) (T := T_Sp) (N := 8) hx hb hts i_Sp hown hK hP 1 rfl rfl 3 (by decide) (hts _ w_50) (fun _ h9 => h9) rfl d_Sp_meets_176 ?_
                refine lv_icmp_ne (tgt := 210) hx hb d_Sp_meets_179 (by decide) (fun c_54 => ?_) (fun c_54 => ?_)
                · refine lv_aload_n hx hb d_Sp_meets_210 rfl (lv_at hl 0 rfl) ?_
                  refine lv_aload_n hx hb d_Sp_meets_211 rfl (lv_at hl 1 rfl) ?_
                  refine pz_i0 (pz_rV (d := 2) (As := [.ref h1]) (rest := []) X hN (c_Sp_lineParts l D cB cI cS h0 h1 a4 b4 _) k_Sp_lineParts w_321 ⟨by decide, by decide⟩ hK hP hD [0, 1] rfl rfl 0 rfl rfl rfl rfl hl.1 rfl (Nat.le_of_ble_eq_true rfl) d_Sp_meets_212 ⟨Nat.zero_le _, Nat.zero_le _⟩) hP hD hS hA [0, 1] rfl (fun H locs hP hS => ?_)
                  refine lv_if_eq (tgt := 230) hx hb d_Sp_meets_215 (by decide) (fun c_55 => ?_) (fun c_55 => ?_)
                  · refine lv_iconst (v := 0) hx hb d_Sp_meets_230 (by decide) ?_
                    exact fin _ _ _ _ _ _ d_Sp_meets_231 hP hS (by simp only [mts, mt1, mt2, mt3, mt4, mt5, if_pos c_1, if_pos c_2, if_neg c_33, if_pos c_34, if_neg c_49, if_neg c_50, if_pos c_51, if_neg c_54, if_pos c_55]) (rfl) rfl
                  · refine lv_aload_n hx hb d_Sp_meets_218 rfl (lv_at hl 1 rfl) ?_
                    refine lv_aload_n hx hb d_Sp_meets_219 rfl (lv_at hl 0 rfl) ?_
                    refine pz_i0 (pz_rV (d := 2) (As := [.ref h0]) (rest := []) X hN (c_Sp_lineParts l D cB cI cS h1 h0 b4 a4 _) k_Sp_lineParts w_321 ⟨by decide, by decide⟩ hK hP hD [1, 0] rfl rfl 1 rfl rfl rfl rfl hl.1 rfl (Nat.le_of_ble_eq_true rfl) d_Sp_meets_220 ⟨Nat.zero_le _, Nat.zero_le _⟩) hP hD hS hA [1, 0] rfl (fun H locs hP hS => ?_)
                    refine lv_if_eq (tgt := 230) hx hb d_Sp_meets_223 (by decide) (fun c_56 => ?_) (fun c_56 => ?_)
                    · refine lv_iconst (v := 0) hx hb d_Sp_meets_230 (by decide) ?_
                      exact fin _ _ _ _ _ _ d_Sp_meets_231 hP hS (by simp only [mts, mt1, mt2, mt3, mt4, mt5, if_pos c_1, if_pos c_2, if_neg c_33, if_pos c_34, if_neg c_49, if_neg c_50, if_pos c_51, if_neg c_54, if_neg c_55, if_pos c_56]) (rfl) rfl
                    · refine lv_iconst (v := 1) hx hb d_Sp_meets_226 (by decide) ?_
                      refine lv_goto (tgt := 231) hx hb d_Sp_meets_227 (by decide) ?_
                      exact fin _ _ _ _ _ _ d_Sp_meets_231 hP hS (by simp only [mts, mt1, mt2, mt3, mt4, mt5, if_pos c_1, if_pos c_2, if_neg c_33, if_pos c_34, if_neg c_49, if_neg c_50, if_pos c_51, if_neg c_54, if_neg c_55, if_neg c_56]) (rfl) rfl
                · refine lv_aload_n hx hb d_Sp_meets_182 rfl (lv_at hl 0 rfl) ?_
                  refine va_get (D := D) (ci := 4) (v := .int a4.2.2.1) (C := R_Sp) (T := T_Sp) (N := 8) hx hb hts i_Sp hown hK hP 0 rfl rfl 2 (by decide) (hts _ w_49) (fun _ h9 => h9) rfl d_Sp_meets_183 ?_
                  refine lv_aload_n hx hb d_Sp_meets_186 rfl (lv_at hl 0 rfl) ?_
                  refine va_get (D := D) (ci := 4) (v := .int a4.2.2.2) (C := R_Sp) (T := T_Sp) (N := 8) hx hb hts i_Sp hown hK hP 0 rfl rfl 3 (by decide) (hts _ w_50) (fun _ h9 => h9) rfl d_Sp_meets_187 ?_
                  refine lv_aload_n hx hb d_Sp_meets_190 rfl (lv_at hl 0 rfl) ?_
                  refine va_get (D := D) (ci := 4) (v := .int a4.1) (C := R_Sp) (T := T_Sp) (N := 8) hx hb hts i_Sp hown hK hP 0 rfl rfl 0 (by decide) (hts _ w_47) (fun _ h9 => h9) rfl d_Sp_meets_191 ?_
                  refine lv_aload_n hx hb d_Sp_meets_194 rfl (lv_at hl 0 rfl) ?_
                  refine va_get (D := D) (ci := 4) (v := .int a4.2.1) (C := R_Sp) (T := T_Sp) (N := 8) hx hb hts i_Sp hown hK hP 0 rfl rfl 1 (by decide) (hts _ w_48) (fun _ h9 => h9) rfl d_Sp_meets_195 ?_
                  refine lv_aload_n hx hb d_Sp_meets_198 rfl (lv_at hl 1 rfl) ?_
                  refine va_get (D := D) (ci := 4) (v := .int b4.1) (C := R_Sp) (T := T_Sp) (N := 8) hx hb hts i_Sp hown hK hP 1 rfl rfl 0 (by decide) (hts _ w_47) (fun _ h9 => h9) rfl d_Sp_meets_199 ?_
                  refine lv_aload_n hx hb d_Sp_meets_202 rfl (lv_at hl 1 rfl) ?_
                  refine va_get (D := D) (ci := 4) (v := .int b4.2.1) (C := R_Sp) (T := T_Sp) (N := 8) hx hb hts i_Sp hown hK hP 1 rfl rfl 1 (by decide) (hts _ w_48) (fun _ h9 => h9) rfl d_Sp_meets_203 ?_
                  refine pz_i0 (pz_rS (d := 1) (As := [.int a4.2.2.1, .int a4.2.2.2, .int a4.1, .int a4.2.1, .int b4.1, .int b4.2.1]) (rest := []) X hN (c_Sp_sameWay l D cB cI cS a4.2.2.1 a4.2.2.2 a4.1 a4.2.1 b4.1 b4.2.1 _) k_Sp_sameWay w_315 ⟨by decide, by decide⟩ hK hP hD [] rfl rfl rfl hl.1 rfl (Nat.le_of_ble_eq_true rfl) d_Sp_meets_206 ⟨Nat.zero_le _, Nat.zero_le _⟩) hP hD hS hA [] rfl (fun H locs hP hS => ?_)
                  exact fin _ _ _ _ _ _ d_Sp_meets_209 hP hS (by simp only [mts, mt1, mt2, mt3, mt4, mt5, if_pos c_1, if_pos c_2, if_neg c_33, if_pos c_34, if_neg c_49, if_neg c_50, if_pos c_51, if_pos c_54]) (rfl) (swy_z _ _ _ _ _ _)
            · refine lv_aload_n hx hb d_Sp_meets_121 rfl (lv_at hl 0 rfl) ?_
              refine va_get (D := D) (ci := 4) (v := .int a4.2.2.2) (C := R_Sp) (T := T_Sp) (N := 8) hx hb hts i_Sp hown hK hP 0 rfl rfl 3 (by decide) (hts _ w_50) (fun _ h9 => h9) rfl d_Sp_meets_122 ?_
              refine lv_aload_n hx hb d_Sp_meets_125 rfl (lv_at hl 1 rfl) ?_
              refine va_get (D := D) (ci := 4) (v := .int b4.2.1) (C := R_Sp) (T := T_Sp) (N := 8) hx hb hts i_Sp hown hK hP 1 rfl rfl 1 (by decide) (hts _ w_48) (fun _ h9 => h9) rfl d_Sp_meets_126 ?_
              refine lv_icmp_ne (tgt := 160) hx hb d_Sp_meets_129 (by decide) (fun c_57 => ?_) (fun c_57 => ?_)
              · refine lv_aload_n hx hb d_Sp_meets_160 rfl (lv_at hl 0 rfl) ?_
                refine va_get (D := D) (ci := 4) (v := .int a4.2.2.1) (C := R_Sp) (T := T_Sp) (N := 8) hx hb hts i_Sp hown hK hP 0 rfl rfl 2 (by decide) (hts _ w_49) (fun _ h9 => h9) rfl d_Sp_meets_161 ?_
                refine lv_aload_n hx hb d_Sp_meets_164 rfl (lv_at hl 1 rfl) ?_
                refine va_get (D := D) (ci := 4) (v := .int b4.2.2.1) (C := R_Sp) (T := T_Sp) (N := 8) hx hb hts i_Sp hown hK hP 1 rfl rfl 2 (by decide) (hts _ w_49) (fun _ h9 => h9) rfl d_Sp_meets_165 ?_
                refine lv_icmp_ne (tgt := 210) hx hb d_Sp_meets_168 (by decide) (fun c_58 => ?_) (fun c_58 => ?_)
                · refine lv_aload_n hx hb d_Sp_meets_210 rfl (lv_at hl 0 rfl) ?_
                  refine lv_aload_n hx hb d_Sp_meets_211 rfl (lv_at hl 1 rfl) ?_
                  refine pz_i0 (pz_rV (d := 2) (As := [.ref h1]) (rest := []) X hN (c_Sp_lineParts l D cB cI cS h0 h1 a4 b4 _) k_Sp_lineParts w_321 ⟨by decide, by decide⟩ hK hP hD [0, 1] rfl rfl 0 rfl rfl rfl rfl hl.1 rfl (Nat.le_of_ble_eq_true rfl) d_Sp_meets_212 ⟨Nat.zero_le _, Nat.zero_le _⟩) hP hD hS hA [0, 1] rfl (fun H locs hP hS => ?_)
                  refine lv_if_eq (tgt := 230) hx hb d_Sp_meets_215 (by decide) (fun c_59 => ?_) (fun c_59 => ?_)
                  · refine lv_iconst (v := 0) hx hb d_Sp_meets_230 (by decide) ?_
                    exact fin _ _ _ _ _ _ d_Sp_meets_231 hP hS (by simp only [mts, mt1, mt2, mt3, mt4, mt5, if_pos c_1, if_pos c_2, if_neg c_33, if_pos c_34, if_neg c_49, if_pos c_50, if_neg c_57, if_neg c_58, if_pos c_59]) (rfl) rfl
                  · refine lv_aload_n hx hb d_Sp_meets_218 rfl (lv_at hl 1 rfl) ?_
                    refine lv_aload_n hx hb d_Sp_meets_219 rfl (lv_at hl 0 rfl) ?_
                    refine pz_i0 (pz_rV (d := 2) (As := [.ref h0]) (rest := []) X hN (c_Sp_lineParts l D cB cI cS h1 h0 b4 a4 _) k_Sp_lineParts w_321 ⟨by decide, by decide⟩ hK hP hD [1, 0] rfl rfl 1 rfl rfl rfl rfl hl.1 rfl (Nat.le_of_ble_eq_true rfl) d_Sp_meets_220 ⟨Nat.zero_le _, Nat.zero_le _⟩) hP hD hS hA [1, 0] rfl (fun H locs hP hS => ?_)
                    refine lv_if_eq (tgt := 230) hx hb d_Sp_meets_223 (by decide) (fun c_60 => ?_) (fun c_60 => ?_)
                    · refine lv_iconst (v := 0) hx hb d_Sp_meets_230 (by decide) ?_
                      exact fin _ _ _ _ _ _ d_Sp_meets_231 hP hS (by simp only [mts, mt1, mt2, mt3, mt4, mt5, if_pos c_1, if_pos c_2, if_neg c_33, if_pos c_34, if_neg c_49, if_pos c_50, if_neg c_57, if_neg c_58, if_neg c_59, if_pos c_60]) (rfl) rfl
                    · refine lv_iconst (v := 1) hx hb d_Sp_meets_226 (by decide) ?_
                      refine lv_goto (tgt := 231) hx hb d_Sp_meets_227 (by decide) ?_
                      exact fin _ _ _ _ _ _ d_Sp_meets_231 hP hS (by simp only [mts, mt1, mt2, mt3, mt4, mt5, if_pos c_1, if_pos c_2, if_neg c_33, if_pos c_34, if_neg c_49, if_pos c_50, if_neg c_57, if_neg c_58, if_neg c_59, if_neg c_60]) (rfl) rfl
                · refine lv_aload_n hx hb d_Sp_meets_171 rfl (lv_at hl 0 rfl) ?_
                  refine va_get (D := D) (ci := 4) (v := .int a4.2.2.2) (C := R_Sp) (T := T_Sp) (N := 8) hx hb hts i_Sp hown hK hP 0 rfl rfl 3 (by decide) (hts _ w_50) (fun _ h9 => h9) rfl d_Sp_meets_172 ?_
                  refine lv_aload_n hx hb d_Sp_meets_175 rfl (lv_at hl 1 rfl) ?_
                  refine va_get (D := D) (ci := 4) (v := .int b4.2.2.2) (C := R_Sp) (T := T_Sp) (N := 8) hx hb hts i_Sp hown hK hP 1 rfl rfl 3 (by decide) (hts _ w_50) (fun _ h9 => h9) rfl d_Sp_meets_176 ?_
                  refine lv_icmp_ne (tgt := 210) hx hb d_Sp_meets_179 (by decide) (fun c_61 => ?_) (fun c_61 => ?_)
                  · refine lv_aload_n hx hb d_Sp_meets_210 rfl (lv_at hl 0 rfl) ?_
                    refine lv_aload_n hx hb d_Sp_meets_211 rfl (lv_at hl 1 rfl) ?_
                    refine pz_i0 (pz_rV (d := 2) (As := [.ref h1]) (rest := []) X hN (c_Sp_lineParts l D cB cI cS h0 h1 a4 b4 _) k_Sp_lineParts w_321 ⟨by decide, by decide⟩ hK hP hD [0, 1] rfl rfl 0 rfl rfl rfl rfl hl.1 rfl (Nat.le_of_ble_eq_true rfl) d_Sp_meets_212 ⟨Nat.zero_le _, Nat.zero_le _⟩) hP hD hS hA [0, 1] rfl (fun H locs hP hS => ?_)
                    refine lv_if_eq (tgt := 230) hx hb d_Sp_meets_215 (by decide) (fun c_62 => ?_) (fun c_62 => ?_)
                    · refine lv_iconst (v := 0) hx hb d_Sp_meets_230 (by decide) ?_
                      exact fin _ _ _ _ _ _ d_Sp_meets_231 hP hS (by simp only [mts, mt1, mt2, mt3, mt4, mt5, if_pos c_1, if_pos c_2, if_neg c_33, if_pos c_34, if_neg c_49, if_pos c_50, if_neg c_57, if_pos c_58, if_neg c_61, if_pos c_62]) (rfl) rfl
                    · refine lv_aload_n hx hb d_Sp_meets_218 rfl (lv_at hl 1 rfl) ?_
                      refine lv_aload_n hx hb d_Sp_meets_219 rfl (lv_at hl 0 rfl) ?_
                      refine pz_i0 (pz_rV (d := 2) (As := [.ref h0]) (rest := []) X hN (c_Sp_lineParts l D cB cI cS h1 h0 b4 a4 _) k_Sp_lineParts w_321 ⟨by decide, by decide⟩ hK hP hD [1, 0] rfl rfl 1 rfl rfl rfl rfl hl.1 rfl (Nat.le_of_ble_eq_true rfl) d_Sp_meets_220 ⟨Nat.zero_le _, Nat.zero_le _⟩) hP hD hS hA [1, 0] rfl (fun H locs hP hS => ?_)
                      refine lv_if_eq (tgt := 230) hx hb d_Sp_meets_223 (by decide) (fun c_63 => ?_) (fun c_63 => ?_)
                      · refine lv_iconst (v := 0) hx hb d_Sp_meets_230 (by decide) ?_
                        exact fin _ _ _ _ _ _ d_Sp_meets_231 hP hS (by simp only [mts, mt1, mt2, mt3, mt4, mt5, if_pos c_1, if_pos c_2, if_neg c_33, if_pos c_34, if_neg c_49, if_pos c_50, if_neg c_57, if_pos c_58, if_neg c_61, if_neg c_62, if_pos c_63]) (rfl) rfl
                      · refine lv_iconst (v := 1) hx hb d_Sp_meets_226 (by decide) ?_
                        refine lv_goto (tgt := 231) hx hb d_Sp_meets_227 (by decide) ?_
                        exact fin _ _ _ _ _ _ d_Sp_meets_231 hP hS (by simp only [mts, mt1, mt2, mt3, mt4, mt5, if_pos c_1, if_pos c_2, if_neg c_33, if_pos c_34, if_neg c_49, if_pos c_50, if_neg c_57, if_pos c_58, if_neg c_61, if_neg c_62, if_neg c_63]) (rfl) rfl
                  · refine lv_aload_n hx hb d_Sp_meets_182 rfl (lv_at hl 0 rfl) ?_
                    refine va_get (D := D) (ci := 4) (v := .int a4.2.2.1) (C := R_Sp) (T := T_Sp) (N := 8) hx hb hts i_Sp hown hK hP 0 rfl rfl 2 (by decide) (hts _ w_49) (fun _ h9 => h9) rfl d_Sp_meets_183 ?_
                    refine lv_aload_n hx hb d_Sp_meets_186 rfl (lv_at hl 0 rfl) ?_
                    refine va_get (D := D) (ci := 4) (v := .int a4.2.2.2) (C := R_Sp) (T := T_Sp) (N := 8) hx hb hts i_Sp hown hK hP 0 rfl rfl 3 (by decide) (hts _ w_50) (fun _ h9 => h9) rfl d_Sp_meets_187 ?_
                    refine lv_aload_n hx hb d_Sp_meets_190 rfl (lv_at hl 0 rfl) ?_
                    refine va_get (D := D) (ci := 4) (v := .int a4.1) (C := R_Sp) (T := T_Sp) (N := 8) hx hb hts i_Sp hown hK hP 0 rfl rfl 0 (by decide) (hts _ w_47) (fun _ h9 => h9) rfl d_Sp_meets_191 ?_
                    refine lv_aload_n hx hb d_Sp_meets_194 rfl (lv_at hl 0 rfl) ?_
                    refine va_get (D := D) (ci := 4) (v := .int a4.2.1) (C := R_Sp) (T := T_Sp) (N := 8) hx hb hts i_Sp hown hK hP 0 rfl rfl 1 (by decide) (hts _ w_48) (fun _ h9 => h9) rfl d_Sp_meets_195 ?_
                    refine lv_aload_n hx hb d_Sp_meets_198 rfl (lv_at hl 1 rfl) ?_
                    refine va_get (D := D) (ci := 4) (v := .int b4.1) (C := R_Sp) (T := T_Sp) (N := 8) hx hb hts i_Sp hown hK hP 1 rfl rfl 0 (by decide) (hts _ w_47) (fun _ h9 => h9) rfl d_Sp_meets_199 ?_
                    refine lv_aload_n hx hb d_Sp_meets_202 rfl (lv_at hl 1 rfl) ?_
                    refine va_get (D := D) (ci := 4) (v := .int b4.2.1) (C := R_Sp) (T := T_Sp) (N := 8) hx hb hts i_Sp hown hK hP 1 rfl rfl 1 (by decide) (hts _ w_48) (fun _ h9 => h9) rfl d_Sp_meets_203 ?_
                    refine pz_i0 (pz_rS (d := 1) (As := [.int a4.2.2.1, .int a4.2.2.2, .int a4.1, .int a4.2.1, .int b4.1, .int b4.2.1]) (rest := []) X hN (c_Sp_sameWay l D cB cI cS a4.2.2.1 a4.2.2.2 a4.1 a4.2.1 b4.1 b4.2.1 _) k_Sp_sameWay w_315 ⟨by decide, by decide⟩ hK hP hD [] rfl rfl rfl hl.1 rfl (Nat.le_of_ble_eq_true rfl) d_Sp_meets_206 ⟨Nat.zero_le _, Nat.zero_le _⟩) hP hD hS hA [] rfl (fun H locs hP hS => ?_)
                    exact fin _ _ _ _ _ _ d_Sp_meets_209 hP hS (by simp only [mts, mt1, mt2, mt3, mt4, mt5, if_pos c_1, if_pos c_2, if_neg c_33, if_pos c_34, if_neg c_49, if_pos c_50, if_neg c_57, if_pos c_58, if_pos c_61]) (rfl) (swy_z _ _ _ _ _ _)
              · refine lv_aload_n hx hb d_Sp_meets_132 rfl (lv_at hl 0 rfl) ?_
                refine va_get (D := D) (ci := 4) (v := .int a4.2.2.1) (C := R_Sp) (T := T_Sp) (N := 8) hx hb hts i_Sp hown hK hP 0 rfl rfl 2 (by decide) (hts _ w_49) (fun _ h9 => h9) rfl d_Sp_meets_133 ?_
                refine lv_aload_n hx hb d_Sp_meets_136 rfl (lv_at hl 0 rfl) ?_
                refine va_get (D := D) (ci := 4) (v := .int a4.2.2.2) (C := R_Sp) (T := T_Sp) (N := 8) hx hb hts i_Sp hown hK hP 0 rfl rfl 3 (by decide) (hts _ w_50) (fun _ h9 => h9) rfl d_Sp_meets_137 ?_
                refine lv_aload_n hx hb d_Sp_meets_140 rfl (lv_at hl 0 rfl) ?_
                refine va_get (D := D) (ci := 4) (v := .int a4.1) (C := R_Sp) (T := T_Sp) (N := 8) hx hb hts i_Sp hown hK hP 0 rfl rfl 0 (by decide) (hts _ w_47) (fun _ h9 => h9) rfl d_Sp_meets_141 ?_
                refine lv_aload_n hx hb d_Sp_meets_144 rfl (lv_at hl 0 rfl) ?_
                refine va_get (D := D) (ci := 4) (v := .int a4.2.1) (C := R_Sp) (T := T_Sp) (N := 8) hx hb hts i_Sp hown hK hP 0 rfl rfl 1 (by decide) (hts _ w_48) (fun _ h9 => h9) rfl d_Sp_meets_145 ?_
                refine lv_aload_n hx hb d_Sp_meets_148 rfl (lv_at hl 1 rfl) ?_
                refine va_get (D := D) (ci := 4) (v := .int b4.2.2.1) (C := R_Sp) (T := T_Sp) (N := 8) hx hb hts i_Sp hown hK hP 1 rfl rfl 2 (by decide) (hts _ w_49) (fun _ h9 => h9) rfl d_Sp_meets_149 ?_
                refine lv_aload_n hx hb d_Sp_meets_152 rfl (lv_at hl 1 rfl) ?_
                refine va_get (D := D) (ci := 4) (v := .int b4.2.2.2) (C := R_Sp) (T := T_Sp) (N := 8) hx hb hts i_Sp hown hK hP 1 rfl rfl 3 (by decide) (hts _ w_50) (fun _ h9 => h9) rfl d_Sp_meets_153 ?_
                refine pz_i0 (pz_rS (d := 1) (As := [.int a4.2.2.1, .int a4.2.2.2, .int a4.1, .int a4.2.1, .int b4.2.2.1, .int b4.2.2.2]) (rest := []) X hN (c_Sp_sameWay l D cB cI cS a4.2.2.1 a4.2.2.2 a4.1 a4.2.1 b4.2.2.1 b4.2.2.2 _) k_Sp_sameWay w_315 ⟨by decide, by decide⟩ hK hP hD [] rfl rfl rfl hl.1 rfl (Nat.le_of_ble_eq_true rfl) d_Sp_meets_156 ⟨Nat.zero_le _, Nat.zero_le _⟩) hP hD hS hA [] rfl (fun H locs hP hS => ?_)
                exact fin _ _ _ _ _ _ d_Sp_meets_159 hP hS (by simp only [mts, mt1, mt2, mt3, mt4, mt5, if_pos c_1, if_pos c_2, if_neg c_33, if_pos c_34, if_neg c_49, if_pos c_50, if_pos c_57]) (rfl) (swy_z _ _ _ _ _ _)
          · refine lv_aload_n hx hb d_Sp_meets_82 rfl (lv_at hl 0 rfl) ?_
            refine va_get (D := D) (ci := 4) (v := .int a4.1) (C := R_Sp) (T := T_Sp) (N := 8) hx hb hts i_Sp hown hK hP 0 rfl rfl 0 (by decide) (hts _ w_47) (fun _ h9 => h9) rfl d_Sp_meets_83 ?_
            refine lv_aload_n hx hb d_Sp_meets_86 rfl (lv_at hl 0 rfl) ?_
            refine va_get (D := D) (ci := 4) (v := .int a4.2.1) (C := R_Sp) (T := T_Sp) (N := 8) hx hb hts i_Sp hown hK hP 0 rfl rfl 1 (by decide) (hts _ w_48) (fun _ h9 => h9) rfl d_Sp_meets_87 ?_
            refine lv_aload_n hx hb d_Sp_meets_90 rfl (lv_at hl 0 rfl) ?_
            refine va_get (D := D) (ci := 4) (v := .int a4.2.2.1) (C := R_Sp) (T := T_Sp) (N := 8) hx hb hts i_Sp hown hK hP 0 rfl rfl 2 (by decide) (hts _ w_49) (fun _ h9 => h9) rfl d_Sp_meets_91 ?_
            refine lv_aload_n hx hb d_Sp_meets_94 rfl (lv_at hl 0 rfl) ?_
            refine va_get (D := D) (ci := 4) (v := .int a4.2.2.2) (C := R_Sp) (T := T_Sp) (N := 8) hx hb hts i_Sp hown hK hP 0 rfl rfl 3 (by decide) (hts _ w_50) (fun _ h9 => h9) rfl d_Sp_meets_95 ?_
            refine lv_aload_n hx hb d_Sp_meets_98 rfl (lv_at hl 1 rfl) ?_
            refine va_get (D := D) (ci := 4) (v := .int b4.1) (C := R_Sp) (T := T_Sp) (N := 8) hx hb hts i_Sp hown hK hP 1 rfl rfl 0 (by decide) (hts _ w_47) (fun _ h9 => h9) rfl d_Sp_meets_99 ?_
            refine lv_aload_n hx hb d_Sp_meets_102 rfl (lv_at hl 1 rfl) ?_
            refine va_get (D := D) (ci := 4) (v := .int b4.2.1) (C := R_Sp) (T := T_Sp) (N := 8) hx hb hts i_Sp hown hK hP 1 rfl rfl 1 (by decide) (hts _ w_48) (fun _ h9 => h9) rfl d_Sp_meets_103 ?_
            refine pz_i0 (pz_rS (d := 1) (As := [.int a4.1, .int a4.2.1, .int a4.2.2.1, .int a4.2.2.2, .int b4.1, .int b4.2.1]) (rest := []) X hN (c_Sp_sameWay l D cB cI cS a4.1 a4.2.1 a4.2.2.1 a4.2.2.2 b4.1 b4.2.1 _) k_Sp_sameWay w_315 ⟨by decide, by decide⟩ hK hP hD [] rfl rfl rfl hl.1 rfl (Nat.le_of_ble_eq_true rfl) d_Sp_meets_106 ⟨Nat.zero_le _, Nat.zero_le _⟩) hP hD hS hA [] rfl (fun H locs hP hS => ?_)
            exact fin _ _ _ _ _ _ d_Sp_meets_109 hP hS (by simp only [mts, mt1, mt2, mt3, mt4, mt5, if_pos c_1, if_pos c_2, if_neg c_33, if_pos c_34, if_pos c_49]) (rfl) (swy_z _ _ _ _ _ _)
      · refine lv_aload_n hx hb d_Sp_meets_32 rfl (lv_at hl 0 rfl) ?_
        refine va_get (D := D) (ci := 4) (v := .int a4.1) (C := R_Sp) (T := T_Sp) (N := 8) hx hb hts i_Sp hown hK hP 0 rfl rfl 0 (by decide) (hts _ w_47) (fun _ h9 => h9) rfl d_Sp_meets_33 ?_
        refine lv_aload_n hx hb d_Sp_meets_36 rfl (lv_at hl 0 rfl) ?_
        refine va_get (D := D) (ci := 4) (v := .int a4.2.1) (C := R_Sp) (T := T_Sp) (N := 8) hx hb hts i_Sp hown hK hP 0 rfl rfl 1 (by decide) (hts _ w_48) (fun _ h9 => h9) rfl d_Sp_meets_37 ?_
        refine lv_aload_n hx hb d_Sp_meets_40 rfl (lv_at hl 0 rfl) ?_
        refine va_get (D := D) (ci := 4) (v := .int a4.2.2.1) (C := R_Sp) (T := T_Sp) (N := 8) hx hb hts i_Sp hown hK hP 0 rfl rfl 2 (by decide) (hts _ w_49) (fun _ h9 => h9) rfl d_Sp_meets_41 ?_
        refine lv_aload_n hx hb d_Sp_meets_44 rfl (lv_at hl 0 rfl) ?_
        refine va_get (D := D) (ci := 4) (v := .int a4.2.2.2) (C := R_Sp) (T := T_Sp) (N := 8) hx hb hts i_Sp hown hK hP 0 rfl rfl 3 (by decide) (hts _ w_50) (fun _ h9 => h9) rfl d_Sp_meets_45 ?_
        refine lv_aload_n hx hb d_Sp_meets_48 rfl (lv_at hl 1 rfl) ?_
        refine va_get (D := D) (ci := 4) (v := .int b4.2.2.1) (C := R_Sp) (T := T_Sp) (N := 8) hx hb hts i_Sp hown hK hP 1 rfl rfl 2 (by decide) (hts _ w_49) (fun _ h9 => h9) rfl d_Sp_meets_49 ?_
        refine lv_aload_n hx hb d_Sp_meets_52 rfl (lv_at hl 1 rfl) ?_
        refine va_get (D := D) (ci := 4) (v := .int b4.2.2.2) (C := R_Sp) (T := T_Sp) (N := 8) hx hb hts i_Sp hown hK hP 1 rfl rfl 3 (by decide) (hts _ w_50) (fun _ h9 => h9) rfl d_Sp_meets_53 ?_
        refine pz_i0 (pz_rS (d := 1) (As := [.int a4.1, .int a4.2.1, .int a4.2.2.1, .int a4.2.2.2, .int b4.2.2.1, .int b4.2.2.2]) (rest := []) X hN (c_Sp_sameWay l D cB cI cS a4.1 a4.2.1 a4.2.2.1 a4.2.2.2 b4.2.2.1 b4.2.2.2 _) k_Sp_sameWay w_315 ⟨by decide, by decide⟩ hK hP hD [] rfl rfl rfl hl.1 rfl (Nat.le_of_ble_eq_true rfl) d_Sp_meets_56 ⟨Nat.zero_le _, Nat.zero_le _⟩) hP hD hS hA [] rfl (fun H locs hP hS => ?_)
        exact fin _ _ _ _ _ _ d_Sp_meets_59 hP hS (by simp only [mts, mt1, mt2, mt3, mt4, mt5, if_pos c_1, if_pos c_2, if_pos c_33]) (rfl) (swy_z _ _ _ _ _ _)
  · refine lv_iconst (v := 0) hx hb d_Sp_meets_8 (by decide) ?_
    exact fin _ _ _ _ _ _ d_Sp_meets_9 hP hS (by simp only [mts, mt1, mt2, mt3, mt4, mt5, if_neg c_1]) (rfl) rfl
end
section
/-! THE CLASS's reader, as pure functions -/
/-- reading: the place, the fault, the fault's place -/
abbrev S3 : Type := Int32 × Int32 × Int32
def fl (q : S3) (num pl : Int32) : S3 := if q.2.1 = 0 then (q.1, num, pl) else q
def nx (f : Nat → Int32) (n : Nat) (q : S3) : Int32 × S3 := if q.2.1 = 0 then (if rg f n q.1 = -1 then (0, fl q 1 (nI n)) else (rg f n q.1, (q.1 + 1, q.2))) else (0, q)
def ex (f : Nat → Int32) (n : Nat) (q : S3) (due num : Int32) : S3 := if (nx f n q).1 = due then (nx f n q).2 else fl (nx f n q).2 num q.1
def jdS (q : S3) (v lo hi pl : Int32) : S3 := if v < lo then fl q 3 pl else if v ≤ hi then q else fl q 3 pl
def jd (q : S3) (v lo hi pl : Int32) : Int32 × S3 := (if (jdS q v lo hi pl).2.1 = 0 then v else 0, jdS q v lo hi pl)
def sm (f : Nat → Int32) (n : Nat) (q : S3) (lo hi : Int32) : Int32 × S3 := jd (nx f n q).2 (nx f n q).1 lo hi q.1
def sa (f : Nat → Int32) (n : Nat) (q : S3) (hi : Int32) : Int32 × S3 := if (nx f n q).1 = 255 then nx f n q else jd (nx f n q).2 (nx f n q).1 0 hi q.1
def wd (f : Nat → Int32) (n : Nat) (q : S3) (lo hi : Int32) : Int32 × S3 := jd (nx f n (nx f n q).2).2 (w16 (256 * (nx f n q).1 + (nx f n (nx f n q).2).1)) lo hi q.1
def hdS (f : Nat → Int32) (n : Nat) (q : S3) : S3 := ex f n (ex f n (ex f n q 77 2) 72 2) 1 2
def hd1 (f : Nat → Int32) (n : Nat) (q : S3) : Int32 × S3 := sm f n (hdS f n q) 0 128
def hd2 (f : Nat → Int32) (n : Nat) (q : S3) : Int32 × S3 := sm f n (hd1 f n q).2 0 16
def hd3 (f : Nat → Int32) (n : Nat) (q : S3) : Int32 × S3 := sm f n (hd2 f n q).2 1 32
def hd4 (f : Nat → Int32) (n : Nat) (q : S3) : Int32 × S3 := sm f n (hd3 f n q).2 0 128
/-- is the place of vertex k that of one of the numbers o, o + 1 ..? -/
def tkn (xs ys : Nat → Int32) (k : Nat) : Nat → Nat → Int32
  | 0, _ => 0
  | d + 1, o => if xs o = xs k then (if ys o = ys k then 1 else tkn xs ys k d (o + 1)) else tkn xs ys k d (o + 1)
abbrev SV : Type := S3 × (Nat → Int32) × (Nat → Int32)
def vs1 (f : Nat → Int32) (n : Nat) (q : S3) : Int32 × S3 := wd f n q (-32768) 32767
def vs2 (f : Nat → Int32) (n : Nat) (q : S3) : Int32 × S3 := wd f n (vs1 f n q).2 (-32768) 32767
def vst (f : Nat → Int32) (n : Nat) (k : Nat) (z : SV) : SV := (if tkn (upd z.2.1 k (vs1 f n z.1).1) (upd z.2.2 k (vs2 f n z.1).1) k k 0 = 0 then (vs2 f n z.1).2 else fl (vs2 f n z.1).2 3 (vs1 f n z.1).2.1, upd z.2.1 k (vs1 f n z.1).1, upd z.2.2 k (vs2 f n z.1).1)
def vlp (f : Nat → Int32) (n : Nat) (v : Int32) : Nat → Nat → SV → SV
  | 0, _, z => z
  | d + 1, k, z => if v ≤ nI k then z else if z.1.2.1 = 0 then vlp f n v d (k + 1) (vst f n k z) else z
def txi (f : Nat → Int32) (n : Nat) : Nat → S3 → S3
  | 0, q => q
  | d + 1, q => if q.2.1 = 0 then txi f n d (sm f n q 0 15).2 else q
def tx1 (f : Nat → Int32) (n : Nat) (q : S3) : Int32 × S3 := sm f n q 0 4
def tx2 (f : Nat → Int32) (n : Nat) (q : S3) : Int32 × S3 := sm f n (tx1 f n q).2 0 4
def txw (x : Int32) : Int32 := 1 <<< (x &&& 31)
def txs (f : Nat → Int32) (n : Nat) (q : S3) : S3 := txi f n (txw (tx1 f n q).1 * txw (tx2 f n q).1).toNatClampNeg (tx2 f n q).2
def txl (f : Nat → Int32) (n : Nat) : Nat → S3 → S3
  | 0, q => q
  | d + 1, q => if q.2.1 = 0 then txl f n d (txs f n q) else q
def sc1 (f : Nat → Int32) (n : Nat) (q : S3) : Int32 × S3 := wd f n q (-1024) 1024
def sc2 (f : Nat → Int32) (n : Nat) (q : S3) : Int32 × S3 := wd f n (sc1 f n q).2 ((sc1 f n q).1 + 1) 1024
def sc3 (f : Nat → Int32) (n : Nat) (t : Int32) (q : S3) : Int32 × S3 := sm f n (sc2 f n q).2 0 (t - 1)
def sc4 (f : Nat → Int32) (n : Nat) (t : Int32) (q : S3) : Int32 × S3 := sa f n (sc3 f n t q).2 (t - 1)
def sc5 (f : Nat → Int32) (n : Nat) (t : Int32) (q : S3) : Int32 × S3 := sm f n (sc4 f n t q).2 0 15
def sc6 (f : Nat → Int32) (n : Nat) (t : Int32) (q : S3) : Int32 × S3 := sm f n (sc5 f n t q).2 0 3
def sc7 (f : Nat → Int32) (n : Nat) (t : Int32) (q : S3) : Int32 × S3 := sm f n (sc6 f n t q).2 0 255
def scl (f : Nat → Int32) (n : Nat) (t : Int32) : Nat → S3 → S3
  | 0, q => q
  | d + 1, q => if q.2.1 = 0 then scl f n t d (sc7 f n t q).2 else q
def we1 (f : Nat → Int32) (n : Nat) (v : Int32) (q : S3) : Int32 × S3 := sm f n q 0 (v - 1)
def we2 (f : Nat → Int32) (n : Nat) (v : Int32) (q : S3) : Int32 × S3 := sm f n (we1 f n v q).2 0 (v - 1)
def weS (f : Nat → Int32) (n : Nat) (v : Int32) (q : S3) : S3 := if (we1 f n v q).1 = (we2 f n v q).1 then fl (we2 f n v q).2 3 (we1 f n v q).2.1 else (we2 f n v q).2
def weE (f : Nat → Int32) (n : Nat) (v : Int32) (xs ys : Nat → Int32) (q : S3) (e : E4) : E4 := if 128 ≤ (we1 f n v q).1 then e else if 128 ≤ (we2 f n v q).1 then e else (xs (we1 f n v q).1.toNatClampNeg, ys (we1 f n v q).1.toNatClampNeg, xs (we2 f n v q).1.toNatClampNeg, ys (we2 f n v q).1.toNatClampNeg)
def wt3 (f : Nat → Int32) (n : Nat) (hi : Int32) (q : S3) : S3 := (sa f n (sa f n (sa f n q hi).2 hi).2 hi).2
def wl1 (f : Nat → Int32) (n : Nat) (v s : Int32) (q : S3) : Int32 × S3 := sm f n (weS f n v q) 0 (s - 1)
def wl2 (f : Nat → Int32) (n : Nat) (v s : Int32) (q : S3) : Int32 × S3 := sa f n (wl1 f n v s q).2 (s - 1)
def wl3 (f : Nat → Int32) (n : Nat) (v t s : Int32) (q : S3) : S3 := wt3 f n (if (wl2 f n v s q).1 = 255 then -1 else t - 1) (wt3 f n (t - 1) (wl2 f n v s q).2)
def wl4 (f : Nat → Int32) (n : Nat) (v t s : Int32) (q : S3) : S3 := (sm f n (sm f n (sm f n (sm f n (wl3 f n v t s q) 0 255).2 0 3).2 0 5).2 0 255).2
abbrev SW : Type := S3 × (Nat → E4)
def pu {α : Type} (g : Nat → α) (k : Nat) (x : α) : Nat → α := fun j => if j = k then x else g j
def wst (f : Nat → Int32) (n : Nat) (v t s : Int32) (xs ys : Nat → Int32) (k : Nat) (z : SW) : SW := (wl4 f n v t s z.1, pu z.2 k (weE f n v xs ys z.1 (z.2 k)))
def wlp (f : Nat → Int32) (n : Nat) (v t s w : Int32) (xs ys : Nat → Int32) : Nat → Nat → SW → SW
  | 0, _, z => z
  | d + 1, k, z => if w ≤ nI k then z else if z.1.2.1 = 0 then wlp f n v t s w xs ys d (k + 1) (wst f n v t s xs ys k z) else z
def stS (f : Nat → Int32) (n : Nat) (s : Int32) (q : S3) : S3 := (sm f n (sm f n (wd f n (wd f n q (-32768) 32767).2 (-32768) 32767).2 0 63).2 0 (s - 1)).2
def enD (f : Nat → Int32) (q : S3) : Int32 := 256 * (sum2 f q.1.toNatClampNeg).1 + (sum2 f q.1.toNatClampNeg).2
def en2 (f : Nat → Int32) (n : Nat) (q : S3) : S3 := ex f n (ex f n q (enD f q >>> ((8 : Int32) &&& 31)) 4) (enD f q &&& 255) 4
def enS (f : Nat → Int32) (n : Nat) (q : S3) : S3 := if nI n ≤ (en2 f n q).1 then en2 f n q else fl (en2 f n q) 5 (en2 f n q).1
/-- the lower walls o, o + 1 .. of wall k: the reading, and the wall of a fault 6 -/
abbrev SM : Type := S3 × Int32
def mk1 (sp : Nat → E4) (wa : Int32) (k : Nat) : Nat → Nat → SM → SM
  | 0, _, z => z
  | d + 1, o, z => if z.1.2.1 = 0 then mk1 sp wa k d (o + 1) (if mts (sp k) (sp o) = 0 then z else (fl z.1 6 (wa + 14 * nI k), nI k)) else z
def mk2 (sp : Nat → E4) (wa nw : Int32) : Nat → Nat → SM → SM
  | 0, _, z => z
  | d + 1, k, z => if nw ≤ nI k then z else if z.1.2.1 = 0 then mk2 sp wa nw d (k + 1) (mk1 sp wa k k 0 z) else z
end
section
set_option maxRecDepth 100000 in
set_option maxHeartbeats 4000000 in
/-- Reader.fail -/
theorem c_Rd_fail (l : Launch) (D : va_G) (cB cI cS : ClassId) (r0 rw rx ry rs : Nat) (nv nt ns nw wa fw : Int32) (q : S3) (num pl : Int32)  : mV l y_Rd_fail b_Rd_fail 3 (none) 0 D cls [(cB, .byte), (cI, .int), (cS, .object "MapLumps$Span")] [.ref r0, .int num, .int pl] ([(r0, .inr (1, [.ref rw, .ref rx, .ref ry, .ref rs, .int nv, .int nt, .int ns, .int nw, .int wa, .int q.1, .int q.2.1, .int q.2.2, .int fw]))]) ([(r0, .inr (1, [.ref rw, .ref rx, .ref ry, .ref rs, .int nv, .int nt, .int ns, .int nw, .int wa, .int ((fl q num pl).1), .int ((fl q num pl).2.1), .int ((fl q num pl).2.2), .int fw]))]) := by
  refine pz_openV (by decide) (Nat.le_of_ble_eq_true rfl) ?_
  intro p e s m below meth c A ls Q X hN hK hP hD hS hA hl fin
  obtain ⟨hx, hb, hml, hown, hts⟩ := id X
  have hl : lv_has ls 3 [(0, .ref r0), (1, .int num), (2, .int pl)] := hl
  refine lv_aload_n hx hb d_Rd_fail_0 rfl (lv_at hl 0 rfl) ?_
  refine va_get (D := D) (ci := 1) (v := .int q.2.1) (C := R_Rd) (T := T_Rd) (N := 13) hx hb hts i_Rd hown hK hP 0 rfl rfl 10 (by decide) (hts _ w_84) (fun _ h9 => h9) rfl d_Rd_fail_1 ?_
  refine lv_if_ne (tgt := 17) hx hb d_Rd_fail_4 (by decide) (fun c_1 => ?_) (fun c_1 => ?_)
  · exact fin _ _ _ _ _ d_Rd_fail_17 hP hS (by simp only [fl, if_neg c_1])
  · refine lv_aload_n hx hb d_Rd_fail_7 rfl (lv_at hl 0 rfl) ?_
    refine lv_iload_n hx hb d_Rd_fail_8 rfl (lv_at hl 1 rfl) ?_
    refine va_put (D := D) (ci := 1) (v := .int num) (ty := (.int)) (C := R_Rd) (T := T_Rd) (N := 13) hx hb hts i_Rd ty_Rd tyok_Rd nm_Rd hown hK hP hD hS 0 rfl rfl 10 (by decide) (hts _ w_84) (fun _ h9 => h9) rfl (by decide +kernel) rfl rfl (Nat.le_of_ble_eq_true rfl) d_Rd_fail_9 (fun H locs hP hD hS => ?_)
    have hP : va_P D cls ([(r0, .inr (1, [.ref rw, .ref rx, .ref ry, .ref rs, .int nv, .int nt, .int ns, .int nw, .int wa, .int q.1, .int num, .int q.2.2, .int fw]))]) H := hP
    have hD : va_D A ([(r0, .inr (1, [.ref rw, .ref rx, .ref ry, .ref rs, .int nv, .int nt, .int ns, .int nw, .int wa, .int q.1, .int num, .int q.2.2, .int fw]))]) := hD
    refine lv_aload_n hx hb d_Rd_fail_12 rfl (lv_at hl 0 rfl) ?_
    refine lv_iload_n hx hb d_Rd_fail_13 rfl (lv_at hl 2 rfl) ?_
    refine va_put (D := D) (ci := 1) (v := .int pl) (ty := (.int)) (C := R_Rd) (T := T_Rd) (N := 13) hx hb hts i_Rd ty_Rd tyok_Rd nm_Rd hown hK hP hD hS 0 rfl rfl 11 (by decide) (hts _ w_86) (fun _ h9 => h9) rfl (by decide +kernel) rfl rfl (Nat.le_of_ble_eq_true rfl) d_Rd_fail_14 (fun H locs hP hD hS => ?_)
    have hP : va_P D cls ([(r0, .inr (1, [.ref rw, .ref rx, .ref ry, .ref rs, .int nv, .int nt, .int ns, .int nw, .int wa, .int q.1, .int num, .int pl, .int fw]))]) H := hP
    have hD : va_D A ([(r0, .inr (1, [.ref rw, .ref rx, .ref ry, .ref rs, .int nv, .int nt, .int ns, .int nw, .int wa, .int q.1, .int num, .int pl, .int fw]))]) := hD
    exact fin _ _ _ _ _ d_Rd_fail_17 hP hS (by simp only [fl, if_pos c_1])

set_option maxRecDepth 100000 in
set_option maxHeartbeats 4000000 in
/-- Reader.next -/
theorem c_Rd_next (l : Launch) (D : va_G) (cB cI cS : ClassId) (r0 rw rx ry rs rb : Nat) (nv nt ns nw wa fw : Int32) (q : S3) (f : Nat → Int32) (n : Nat) (hn : n ≤ 8192) : mI l y_Rd_next b_Rd_next 2 (some .int) 1 D cls [(cB, .byte), (cI, .int), (cS, .object "MapLumps$Span")] [.ref r0] ([(r0, .inr (1, [.ref rw, .ref rx, .ref ry, .ref rs, .int nv, .int nt, .int ns, .int nw, .int wa, .int q.1, .int q.2.1, .int q.2.2, .int fw])), (rw, .inr (3, [.ref rb, .int (nI n)])), (rb, .inl (cB, 8192, .inl f))]) ((nx f n q).1) ([(r0, .inr (1, [.ref rw, .ref rx, .ref ry, .ref rs, .int nv, .int nt, .int ns, .int nw, .int wa, .int ((nx f n q).2.1), .int ((nx f n q).2.2.1), .int ((nx f n q).2.2.2), .int fw])), (rw, .inr (3, [.ref rb, .int (nI n)])), (rb, .inl (cB, 8192, .inl f))]) := by
  refine pz_openI (by decide) (Nat.le_of_ble_eq_true rfl) ?_
  intro p e s m below meth c A ls Q X hN hK hP hD hS hA hl fin
  obtain ⟨hx, hb, hml, hown, hts⟩ := id X
  have hl : lv_has ls 2 [(0, .ref r0)] := hl
  refine lv_aload_n hx hb d_Rd_next_0 rfl (lv_at hl 0 rfl) ?_
  refine va_get (D := D) (ci := 1) (v := .int q.2.1) (C := R_Rd) (T := T_Rd) (N := 13) hx hb hts i_Rd hown hK hP 0 rfl rfl 10 (by decide) (hts _ w_84) (fun _ h9 => h9) rfl d_Rd_next_1 ?_
  refine lv_if_eq (tgt := 9) hx hb d_Rd_next_4 (by decide) (fun c_1 => ?_) (fun c_1 => ?_)
  · refine lv_aload_n hx hb d_Rd_next_9 rfl (lv_at hl 0 rfl) ?_
    refine va_get (D := D) (ci := 1) (v := .ref rw) (C := R_Rd) (T := T_Rd) (N := 13) hx hb hts i_Rd hown hK hP 0 rfl rfl 0 (by decide) (hts _ w_73) (fun _ h9 => h9) rfl d_Rd_next_10 ?_
    refine lv_aload_n hx hb d_Rd_next_13 rfl (lv_at hl 0 rfl) ?_
    refine va_get (D := D) (ci := 1) (v := .int q.1) (C := R_Rd) (T := T_Rd) (N := 13) hx hb hts i_Rd hown hK hP 0 rfl rfl 9 (by decide) (hts _ w_83) (fun _ h9 => h9) rfl d_Rd_next_14 ?_
    refine pz_i0 (pz_rV (d := 0) (As := [.int q.1]) (rest := []) X hN (c_Rw_get l D cB cI cS rw rb f n q.1 hn _) k_Rw_get w_228 ⟨by decide, by decide⟩ hK hP hD [1, 2] rfl rfl 1 rfl rfl rfl rfl hl.1 rfl (Nat.le_of_ble_eq_true rfl) d_Rd_next_17 ⟨Nat.zero_le _, Nat.zero_le _⟩) hP hD hS hA [1, 2] rfl (fun H locs hP hS => ?_)
    refine lv_istore_n (lv' := [(1, .int (rg f n q.1)), (0, .ref r0)]) hx hb d_Rd_next_20 rfl hl (by decide) rfl (fun ls hl => ?_)
    refine lv_iload_n hx hb d_Rd_next_21 rfl (lv_at hl 0 rfl) ?_
    refine lv_iconst (v := (-1)) hx hb d_Rd_next_22 (by decide) ?_
    refine lv_icmp_ne (tgt := 40) hx hb d_Rd_next_23 (by decide) (fun c_2 => ?_) (fun c_2 => ?_)
    · refine lv_aload_n hx hb d_Rd_next_40 rfl (lv_at hl 1 rfl) ?_
      refine lv_dup hx hb d_Rd_next_41 rfl ?_
      refine va_get (D := D) (ci := 1) (v := .int q.1) (C := R_Rd) (T := T_Rd) (N := 13) hx hb hts i_Rd hown hK hP 0 rfl rfl 9 (by decide) (hts _ w_83) (fun _ h9 => h9) rfl d_Rd_next_42 ?_
      refine lv_iconst (v := 1) hx hb d_Rd_next_45 (by decide) ?_
      refine lv_iadd hx hb d_Rd_next_46 ?_
      refine va_put (D := D) (ci := 1) (v := .int (q.1 + 1)) (ty := (.int)) (C := R_Rd) (T := T_Rd) (N := 13) hx hb hts i_Rd ty_Rd tyok_Rd nm_Rd hown hK hP hD hS 0 rfl rfl 9 (by decide) (hts _ w_83) (fun _ h9 => h9) rfl (by decide +kernel) rfl rfl (Nat.le_of_ble_eq_true rfl) d_Rd_next_47 (fun H locs hP hD hS => ?_)
      have hP : va_P D cls ([(r0, .inr (1, [.ref rw, .ref rx, .ref ry, .ref rs, .int nv, .int nt, .int ns, .int nw, .int wa, .int (q.1 + 1), .int q.2.1, .int q.2.2, .int fw])), (rw, .inr (3, [.ref rb, .int (nI n)])), (rb, .inl (cB, 8192, .inl f))]) H := hP
      have hD : va_D A ([(r0, .inr (1, [.ref rw, .ref rx, .ref ry, .ref rs, .int nv, .int nt, .int ns, .int nw, .int wa, .int (q.1 + 1), .int q.2.1, .int q.2.2, .int fw])), (rw, .inr (3, [.ref rb, .int (nI n)])), (rb, .inl (cB, 8192, .inl f))]) := hD
      refine lv_iload_n hx hb d_Rd_next_50 rfl (lv_at hl 0 rfl) ?_
      exact fin _ _ _ _ _ _ d_Rd_next_51 hP hS (by simp only [nx, if_pos c_1, if_neg c_2]) (by simp only [nx, if_pos c_1, if_neg c_2])
    · refine lv_aload_n hx hb d_Rd_next_26 rfl (lv_at hl 1 rfl) ?_
      refine lv_iconst (v := 1) hx hb d_Rd_next_27 (by decide) ?_
      refine lv_aload_n hx hb d_Rd_next_28 rfl (lv_at hl 1 rfl) ?_
      refine va_get (D := D) (ci := 1) (v := .ref rw) (C := R_Rd) (T := T_Rd) (N := 13) hx hb hts i_Rd hown hK hP 0 rfl rfl 0 (by decide) (hts _ w_73) (fun _ h9 => h9) rfl d_Rd_next_29 ?_
      refine va_getN (D := D) (ci := 3) (v := .int (nI n)) (C := R_Rw) (T := T_Rw) (N := 2) hx hb hts i_Rw hown hK hP 1 rfl rfl 1 (by decide) (nf_33 hN) (fun _ h9 => h9) rfl d_Rd_next_32 ?_
      refine pz_v (pz_rV (d := 0) (As := [.int 1, .int (nI n)]) (rest := []) X hN (c_Rd_fail l D cB cI cS r0 rw rx ry rs nv nt ns nw wa fw q 1 (nI n) _) k_Rd_fail w_232 ⟨by decide, by decide⟩ hK hP hD [0] rfl rfl 0 rfl rfl rfl rfl hl.1 rfl (Nat.le_of_ble_eq_true rfl) d_Rd_next_35 ⟨Nat.zero_le _, Nat.zero_le _⟩) hP hD hS hA [0] rfl [r0] rfl rfl (fun H locs hP hD hS => ?_)
      have hP : va_P D cls ([(r0, .inr (1, [.ref rw, .ref rx, .ref ry, .ref rs, .int nv, .int nt, .int ns, .int nw, .int wa, .int ((fl q 1 (nI n)).1), .int ((fl q 1 (nI n)).2.1), .int ((fl q 1 (nI n)).2.2), .int fw])), (rw, .inr (3, [.ref rb, .int (nI n)])), (rb, .inl (cB, 8192, .inl f))]) H := hP
      have hD : va_D A ([(r0, .inr (1, [.ref rw, .ref rx, .ref ry, .ref rs, .int nv, .int nt, .int ns, .int nw, .int wa, .int ((fl q 1 (nI n)).1), .int ((fl q 1 (nI n)).2.1), .int ((fl q 1 (nI n)).2.2), .int fw])), (rw, .inr (3, [.ref rb, .int (nI n)])), (rb, .inl (cB, 8192, .inl f))]) := hD
      refine lv_iconst (v := 0) hx hb d_Rd_next_38 (by decide) ?_
      exact fin _ _ _ _ _ _ d_Rd_next_39 hP hS (by simp only [nx, if_pos c_1, if_pos c_2]) (by simp only [nx, if_pos c_1, if_pos c_2])
  · refine lv_iconst (v := 0) hx hb d_Rd_next_7 (by decide) ?_
    exact fin _ _ _ _ _ _ d_Rd_next_8 hP hS (by simp only [nx, if_neg c_1]) (by simp only [nx, if_neg c_1])

set_option maxRecDepth 100000 in
set_option maxHeartbeats 4000000 in
/-- Reader.expect -/
theorem c_Rd_expect (l : Launch) (D : va_G) (cB cI cS : ClassId) (r0 rw rx ry rs rb : Nat) (nv nt ns nw wa fw : Int32) (q : S3) (f : Nat → Int32) (n : Nat) (due num : Int32) (hn : n ≤ 8192) : mV l y_Rd_expect b_Rd_expect 4 (none) 2 D cls [(cB, .byte), (cI, .int), (cS, .object "MapLumps$Span")] [.ref r0, .int due, .int num] ([(r0, .inr (1, [.ref rw, .ref rx, .ref ry, .ref rs, .int nv, .int nt, .int ns, .int nw, .int wa, .int q.1, .int q.2.1, .int q.2.2, .int fw])), (rw, .inr (3, [.ref rb, .int (nI n)])), (rb, .inl (cB, 8192, .inl f))]) ([(r0, .inr (1, [.ref rw, .ref rx, .ref ry, .ref rs, .int nv, .int nt, .int ns, .int nw, .int wa, .int ((ex f n q due num).1), .int ((ex f n q due num).2.1), .int ((ex f n q due num).2.2), .int fw])), (rw, .inr (3, [.ref rb, .int (nI n)])), (rb, .inl (cB, 8192, .inl f))]) := by
  refine pz_openV (by decide) (Nat.le_of_ble_eq_true rfl) ?_
  intro p e s m below meth c A ls Q X hN hK hP hD hS hA hl fin
  obtain ⟨hx, hb, hml, hown, hts⟩ := id X
  have hl : lv_has ls 4 [(0, .ref r0), (1, .int due), (2, .int num)] := hl
  refine lv_aload_n hx hb d_Rd_expect_0 rfl (lv_at hl 0 rfl) ?_
  refine va_get (D := D) (ci := 1) (v := .int q.1) (C := R_Rd) (T := T_Rd) (N := 13) hx hb hts i_Rd hown hK hP 0 rfl rfl 9 (by decide) (hts _ w_83) (fun _ h9 => h9) rfl d_Rd_expect_1 ?_
  refine lv_istore_n (lv' := [(3, .int q.1), (0, .ref r0), (1, .int due), (2, .int num)]) hx hb d_Rd_expect_4 rfl hl (by decide) rfl (fun ls hl => ?_)
  refine lv_aload_n hx hb d_Rd_expect_5 rfl (lv_at hl 1 rfl) ?_
  refine pz_i (pz_rV (d := 1) (As := []) (rest := []) X hN (c_Rd_next l D cB cI cS r0 rw rx ry rs rb nv nt ns nw wa fw q f n hn _) k_Rd_next w_224 ⟨by decide, by decide⟩ hK hP hD [0, 1, 2] rfl rfl 0 rfl rfl rfl rfl hl.1 rfl (Nat.le_of_ble_eq_true rfl) d_Rd_expect_6 ⟨Nat.zero_le _, Nat.zero_le _⟩) hP hD hS hA [0, 1, 2] rfl [r0, rw, rb] rfl rfl (fun H locs hP hD hS => ?_)
  have hP : va_P D cls ([(r0, .inr (1, [.ref rw, .ref rx, .ref ry, .ref rs, .int nv, .int nt, .int ns, .int nw, .int wa, .int (((nx f n q).2).1), .int (((nx f n q).2).2.1), .int (((nx f n q).2).2.2), .int fw])), (rw, .inr (3, [.ref rb, .int (nI n)])), (rb, .inl (cB, 8192, .inl f))]) H := hP
  have hD : va_D A ([(r0, .inr (1, [.ref rw, .ref rx, .ref ry, .ref rs, .int nv, .int nt, .int ns, .int nw, .int wa, .int (((nx f n q).2).1), .int (((nx f n q).2).2.1), .int (((nx f n q).2).2.2), .int fw])), (rw, .inr (3, [.ref rb, .int (nI n)])), (rb, .inl (cB, 8192, .inl f))]) := hD
  refine lv_iload_n hx hb d_Rd_expect_9 rfl (lv_at hl 2 rfl) ?_
  refine lv_icmp_eq (tgt := 19) hx hb d_Rd_expect_10 (by decide) (fun c_1 => ?_) (fun c_1 => ?_)
  · exact fin _ _ _ _ _ d_Rd_expect_19 hP hS (by simp only [ex, if_pos c_1])
  · refine lv_aload_n hx hb d_Rd_expect_13 rfl (lv_at hl 1 rfl) ?_
    refine lv_iload_n hx hb d_Rd_expect_14 rfl (lv_at hl 3 rfl) ?_
    refine lv_iload_n hx hb d_Rd_expect_15 rfl (lv_at hl 0 rfl) ?_
    refine pz_v (pz_rV (d := 0) (As := [.int num, .int q.1]) (rest := []) X hN (c_Rd_fail l D cB cI cS r0 rw rx ry rs nv nt ns nw wa fw ((nx f n q).2) num q.1 _) k_Rd_fail w_232 ⟨by decide, by decide⟩ hK hP hD [0] rfl rfl 0 rfl rfl rfl rfl hl.1 rfl (Nat.le_of_ble_eq_true rfl) d_Rd_expect_16 ⟨Nat.zero_le _, Nat.zero_le _⟩) hP hD hS hA [0] rfl [r0] rfl rfl (fun H locs hP hD hS => ?_)
    have hP : va_P D cls ([(r0, .inr (1, [.ref rw, .ref rx, .ref ry, .ref rs, .int nv, .int nt, .int ns, .int nw, .int wa, .int ((fl ((nx f n q).2) num q.1).1), .int ((fl ((nx f n q).2) num q.1).2.1), .int ((fl ((nx f n q).2) num q.1).2.2), .int fw])), (rw, .inr (3, [.ref rb, .int (nI n)])), (rb, .inl (cB, 8192, .inl f))]) H := hP
    have hD : va_D A ([(r0, .inr (1, [.ref rw, .ref rx, .ref ry, .ref rs, .int nv, .int nt, .int ns, .int nw, .int wa, .int ((fl ((nx f n q).2) num q.1).1), .int ((fl ((nx f n q).2) num q.1).2.1), .int ((fl ((nx f n q).2) num q.1).2.2), .int fw])), (rw, .inr (3, [.ref rb, .int (nI n)])), (rb, .inl (cB, 8192, .inl f))]) := hD
    exact fin _ _ _ _ _ d_Rd_expect_19 hP hS (by simp only [ex, if_neg c_1])

set_option maxRecDepth 100000 in
set_option maxHeartbeats 4000000 in
/-- Reader.judged -/
theorem c_Rd_judged (l : Launch) (D : va_G) (cB cI cS : ClassId) (r0 rw rx ry rs : Nat) (nv nt ns nw wa fw : Int32) (q : S3) (x lo hi pl : Int32)  : mI l y_Rd_judged b_Rd_judged 5 (some .int) 1 D cls [(cB, .byte), (cI, .int), (cS, .object "MapLumps$Span")] [.ref r0, .int x, .int lo, .int hi, .int pl] ([(r0, .inr (1, [.ref rw, .ref rx, .ref ry, .ref rs, .int nv, .int nt, .int ns, .int nw, .int wa, .int q.1, .int q.2.1, .int q.2.2, .int fw]))]) ((jd q x lo hi pl).1) ([(r0, .inr (1, [.ref rw, .ref rx, .ref ry, .ref rs, .int nv, .int nt, .int ns, .int nw, .int wa, .int ((jd q x lo hi pl).2.1), .int ((jd q x lo hi pl).2.2.1), .int ((jd q x lo hi pl).2.2.2), .int fw]))]) := by
  refine pz_openI (by decide) (Nat.le_of_ble_eq_true rfl) ?_
  intro p e s m below meth c A ls Q X hN hK hP hD hS hA hl fin
  obtain ⟨hx, hb, hml, hown, hts⟩ := id X
  have hl : lv_has ls 5 [(0, .ref r0), (1, .int x), (2, .int lo), (3, .int hi), (4, .int pl)] := hl
  refine lv_iload_n hx hb d_Rd_judged_0 rfl (lv_at hl 1 rfl) ?_
  refine lv_iload_n hx hb d_Rd_judged_1 rfl (lv_at hl 2 rfl) ?_
  refine lv_icmp_lt (tgt := 10) hx hb d_Rd_judged_2 (by decide) (fun c_1 => ?_) (fun c_1 => ?_)
  · refine lv_aload_n hx hb d_Rd_judged_10 rfl (lv_at hl 0 rfl) ?_
    refine lv_iconst (v := 3) hx hb d_Rd_judged_11 (by decide) ?_
    refine lv_iload hx hb d_Rd_judged_12 (lv_at hl 4 rfl) ?_
    refine pz_v (pz_rV (d := 0) (As := [.int 3, .int pl]) (rest := []) X hN (c_Rd_fail l D cB cI cS r0 rw rx ry rs nv nt ns nw wa fw q 3 pl _) k_Rd_fail w_232 ⟨by decide, by decide⟩ hK hP hD [0] rfl rfl 0 rfl rfl rfl rfl hl.1 rfl (Nat.le_of_ble_eq_true rfl) d_Rd_judged_14 ⟨Nat.zero_le _, Nat.zero_le _⟩) hP hD hS hA [0] rfl [r0] rfl rfl (fun H locs hP hD hS => ?_)
    have hP : va_P D cls ([(r0, .inr (1, [.ref rw, .ref rx, .ref ry, .ref rs, .int nv, .int nt, .int ns, .int nw, .int wa, .int ((fl q 3 pl).1), .int ((fl q 3 pl).2.1), .int ((fl q 3 pl).2.2), .int fw]))]) H := hP
    have hD : va_D A ([(r0, .inr (1, [.ref rw, .ref rx, .ref ry, .ref rs, .int nv, .int nt, .int ns, .int nw, .int wa, .int ((fl q 3 pl).1), .int ((fl q 3 pl).2.1), .int ((fl q 3 pl).2.2), .int fw]))]) := hD
    refine lv_aload_n hx hb d_Rd_judged_17 rfl (lv_at hl 0 rfl) ?_
    refine va_get (D := D) (ci := 1) (v := .int ((fl q 3 pl).2.1)) (C := R_Rd) (T := T_Rd) (N := 13) hx hb hts i_Rd hown hK hP 0 rfl rfl 10 (by decide) (hts _ w_84) (fun _ h9 => h9) rfl d_Rd_judged_18 ?_
    refine lv_if_ne (tgt := 28) hx hb d_Rd_judged_21 (by decide) (fun c_2 => ?_) (fun c_2 => ?_)
    · refine lv_iconst (v := 0) hx hb d_Rd_judged_28 (by decide) ?_
      exact fin _ _ _ _ _ _ d_Rd_judged_29 hP hS (by simp only [jd, jdS, if_pos c_1, if_neg c_2]) (by simp only [jd, jdS, if_pos c_1, if_neg c_2])
    · refine lv_iload_n hx hb d_Rd_judged_24 rfl (lv_at hl 1 rfl) ?_
      refine lv_goto (tgt := 29) hx hb d_Rd_judged_25 (by decide) ?_
      exact fin _ _ _ _ _ _ d_Rd_judged_29 hP hS (by simp only [jd, jdS, if_pos c_1, if_pos c_2]) (by simp only [jd, jdS, if_pos c_1, if_pos c_2])
  · refine lv_iload_n hx hb d_Rd_judged_5 rfl (lv_at hl 1 rfl) ?_
    refine lv_iload_n hx hb d_Rd_judged_6 rfl (lv_at hl 3 rfl) ?_
    refine lv_icmp_le (tgt := 17) hx hb d_Rd_judged_7 (by decide) (fun c_3 => ?_) (fun c_3 => ?_)
    · refine lv_aload_n hx hb d_Rd_judged_17 rfl (lv_at hl 0 rfl) ?_
      refine va_get (D := D) (ci := 1) (v := .int q.2.1) (C := R_Rd) (T := T_Rd) (N := 13) hx hb hts i_Rd hown hK hP 0 rfl rfl 10 (by decide) (hts _ w_84) (fun _ h9 => h9) rfl d_Rd_judged_18 ?_
      refine lv_if_ne (tgt := 28) hx hb d_Rd_judged_21 (by decide) (fun c_4 => ?_) (fun c_4 => ?_)
      · refine lv_iconst (v := 0) hx hb d_Rd_judged_28 (by decide) ?_
        exact fin _ _ _ _ _ _ d_Rd_judged_29 hP hS (by simp only [jd, jdS, if_neg c_1, if_pos c_3, if_neg c_4]) (by simp only [jd, jdS, if_neg c_1, if_pos c_3, if_neg c_4])
      · refine lv_iload_n hx hb d_Rd_judged_24 rfl (lv_at hl 1 rfl) ?_
        refine lv_goto (tgt := 29) hx hb d_Rd_judged_25 (by decide) ?_
        exact fin _ _ _ _ _ _ d_Rd_judged_29 hP hS (by simp only [jd, jdS, if_neg c_1, if_pos c_3, if_pos c_4]) (by simp only [jd, jdS, if_neg c_1, if_pos c_3, if_pos c_4])
    · refine lv_aload_n hx hb d_Rd_judged_10 rfl (lv_at hl 0 rfl) ?_
      refine lv_iconst (v := 3) hx hb d_Rd_judged_11 (by decide) ?_
      refine lv_iload hx hb d_Rd_judged_12 (lv_at hl 4 rfl) ?_
      refine pz_v (pz_rV (d := 0) (As := [.int 3, .int pl]) (rest := []) X hN (c_Rd_fail l D cB cI cS r0 rw rx ry rs nv nt ns nw wa fw q 3 pl _) k_Rd_fail w_232 ⟨by decide, by decide⟩ hK hP hD [0] rfl rfl 0 rfl rfl rfl rfl hl.1 rfl (Nat.le_of_ble_eq_true rfl) d_Rd_judged_14 ⟨Nat.zero_le _, Nat.zero_le _⟩) hP hD hS hA [0] rfl [r0] rfl rfl (fun H locs hP hD hS => ?_)
      have hP : va_P D cls ([(r0, .inr (1, [.ref rw, .ref rx, .ref ry, .ref rs, .int nv, .int nt, .int ns, .int nw, .int wa, .int ((fl q 3 pl).1), .int ((fl q 3 pl).2.1), .int ((fl q 3 pl).2.2), .int fw]))]) H := hP
      have hD : va_D A ([(r0, .inr (1, [.ref rw, .ref rx, .ref ry, .ref rs, .int nv, .int nt, .int ns, .int nw, .int wa, .int ((fl q 3 pl).1), .int ((fl q 3 pl).2.1), .int ((fl q 3 pl).2.2), .int fw]))]) := hD
      refine lv_aload_n hx hb d_Rd_judged_17 rfl (lv_at hl 0 rfl) ?_
      refine va_get (D := D) (ci := 1) (v := .int ((fl q 3 pl).2.1)) (C := R_Rd) (T := T_Rd) (N := 13) hx hb hts i_Rd hown hK hP 0 rfl rfl 10 (by decide) (hts _ w_84) (fun _ h9 => h9) rfl d_Rd_judged_18 ?_
      refine lv_if_ne (tgt := 28) hx hb d_Rd_judged_21 (by decide) (fun c_5 => ?_) (fun c_5 => ?_)
      · refine lv_iconst (v := 0) hx hb d_Rd_judged_28 (by decide) ?_
        exact fin _ _ _ _ _ _ d_Rd_judged_29 hP hS (by simp only [jd, jdS, if_neg c_1, if_neg c_3, if_neg c_5]) (by simp only [jd, jdS, if_neg c_1, if_neg c_3, if_neg c_5])
      · refine lv_iload_n hx hb d_Rd_judged_24 rfl (lv_at hl 1 rfl) ?_
        refine lv_goto (tgt := 29) hx hb d_Rd_judged_25 (by decide) ?_
        exact fin _ _ _ _ _ _ d_Rd_judged_29 hP hS (by simp only [jd, jdS, if_neg c_1, if_neg c_3, if_pos c_5]) (by simp only [jd, jdS, if_neg c_1, if_neg c_3, if_pos c_5])

set_option maxRecDepth 100000 in
set_option maxHeartbeats 4000000 in
/-- Reader.small -/
theorem c_Rd_small (l : Launch) (D : va_G) (cB cI cS : ClassId) (r0 rw rx ry rs rb : Nat) (nv nt ns nw wa fw : Int32) (q : S3) (f : Nat → Int32) (n : Nat) (lo hi : Int32) (hn : n ≤ 8192) : mI l y_Rd_small b_Rd_small 4 (some .int) 2 D cls [(cB, .byte), (cI, .int), (cS, .object "MapLumps$Span")] [.ref r0, .int lo, .int hi] ([(r0, .inr (1, [.ref rw, .ref rx, .ref ry, .ref rs, .int nv, .int nt, .int ns, .int nw, .int wa, .int q.1, .int q.2.1, .int q.2.2, .int fw])), (rw, .inr (3, [.ref rb, .int (nI n)])), (rb, .inl (cB, 8192, .inl f))]) ((sm f n q lo hi).1) ([(r0, .inr (1, [.ref rw, .ref rx, .ref ry, .ref rs, .int nv, .int nt, .int ns, .int nw, .int wa, .int ((sm f n q lo hi).2.1), .int ((sm f n q lo hi).2.2.1), .int ((sm f n q lo hi).2.2.2), .int fw])), (rw, .inr (3, [.ref rb, .int (nI n)])), (rb, .inl (cB, 8192, .inl f))]) := by
  refine pz_openI (by decide) (Nat.le_of_ble_eq_true rfl) ?_
  intro p e s m below meth c A ls Q X hN hK hP hD hS hA hl fin
  obtain ⟨hx, hb, hml, hown, hts⟩ := id X
  have hl : lv_has ls 4 [(0, .ref r0), (1, .int lo), (2, .int hi)] := hl
  refine lv_aload_n hx hb d_Rd_small_0 rfl (lv_at hl 0 rfl) ?_
  refine va_get (D := D) (ci := 1) (v := .int q.1) (C := R_Rd) (T := T_Rd) (N := 13) hx hb hts i_Rd hown hK hP 0 rfl rfl 9 (by decide) (hts _ w_83) (fun _ h9 => h9) rfl d_Rd_small_1 ?_
  refine lv_istore_n (lv' := [(3, .int q.1), (0, .ref r0), (1, .int lo), (2, .int hi)]) hx hb d_Rd_small_4 rfl hl (by decide) rfl (fun ls hl => ?_)
  refine lv_aload_n hx hb d_Rd_small_5 rfl (lv_at hl 1 rfl) ?_
  refine lv_aload_n hx hb d_Rd_small_6 rfl (lv_at hl 1 rfl) ?_
  refine pz_i (pz_rV (d := 1) (As := []) (rest := [.ref r0]) X hN (c_Rd_next l D cB cI cS r0 rw rx ry rs rb nv nt ns nw wa fw q f n hn _) k_Rd_next w_224 ⟨by decide, by decide⟩ hK hP hD [0, 1, 2] rfl rfl 0 rfl rfl rfl rfl hl.1 rfl (Nat.le_of_ble_eq_true rfl) d_Rd_small_7 ⟨Nat.zero_le _, Nat.zero_le _⟩) hP hD hS hA [0, 1, 2] rfl [r0, rw, rb] rfl rfl (fun H locs hP hD hS => ?_)
  have hP : va_P D cls ([(r0, .inr (1, [.ref rw, .ref rx, .ref ry, .ref rs, .int nv, .int nt, .int ns, .int nw, .int wa, .int (((nx f n q).2).1), .int (((nx f n q).2).2.1), .int (((nx f n q).2).2.2), .int fw])), (rw, .inr (3, [.ref rb, .int (nI n)])), (rb, .inl (cB, 8192, .inl f))]) H := hP
  have hD : va_D A ([(r0, .inr (1, [.ref rw, .ref rx, .ref ry, .ref rs, .int nv, .int nt, .int ns, .int nw, .int wa, .int (((nx f n q).2).1), .int (((nx f n q).2).2.1), .int (((nx f n q).2).2.2), .int fw])), (rw, .inr (3, [.ref rb, .int (nI n)])), (rb, .inl (cB, 8192, .inl f))]) := hD
  refine lv_iload_n hx hb d_Rd_small_10 rfl (lv_at hl 2 rfl) ?_
  refine lv_iload_n hx hb d_Rd_small_11 rfl (lv_at hl 3 rfl) ?_
  refine lv_iload_n hx hb d_Rd_small_12 rfl (lv_at hl 0 rfl) ?_
  refine pz_i (pz_rV (d := 1) (As := [.int ((nx f n q).1), .int lo, .int hi, .int q.1]) (rest := []) X hN (c_Rd_judged l D cB cI cS r0 rw rx ry rs nv nt ns nw wa fw ((nx f n q).2) ((nx f n q).1) lo hi q.1 _) k_Rd_judged w_240 ⟨by decide, by decide⟩ hK hP hD [0] rfl rfl 0 rfl rfl rfl rfl hl.1 rfl (Nat.le_of_ble_eq_true rfl) d_Rd_small_13 ⟨Nat.zero_le _, Nat.zero_le _⟩) hP hD hS hA [0] rfl [r0] rfl rfl (fun H locs hP hD hS => ?_)
  have hP : va_P D cls ([(r0, .inr (1, [.ref rw, .ref rx, .ref ry, .ref rs, .int nv, .int nt, .int ns, .int nw, .int wa, .int (((jd ((nx f n q).2) ((nx f n q).1) lo hi q.1).2).1), .int (((jd ((nx f n q).2) ((nx f n q).1) lo hi q.1).2).2.1), .int (((jd ((nx f n q).2) ((nx f n q).1) lo hi q.1).2).2.2), .int fw])), (rw, .inr (3, [.ref rb, .int (nI n)])), (rb, .inl (cB, 8192, .inl f))]) H := hP
  have hD : va_D A ([(r0, .inr (1, [.ref rw, .ref rx, .ref ry, .ref rs, .int nv, .int nt, .int ns, .int nw, .int wa, .int (((jd ((nx f n q).2) ((nx f n q).1) lo hi q.1).2).1), .int (((jd ((nx f n q).2) ((nx f n q).1) lo hi q.1).2).2.1), .int (((jd ((nx f n q).2) ((nx f n q).1) lo hi q.1).2).2.2), .int fw])), (rw, .inr (3, [.ref rb, .int (nI n)])), (rb, .inl (cB, 8192, .inl f))]) := hD
  exact fin _ _ _ _ _ _ d_Rd_small_16 hP hS (rfl) (rfl)

set_option maxRecDepth 100000 in
set_option maxHeartbeats 4000000 in
/-- Reader.smallOrAbsent -/
theorem c_Rd_smallOrAbsent (l : Launch) (D : va_G) (cB cI cS : ClassId) (r0 rw rx ry rs rb : Nat) (nv nt ns nw wa fw : Int32) (q : S3) (f : Nat → Int32) (n : Nat) (hi : Int32) (hn : n ≤ 8192) : mI l y_Rd_smallOrAbsent b_Rd_smallOrAbsent 4 (some .int) 2 D cls [(cB, .byte), (cI, .int), (cS, .object "MapLumps$Span")] [.ref r0, .int hi] ([(r0, .inr (1, [.ref rw, .ref rx, .ref ry, .ref rs, .int nv, .int nt, .int ns, .int nw, .int wa, .int q.1, .int q.2.1, .int q.2.2, .int fw])), (rw, .inr (3, [.ref rb, .int (nI n)])), (rb, .inl (cB, 8192, .inl f))]) ((sa f n q hi).1) ([(r0, .inr (1, [.ref rw, .ref rx, .ref ry, .ref rs, .int nv, .int nt, .int ns, .int nw, .int wa, .int ((sa f n q hi).2.1), .int ((sa f n q hi).2.2.1), .int ((sa f n q hi).2.2.2), .int fw])), (rw, .inr (3, [.ref rb, .int (nI n)])), (rb, .inl (cB, 8192, .inl f))]) := by
  refine pz_openI (by decide) (Nat.le_of_ble_eq_true rfl) ?_
  intro p e s m below meth c A ls Q X hN hK hP hD hS hA hl fin
  obtain ⟨hx, hb, hml, hown, hts⟩ := id X
  have hl : lv_has ls 4 [(0, .ref r0), (1, .int hi)] := hl
  refine lv_aload_n hx hb d_Rd_smallOrAbsent_0 rfl (lv_at hl 0 rfl) ?_
  refine va_get (D := D) (ci := 1) (v := .int q.1) (C := R_Rd) (T := T_Rd) (N := 13) hx hb hts i_Rd hown hK hP 0 rfl rfl 9 (by decide) (hts _ w_83) (fun _ h9 => h9) rfl d_Rd_smallOrAbsent_1 ?_
  refine lv_istore_n (lv' := [(2, .int q.1), (0, .ref r0), (1, .int hi)]) hx hb d_Rd_smallOrAbsent_4 rfl hl (by decide) rfl (fun ls hl => ?_)
  refine lv_aload_n hx hb d_Rd_smallOrAbsent_5 rfl (lv_at hl 1 rfl) ?_
  refine pz_i (pz_rV (d := 1) (As := []) (rest := []) X hN (c_Rd_next l D cB cI cS r0 rw rx ry rs rb nv nt ns nw wa fw q f n hn _) k_Rd_next w_224 ⟨by decide, by decide⟩ hK hP hD [0, 1, 2] rfl rfl 0 rfl rfl rfl rfl hl.1 rfl (Nat.le_of_ble_eq_true rfl) d_Rd_smallOrAbsent_6 ⟨Nat.zero_le _, Nat.zero_le _⟩) hP hD hS hA [0, 1, 2] rfl [r0, rw, rb] rfl rfl (fun H locs hP hD hS => ?_)
  have hP : va_P D cls ([(r0, .inr (1, [.ref rw, .ref rx, .ref ry, .ref rs, .int nv, .int nt, .int ns, .int nw, .int wa, .int (((nx f n q).2).1), .int (((nx f n q).2).2.1), .int (((nx f n q).2).2.2), .int fw])), (rw, .inr (3, [.ref rb, .int (nI n)])), (rb, .inl (cB, 8192, .inl f))]) H := hP
  have hD : va_D A ([(r0, .inr (1, [.ref rw, .ref rx, .ref ry, .ref rs, .int nv, .int nt, .int ns, .int nw, .int wa, .int (((nx f n q).2).1), .int (((nx f n q).2).2.1), .int (((nx f n q).2).2.2), .int fw])), (rw, .inr (3, [.ref rb, .int (nI n)])), (rb, .inl (cB, 8192, .inl f))]) := hD
  refine lv_istore_n (lv' := [(3, .int ((nx f n q).1)), (2, .int q.1), (0, .ref r0), (1, .int hi)]) hx hb d_Rd_smallOrAbsent_9 rfl hl (by decide) rfl (fun ls hl => ?_)
  refine lv_iload_n hx hb d_Rd_smallOrAbsent_10 rfl (lv_at hl 0 rfl) ?_
  refine lv_sipush (v := 255) hx hb d_Rd_smallOrAbsent_11 (by decide) ?_
  refine lv_icmp_ne (tgt := 21) hx hb d_Rd_smallOrAbsent_14 (by decide) (fun c_1 => ?_) (fun c_1 => ?_)
  · refine lv_aload_n hx hb d_Rd_smallOrAbsent_21 rfl (lv_at hl 2 rfl) ?_
    refine lv_iload_n hx hb d_Rd_smallOrAbsent_22 rfl (lv_at hl 0 rfl) ?_
    refine lv_iconst (v := 0) hx hb d_Rd_smallOrAbsent_23 (by decide) ?_
    refine lv_iload_n hx hb d_Rd_smallOrAbsent_24 rfl (lv_at hl 3 rfl) ?_
    refine lv_iload_n hx hb d_Rd_smallOrAbsent_25 rfl (lv_at hl 1 rfl) ?_
    refine pz_i (pz_rV (d := 1) (As := [.int ((nx f n q).1), .int 0, .int hi, .int q.1]) (rest := []) X hN (c_Rd_judged l D cB cI cS r0 rw rx ry rs nv nt ns nw wa fw ((nx f n q).2) ((nx f n q).1) 0 hi q.1 _) k_Rd_judged w_240 ⟨by decide, by decide⟩ hK hP hD [0] rfl rfl 0 rfl rfl rfl rfl hl.1 rfl (Nat.le_of_ble_eq_true rfl) d_Rd_smallOrAbsent_26 ⟨Nat.zero_le _, Nat.zero_le _⟩) hP hD hS hA [0] rfl [r0] rfl rfl (fun H locs hP hD hS => ?_)
    have hP : va_P D cls ([(r0, .inr (1, [.ref rw, .ref rx, .ref ry, .ref rs, .int nv, .int nt, .int ns, .int nw, .int wa, .int (((jd ((nx f n q).2) ((nx f n q).1) 0 hi q.1).2).1), .int (((jd ((nx f n q).2) ((nx f n q).1) 0 hi q.1).2).2.1), .int (((jd ((nx f n q).2) ((nx f n q).1) 0 hi q.1).2).2.2), .int fw])), (rw, .inr (3, [.ref rb, .int (nI n)])), (rb, .inl (cB, 8192, .inl f))]) H := hP
    have hD : va_D A ([(r0, .inr (1, [.ref rw, .ref rx, .ref ry, .ref rs, .int nv, .int nt, .int ns, .int nw, .int wa, .int (((jd ((nx f n q).2) ((nx f n q).1) 0 hi q.1).2).1), .int (((jd ((nx f n q).2) ((nx f n q).1) 0 hi q.1).2).2.1), .int (((jd ((nx f n q).2) ((nx f n q).1) 0 hi q.1).2).2.2), .int fw])), (rw, .inr (3, [.ref rb, .int (nI n)])), (rb, .inl (cB, 8192, .inl f))]) := hD
    exact fin _ _ _ _ _ _ d_Rd_smallOrAbsent_29 hP hS (by simp only [sa, if_neg c_1]) (by simp only [sa, if_neg c_1])
  · refine lv_iload_n hx hb d_Rd_smallOrAbsent_17 rfl (lv_at hl 0 rfl) ?_
    refine lv_goto (tgt := 29) hx hb d_Rd_smallOrAbsent_18 (by decide) ?_
    exact fin _ _ _ _ _ _ d_Rd_smallOrAbsent_29 hP hS (by simp only [sa, if_pos c_1]) (by simp only [sa, if_pos c_1])

set_option maxRecDepth 100000 in
set_option maxHeartbeats 4000000 in
/-- Reader.wide -/
theorem c_Rd_wide (l : Launch) (D : va_G) (cB cI cS : ClassId) (r0 rw rx ry rs rb : Nat) (nv nt ns nw wa fw : Int32) (q : S3) (f : Nat → Int32) (n : Nat) (lo hi : Int32) (hn : n ≤ 8192) : mI l y_Rd_wide b_Rd_wide 6 (some .int) 2 D cls [(cB, .byte), (cI, .int), (cS, .object "MapLumps$Span")] [.ref r0, .int lo, .int hi] ([(r0, .inr (1, [.ref rw, .ref rx, .ref ry, .ref rs, .int nv, .int nt, .int ns, .int nw, .int wa, .int q.1, .int q.2.1, .int q.2.2, .int fw])), (rw, .inr (3, [.ref rb, .int (nI n)])), (rb, .inl (cB, 8192, .inl f))]) ((wd f n q lo hi).1) ([(r0, .inr (1, [.ref rw, .ref rx, .ref ry, .ref rs, .int nv, .int nt, .int ns, .int nw, .int wa, .int ((wd f n q lo hi).2.1), .int ((wd f n q lo hi).2.2.1), .int ((wd f n q lo hi).2.2.2), .int fw])), (rw, .inr (3, [.ref rb, .int (nI n)])), (rb, .inl (cB, 8192, .inl f))]) := by
  refine pz_openI (by decide) (Nat.le_of_ble_eq_true rfl) ?_
  intro p e s m below meth c A ls Q X hN hK hP hD hS hA hl fin
  obtain ⟨hx, hb, hml, hown, hts⟩ := id X
  have hl : lv_has ls 6 [(0, .ref r0), (1, .int lo), (2, .int hi)] := hl
  refine lv_aload_n hx hb d_Rd_wide_0 rfl (lv_at hl 0 rfl) ?_
  refine va_get (D := D) (ci := 1) (v := .int q.1) (C := R_Rd) (T := T_Rd) (N := 13) hx hb hts i_Rd hown hK hP 0 rfl rfl 9 (by decide) (hts _ w_83) (fun _ h9 => h9) rfl d_Rd_wide_1 ?_
  refine lv_istore_n (lv' := [(3, .int q.1), (0, .ref r0), (1, .int lo), (2, .int hi)]) hx hb d_Rd_wide_4 rfl hl (by decide) rfl (fun ls hl => ?_)
  refine lv_aload_n hx hb d_Rd_wide_5 rfl (lv_at hl 1 rfl) ?_
  refine pz_i (pz_rV (d := 1) (As := []) (rest := []) X hN (c_Rd_next l D cB cI cS r0 rw rx ry rs rb nv nt ns nw wa fw q f n hn _) k_Rd_next w_224 ⟨by decide, by decide⟩ hK hP hD [0, 1, 2] rfl rfl 0 rfl rfl rfl rfl hl.1 rfl (Nat.le_of_ble_eq_true rfl) d_Rd_wide_6 ⟨Nat.zero_le _, Nat.zero_le _⟩) hP hD hS hA [0, 1, 2] rfl [r0, rw, rb] rfl rfl (fun H locs hP hD hS => ?_)
  have hP : va_P D cls ([(r0, .inr (1, [.ref rw, .ref rx, .ref ry, .ref rs, .int nv, .int nt, .int ns, .int nw, .int wa, .int (((nx f n q).2).1), .int (((nx f n q).2).2.1), .int (((nx f n q).2).2.2), .int fw])), (rw, .inr (3, [.ref rb, .int (nI n)])), (rb, .inl (cB, 8192, .inl f))]) H := hP
  have hD : va_D A ([(r0, .inr (1, [.ref rw, .ref rx, .ref ry, .ref rs, .int nv, .int nt, .int ns, .int nw, .int wa, .int (((nx f n q).2).1), .int (((nx f n q).2).2.1), .int (((nx f n q).2).2.2), .int fw])), (rw, .inr (3, [.ref rb, .int (nI n)])), (rb, .inl (cB, 8192, .inl f))]) := hD
  refine lv_istore (lv' := [(4, .int ((nx f n q).1)), (3, .int q.1), (0, .ref r0), (1, .int lo), (2, .int hi)]) hx hb d_Rd_wide_9 hl (by decide) rfl (fun ls hl => ?_)
  refine lv_sipush (v := 256) hx hb d_Rd_wide_11 (by decide) ?_
  refine lv_iload hx hb d_Rd_wide_14 (lv_at hl 0 rfl) ?_
  refine lv_imul hx hb d_Rd_wide_16 ?_
  refine lv_aload_n hx hb d_Rd_wide_17 rfl (lv_at hl 2 rfl) ?_
  refine pz_i (pz_rV (d := 1) (As := []) (rest := [.int (256 * ((nx f n q).1))]) X hN (c_Rd_next l D cB cI cS r0 rw rx ry rs rb nv nt ns nw wa fw ((nx f n q).2) f n hn _) k_Rd_next w_224 ⟨by decide, by decide⟩ hK hP hD [0, 1, 2] rfl rfl 0 rfl rfl rfl rfl hl.1 rfl (Nat.le_of_ble_eq_true rfl) d_Rd_wide_18 ⟨Nat.zero_le _, Nat.zero_le _⟩) hP hD hS hA [0, 1, 2] rfl [r0, rw, rb] rfl rfl (fun H locs hP hD hS => ?_)
  have hP : va_P D cls ([(r0, .inr (1, [.ref rw, .ref rx, .ref ry, .ref rs, .int nv, .int nt, .int ns, .int nw, .int wa, .int (((nx f n ((nx f n q).2)).2).1), .int (((nx f n ((nx f n q).2)).2).2.1), .int (((nx f n ((nx f n q).2)).2).2.2), .int fw])), (rw, .inr (3, [.ref rb, .int (nI n)])), (rb, .inl (cB, 8192, .inl f))]) H := hP
  have hD : va_D A ([(r0, .inr (1, [.ref rw, .ref rx, .ref ry, .ref rs, .int nv, .int nt, .int ns, .int nw, .int wa, .int (((nx f n ((nx f n q).2)).2).1), .int (((nx f n ((nx f n q).2)).2).2.1), .int (((nx f n ((nx f n q).2)).2).2.2), .int fw])), (rw, .inr (3, [.ref rb, .int (nI n)])), (rb, .inl (cB, 8192, .inl f))]) := hD
  refine lv_iadd hx hb d_Rd_wide_21 ?_
  refine lv_istore (lv' := [(5, .int ((256 * ((nx f n q).1)) + ((nx f n ((nx f n q).2)).1))), (4, .int ((nx f n q).1)), (3, .int q.1), (0, .ref r0), (1, .int lo), (2, .int hi)]) hx hb d_Rd_wide_22 hl (by decide) rfl (fun ls hl => ?_)
  refine lv_aload_n hx hb d_Rd_wide_24 rfl (lv_at hl 3 rfl) ?_
  refine lv_iload hx hb d_Rd_wide_25 (lv_at hl 0 rfl) ?_
  refine lv_sipush (v := 32767) hx hb d_Rd_wide_27 (by decide) ?_
  refine lv_icmp_le (tgt := 41) hx hb d_Rd_wide_30 (by decide) (fun c_1 => ?_) (fun c_1 => ?_)
  · refine lv_iload hx hb d_Rd_wide_41 (lv_at hl 0 rfl) ?_
    refine lv_iload_n hx hb d_Rd_wide_43 rfl (lv_at hl 4 rfl) ?_
    refine lv_iload_n hx hb d_Rd_wide_44 rfl (lv_at hl 5 rfl) ?_
    refine lv_iload_n hx hb d_Rd_wide_45 rfl (lv_at hl 2 rfl) ?_
    refine pz_i (pz_rV (d := 1) (As := [.int ((256 * ((nx f n q).1)) + ((nx f n ((nx f n q).2)).1)), .int lo, .int hi, .int q.1]) (rest := []) X hN (c_Rd_judged l D cB cI cS r0 rw rx ry rs nv nt ns nw wa fw ((nx f n ((nx f n q).2)).2) ((256 * ((nx f n q).1)) + ((nx f n ((nx f n q).2)).1)) lo hi q.1 _) k_Rd_judged w_240 ⟨by decide, by decide⟩ hK hP hD [0] rfl rfl 0 rfl rfl rfl rfl hl.1 rfl (Nat.le_of_ble_eq_true rfl) d_Rd_wide_46 ⟨Nat.zero_le _, Nat.zero_le _⟩) hP hD hS hA [0] rfl [r0] rfl rfl (fun H locs hP hD hS => ?_)
    have hP : va_P D cls ([(r0, .inr (1, [.ref rw, .ref rx, .ref ry, .ref rs, .int nv, .int nt, .int ns, .int nw, .int wa, .int (((jd ((nx f n ((nx f n q).2)).2) ((256 * ((nx f n q).1)) + ((nx f n ((nx f n q).2)).1)) lo hi q.1).2).1), .int (((jd ((nx f n ((nx f n q).2)).2) ((256 * ((nx f n q).1)) + ((nx f n ((nx f n q).2)).1)) lo hi q.1).2).2.1), .int (((jd ((nx f n ((nx f n q).2)).2) ((256 * ((nx f n q).1)) + ((nx f n ((nx f n q).2)).1)) lo hi q.1).2).2.2), .int fw])), (rw, .inr (3, [.ref rb, .int (nI n)])), (rb, .inl (cB, 8192, .inl f))]) H := hP
    have hD : va_D A ([(r0, .inr (1, [.ref rw, .ref rx, .ref ry, .ref rs, .int nv, .int nt, .int ns, .int nw, .int wa, .int (((jd ((nx f n ((nx f n q).2)).2) ((256 * ((nx f n q).1)) + ((nx f n ((nx f n q).2)).1)) lo hi q.1).2).1), .int (((jd ((nx f n ((nx f n q).2)).2) ((256 * ((nx f n q).1)) + ((nx f n ((nx f n q).2)).1)) lo hi q.1).2).2.1), .int (((jd ((nx f n ((nx f n q).2)).2) ((256 * ((nx f n q).1)) + ((nx f n ((nx f n q).2)).1)) lo hi q.1).2).2.2), .int fw])), (rw, .inr (3, [.ref rb, .int (nI n)])), (rb, .inl (cB, 8192, .inl f))]) := hD
    exact fin _ _ _ _ _ _ d_Rd_wide_49 hP hS (by simp only [wd, w16, if_pos c_1]) (by simp only [wd, w16, if_pos c_1])
  · refine lv_iload hx hb d_Rd_wide_33 (lv_at hl 0 rfl) ?_
    refine lv_ldc (v := 65536) hx hb hown (hts _ (w_252)) d_Rd_wide_35 ?_
    refine lv_isub hx hb d_Rd_wide_37 ?_
    refine lv_goto (tgt := 43) hx hb d_Rd_wide_38 (by decide) ?_
    refine lv_iload_n hx hb d_Rd_wide_43 rfl (lv_at hl 4 rfl) ?_
    refine lv_iload_n hx hb d_Rd_wide_44 rfl (lv_at hl 5 rfl) ?_
    refine lv_iload_n hx hb d_Rd_wide_45 rfl (lv_at hl 2 rfl) ?_
    refine pz_i (pz_rV (d := 1) (As := [.int (((256 * ((nx f n q).1)) + ((nx f n ((nx f n q).2)).1)) - 65536), .int lo, .int hi, .int q.1]) (rest := []) X hN (c_Rd_judged l D cB cI cS r0 rw rx ry rs nv nt ns nw wa fw ((nx f n ((nx f n q).2)).2) (((256 * ((nx f n q).1)) + ((nx f n ((nx f n q).2)).1)) - 65536) lo hi q.1 _) k_Rd_judged w_240 ⟨by decide, by decide⟩ hK hP hD [0] rfl rfl 0 rfl rfl rfl rfl hl.1 rfl (Nat.le_of_ble_eq_true rfl) d_Rd_wide_46 ⟨Nat.zero_le _, Nat.zero_le _⟩) hP hD hS hA [0] rfl [r0] rfl rfl (fun H locs hP hD hS => ?_)
    have hP : va_P D cls ([(r0, .inr (1, [.ref rw, .ref rx, .ref ry, .ref rs, .int nv, .int nt, .int ns, .int nw, .int wa, .int (((jd ((nx f n ((nx f n q).2)).2) (((256 * ((nx f n q).1)) + ((nx f n ((nx f n q).2)).1)) - 65536) lo hi q.1).2).1), .int (((jd ((nx f n ((nx f n q).2)).2) (((256 * ((nx f n q).1)) + ((nx f n ((nx f n q).2)).1)) - 65536) lo hi q.1).2).2.1), .int (((jd ((nx f n ((nx f n q).2)).2) (((256 * ((nx f n q).1)) + ((nx f n ((nx f n q).2)).1)) - 65536) lo hi q.1).2).2.2), .int fw])), (rw, .inr (3, [.ref rb, .int (nI n)])), (rb, .inl (cB, 8192, .inl f))]) H := hP
    have hD : va_D A ([(r0, .inr (1, [.ref rw, .ref rx, .ref ry, .ref rs, .int nv, .int nt, .int ns, .int nw, .int wa, .int (((jd ((nx f n ((nx f n q).2)).2) (((256 * ((nx f n q).1)) + ((nx f n ((nx f n q).2)).1)) - 65536) lo hi q.1).2).1), .int (((jd ((nx f n ((nx f n q).2)).2) (((256 * ((nx f n q).1)) + ((nx f n ((nx f n q).2)).1)) - 65536) lo hi q.1).2).2.1), .int (((jd ((nx f n ((nx f n q).2)).2) (((256 * ((nx f n q).1)) + ((nx f n ((nx f n q).2)).1)) - 65536) lo hi q.1).2).2.2), .int fw])), (rw, .inr (3, [.ref rb, .int (nI n)])), (rb, .inl (cB, 8192, .inl f))]) := hD
    exact fin _ _ _ _ _ _ d_Rd_wide_49 hP hS (by simp only [wd, w16, if_neg c_1]) (by simp only [wd, w16, if_neg c_1])

set_option maxRecDepth 100000 in
set_option maxHeartbeats 4000000 in
/-- Reader.isTaken -/
theorem c_Rd_isTaken (l : Launch) (D : va_G) (cB cI cS : ClassId) (r0 rw rx ry rs : Nat) (nv nt ns nw wa fw : Int32) (q : S3) (xs ys : Nat → Int32) (k : Nat) (hk : k < 128) : mI l y_Rd_isTaken b_Rd_isTaken 3 (some .boolean) 0 D cls [(cB, .byte), (cI, .int), (cS, .object "MapLumps$Span")] [.ref r0, .int (nI k)] ([(r0, .inr (1, [.ref rw, .ref rx, .ref ry, .ref rs, .int nv, .int nt, .int ns, .int nw, .int wa, .int q.1, .int q.2.1, .int q.2.2, .int fw])), (rx, .inl (cI, 128, .inl xs)), (ry, .inl (cI, 128, .inl ys))]) (tkn xs ys k k 0) ([(r0, .inr (1, [.ref rw, .ref rx, .ref ry, .ref rs, .int nv, .int nt, .int ns, .int nw, .int wa, .int q.1, .int q.2.1, .int q.2.2, .int fw])), (rx, .inl (cI, 128, .inl xs)), (ry, .inl (cI, 128, .inl ys))]) := by
  refine pz_openZ (by decide) (Nat.le_of_ble_eq_true rfl) ?_
  intro p e s m below meth c A ls Q X hN hK hP hD hS hA hl fin
  obtain ⟨hx, hb, hml, hown, hts⟩ := id X
  have hl : lv_has ls 3 [(0, .ref r0), (1, .int (nI k))] := hl
  refine lv_iconst (v := 0) hx hb d_Rd_isTaken_0 (by decide) ?_
  refine lv_istore_n (lv' := [(2, .int 0), (0, .ref r0), (1, .int (nI k))]) hx hb d_Rd_isTaken_1 rfl hl (by decide) rfl (fun ls hl => ?_)
  have lp_2 : ∀ (j2 : Nat) (o : Nat) (ls : Array Slot) (H : Heap) (locs : List Loc), j2 + o = k → tkn xs ys k k 0 = tkn xs ys k j2 o → va_P D cls ([(r0, .inr (1, [.ref rw, .ref rx, .ref ry, .ref rs, .int nv, .int nt, .int ns, .int nw, .int wa, .int q.1, .int q.2.1, .int q.2.2, .int fw])), (rx, .inl (cI, 128, .inl xs)), (ry, .inl (cI, 128, .inl ys))]) H → va_D A ([(r0, .inr (1, [.ref rw, .ref rx, .ref ry, .ref rs, .int nv, .int nt, .int ns, .int nw, .int wa, .int q.1, .int q.2.1, .int q.2.2, .int fw])), (rx, .inl (cI, 128, .inl xs)), (ry, .inl (cI, 128, .inl ys))]) → va_S A s.heap H locs → lv_has ls 3 [(0, .ref r0), (1, .int (nI k)), (2, .int (nI o))] → W p l e (rmd 0) s m ([.ref r0, .int (nI k)] : List Value).toArray below meth c H locs 0 0 Q (F0 m 2 ls []) := by
    intro j2
    induction j2 with
    | zero =>
      intro o ls H locs hi he hP hD hS hl
      refine lv_iload_n hx hb d_Rd_isTaken_2 rfl (lv_at hl 2 rfl) ?_
      refine lv_iload_n hx hb d_Rd_isTaken_3 rfl (lv_at hl 1 rfl) ?_
      refine lv_icmp_ge (tgt := 54) hx hb d_Rd_isTaken_4 (by decide) (fun c_1 => ?_) (fun c_1 => ?_)
      · refine lv_iconst (v := 0) hx hb d_Rd_isTaken_54 (by decide) ?_
        exact fin _ _ _ _ _ _ d_Rd_isTaken_55 hP hS (by rw [he]; rfl) (rfl) rfl
      · exact (c_1 (by rw [nI_leI (by omega) (by omega)]; omega)).elim
    | succ j2 ih2 =>
      intro o ls H locs hi he hP hD hS hl
      refine lv_iload_n hx hb d_Rd_isTaken_2 rfl (lv_at hl 2 rfl) ?_
      refine lv_iload_n hx hb d_Rd_isTaken_3 rfl (lv_at hl 1 rfl) ?_
      refine lv_icmp_ge (tgt := 54) hx hb d_Rd_isTaken_4 (by decide) (fun c_2 => ?_) (fun c_2 => ?_)
      · exact absurd c_2 (by rw [nI_leI (by omega) (by omega)]; omega)
      · refine lv_iload_n hx hb d_Rd_isTaken_7 rfl (lv_at hl 1 rfl) ?_
        refine lv_aload_n hx hb d_Rd_isTaken_8 rfl (lv_at hl 0 rfl) ?_
        refine va_get (D := D) (ci := 1) (v := .ref rx) (C := R_Rd) (T := T_Rd) (N := 13) hx hb hts i_Rd hown hK hP 0 rfl rfl 1 (by decide) (hts _ w_75) (fun _ h9 => h9) rfl d_Rd_isTaken_9 ?_
        refine va_alen hx hb hK hP 1 1 rfl rfl (v := 128) rfl d_Rd_isTaken_12 ?_
        refine lv_icmp_ge (tgt := 54) hx hb d_Rd_isTaken_13 (by decide) (fun c_3 => ?_) (fun c_3 => ?_)
        · exact absurd c_3 (show ¬ nI 128 ≤ nI k by rw [nI_leI (by omega) (by omega)]; omega)
        · refine lv_aload_n hx hb d_Rd_isTaken_16 rfl (lv_at hl 0 rfl) ?_
          refine va_get (D := D) (ci := 1) (v := .ref rx) (C := R_Rd) (T := T_Rd) (N := 13) hx hb hts i_Rd hown hK hP 0 rfl rfl 1 (by decide) (hts _ w_75) (fun _ h9 => h9) rfl d_Rd_isTaken_17 ?_
          refine lv_iload_n hx hb d_Rd_isTaken_20 rfl (lv_at hl 2 rfl) ?_
          refine va_iald hx hb hK hP 1 1 rfl rfl (in_n (by omega) (by decide)) d_Rd_isTaken_21 ?_
          rw [nI_clamp (show o < 2 ^ 31 by omega)]
          refine lv_aload_n hx hb d_Rd_isTaken_22 rfl (lv_at hl 0 rfl) ?_
          refine va_get (D := D) (ci := 1) (v := .ref rx) (C := R_Rd) (T := T_Rd) (N := 13) hx hb hts i_Rd hown hK hP 0 rfl rfl 1 (by decide) (hts _ w_75) (fun _ h9 => h9) rfl d_Rd_isTaken_23 ?_
          refine lv_iload_n hx hb d_Rd_isTaken_26 rfl (lv_at hl 1 rfl) ?_
          refine va_iald hx hb hK hP 1 1 rfl rfl (in_n (by omega) (by decide)) d_Rd_isTaken_27 ?_
          rw [nI_clamp (show k < 2 ^ 31 by omega)]
          refine lv_icmp_ne (tgt := 48) hx hb d_Rd_isTaken_28 (by decide) (fun c_4 => ?_) (fun c_4 => ?_)
          · refine lv_iinc (v := nI (o + 1)) (lv' := [(2, .int (nI (o + 1))), (0, .ref r0), (1, .int (nI k))]) hx hb d_Rd_isTaken_48 hl (k := 2) rfl (nI_1 o) (by decide) rfl (fun ls hl => ?_)
            refine lv_goto (tgt := 2) hx hb d_Rd_isTaken_51 (by decide) ?_
            exact ih2 (o + 1) _ _ _ (by omega) (by rw [he, tkn]; simp only [if_neg c_2, if_neg c_3, if_neg c_4]) hP hD hS (lv_sub hl [1, 2, 0] rfl)
          · refine lv_aload_n hx hb d_Rd_isTaken_31 rfl (lv_at hl 0 rfl) ?_
            refine va_get (D := D) (ci := 1) (v := .ref ry) (C := R_Rd) (T := T_Rd) (N := 13) hx hb hts i_Rd hown hK hP 0 rfl rfl 2 (by decide) (hts _ w_76) (fun _ h9 => h9) rfl d_Rd_isTaken_32 ?_
            refine lv_iload_n hx hb d_Rd_isTaken_35 rfl (lv_at hl 2 rfl) ?_
            refine va_iald hx hb hK hP 2 1 rfl rfl (in_n (by omega) (by decide)) d_Rd_isTaken_36 ?_
            rw [nI_clamp (show o < 2 ^ 31 by omega)]
            refine lv_aload_n hx hb d_Rd_isTaken_37 rfl (lv_at hl 0 rfl) ?_
            refine va_get (D := D) (ci := 1) (v := .ref ry) (C := R_Rd) (T := T_Rd) (N := 13) hx hb hts i_Rd hown hK hP 0 rfl rfl 2 (by decide) (hts _ w_76) (fun _ h9 => h9) rfl d_Rd_isTaken_38 ?_
            refine lv_iload_n hx hb d_Rd_isTaken_41 rfl (lv_at hl 1 rfl) ?_
            refine va_iald hx hb hK hP 2 1 rfl rfl (in_n (by omega) (by decide)) d_Rd_isTaken_42 ?_
            rw [nI_clamp (show k < 2 ^ 31 by omega)]
            refine lv_icmp_ne (tgt := 48) hx hb d_Rd_isTaken_43 (by decide) (fun c_5 => ?_) (fun c_5 => ?_)
            · refine lv_iinc (v := nI (o + 1)) (lv' := [(2, .int (nI (o + 1))), (0, .ref r0), (1, .int (nI k))]) hx hb d_Rd_isTaken_48 hl (k := 2) rfl (nI_1 o) (by decide) rfl (fun ls hl => ?_)
              refine lv_goto (tgt := 2) hx hb d_Rd_isTaken_51 (by decide) ?_
              exact ih2 (o + 1) _ _ _ (by omega) (by rw [he, tkn]; simp only [if_neg c_2, if_neg c_3, if_pos c_4, if_neg c_5]) hP hD hS (lv_sub hl [1, 2, 0] rfl)
            · refine lv_iconst (v := 1) hx hb d_Rd_isTaken_46 (by decide) ?_
              exact fin _ _ _ _ _ _ d_Rd_isTaken_47 hP hS (by rw [he, tkn]; simp only [if_neg c_2, if_neg c_3, if_pos c_4, if_pos c_5]) (rfl) rfl
  exact lp_2 k 0 _ _ _ (by omega) (rfl) hP hD hS (lv_sub hl [1, 2, 0] rfl)
end
section
set_option maxRecDepth 100000 in
set_option maxHeartbeats 4000000 in
/-- Reader.passHead -/
theorem c_Rd_passHead (l : Launch) (D : va_G) (cB cI cS : ClassId) (r0 rw rx ry rs rb : Nat) (nv nt ns nw wa fw : Int32) (q : S3) (f : Nat → Int32) (n : Nat) (hn : n ≤ 8192) : mV l y_Rd_passHead b_Rd_passHead 1 (none) 3 D cls [(cB, .byte), (cI, .int), (cS, .object "MapLumps$Span")] [.ref r0] ([(r0, .inr (1, [.ref rw, .ref rx, .ref ry, .ref rs, .int nv, .int nt, .int ns, .int nw, .int wa, .int q.1, .int q.2.1, .int q.2.2, .int fw])), (rw, .inr (3, [.ref rb, .int (nI n)])), (rb, .inl (cB, 8192, .inl f))]) ([(r0, .inr (1, [.ref rw, .ref rx, .ref ry, .ref rs, .int ((hd1 f n q).1), .int ((hd2 f n q).1), .int ((hd3 f n q).1), .int ((hd4 f n q).1), .int wa, .int ((hd4 f n q).2.1), .int ((hd4 f n q).2.2.1), .int ((hd4 f n q).2.2.2), .int fw])), (rw, .inr (3, [.ref rb, .int (nI n)])), (rb, .inl (cB, 8192, .inl f))]) := by
  refine pz_openV (by decide) (Nat.le_of_ble_eq_true rfl) ?_
  intro p e s m below meth c A ls Q X hN hK hP hD hS hA hl fin
  obtain ⟨hx, hb, hml, hown, hts⟩ := id X
  have hl : lv_has ls 1 [(0, .ref r0)] := hl
  refine lv_aload_n hx hb d_Rd_passHead_0 rfl (lv_at hl 0 rfl) ?_
  refine lv_bipush (v := 77) hx hb d_Rd_passHead_1 (by decide) ?_
  refine lv_iconst (v := 2) hx hb d_Rd_passHead_3 (by decide) ?_
  refine pz_v (pz_rV (d := 2) (As := [.int 77, .int 2]) (rest := []) X hN (c_Rd_expect l D cB cI cS r0 rw rx ry rs rb nv nt ns nw wa fw q f n 77 2 hn _) k_Rd_expect w_220 ⟨by decide, by decide⟩ hK hP hD [0, 1, 2] rfl rfl 0 rfl rfl rfl rfl hl.1 rfl (Nat.le_of_ble_eq_true rfl) d_Rd_passHead_4 ⟨Nat.zero_le _, Nat.zero_le _⟩) hP hD hS hA [0, 1, 2] rfl [r0, rw, rb] rfl rfl (fun H locs hP hD hS => ?_)
  generalize eg_1 : ex f n q 77 2 = g_1 at hP hD ⊢
  have hP : va_P D cls ([(r0, .inr (1, [.ref rw, .ref rx, .ref ry, .ref rs, .int nv, .int nt, .int ns, .int nw, .int wa, .int g_1.1, .int g_1.2.1, .int g_1.2.2, .int fw])), (rw, .inr (3, [.ref rb, .int (nI n)])), (rb, .inl (cB, 8192, .inl f))]) H := hP
  have hD : va_D A ([(r0, .inr (1, [.ref rw, .ref rx, .ref ry, .ref rs, .int nv, .int nt, .int ns, .int nw, .int wa, .int g_1.1, .int g_1.2.1, .int g_1.2.2, .int fw])), (rw, .inr (3, [.ref rb, .int (nI n)])), (rb, .inl (cB, 8192, .inl f))]) := hD
  refine lv_aload_n hx hb d_Rd_passHead_7 rfl (lv_at hl 0 rfl) ?_
  refine lv_bipush (v := 72) hx hb d_Rd_passHead_8 (by decide) ?_
  refine lv_iconst (v := 2) hx hb d_Rd_passHead_10 (by decide) ?_
  refine pz_v (pz_rV (d := 2) (As := [.int 72, .int 2]) (rest := []) X hN (c_Rd_expect l D cB cI cS r0 rw rx ry rs rb nv nt ns nw wa fw g_1 f n 72 2 hn _) k_Rd_expect w_220 ⟨by decide, by decide⟩ hK hP hD [0, 1, 2] rfl rfl 0 rfl rfl rfl rfl hl.1 rfl (Nat.le_of_ble_eq_true rfl) d_Rd_passHead_11 ⟨Nat.zero_le _, Nat.zero_le _⟩) hP hD hS hA [0, 1, 2] rfl [r0, rw, rb] rfl rfl (fun H locs hP hD hS => ?_)
  generalize eg_2 : ex f n g_1 72 2 = g_2 at hP hD ⊢
  have hP : va_P D cls ([(r0, .inr (1, [.ref rw, .ref rx, .ref ry, .ref rs, .int nv, .int nt, .int ns, .int nw, .int wa, .int g_2.1, .int g_2.2.1, .int g_2.2.2, .int fw])), (rw, .inr (3, [.ref rb, .int (nI n)])), (rb, .inl (cB, 8192, .inl f))]) H := hP
  have hD : va_D A ([(r0, .inr (1, [.ref rw, .ref rx, .ref ry, .ref rs, .int nv, .int nt, .int ns, .int nw, .int wa, .int g_2.1, .int g_2.2.1, .int g_2.2.2, .int fw])), (rw, .inr (3, [.ref rb, .int (nI n)])), (rb, .inl (cB, 8192, .inl f))]) := hD
  refine lv_aload_n hx hb d_Rd_passHead_14 rfl (lv_at hl 0 rfl) ?_
  refine lv_iconst (v := 1) hx hb d_Rd_passHead_15 (by decide) ?_
  refine lv_iconst (v := 2) hx hb d_Rd_passHead_16 (by decide) ?_
  refine pz_v (pz_rV (d := 2) (As := [.int 1, .int 2]) (rest := []) X hN (c_Rd_expect l D cB cI cS r0 rw rx ry rs rb nv nt ns nw wa fw g_2 f n 1 2 hn _) k_Rd_expect w_220 ⟨by decide, by decide⟩ hK hP hD [0, 1, 2] rfl rfl 0 rfl rfl rfl rfl hl.1 rfl (Nat.le_of_ble_eq_true rfl) d_Rd_passHead_17 ⟨Nat.zero_le _, Nat.zero_le _⟩) hP hD hS hA [0, 1, 2] rfl [r0, rw, rb] rfl rfl (fun H locs hP hD hS => ?_)
  generalize eg_3 : ex f n g_2 1 2 = g_3 at hP hD ⊢
  have hP : va_P D cls ([(r0, .inr (1, [.ref rw, .ref rx, .ref ry, .ref rs, .int nv, .int nt, .int ns, .int nw, .int wa, .int g_3.1, .int g_3.2.1, .int g_3.2.2, .int fw])), (rw, .inr (3, [.ref rb, .int (nI n)])), (rb, .inl (cB, 8192, .inl f))]) H := hP
  have hD : va_D A ([(r0, .inr (1, [.ref rw, .ref rx, .ref ry, .ref rs, .int nv, .int nt, .int ns, .int nw, .int wa, .int g_3.1, .int g_3.2.1, .int g_3.2.2, .int fw])), (rw, .inr (3, [.ref rb, .int (nI n)])), (rb, .inl (cB, 8192, .inl f))]) := hD
  refine lv_aload_n hx hb d_Rd_passHead_20 rfl (lv_at hl 0 rfl) ?_
  refine lv_aload_n hx hb d_Rd_passHead_21 rfl (lv_at hl 0 rfl) ?_
  refine lv_iconst (v := 0) hx hb d_Rd_passHead_22 (by decide) ?_
  refine lv_sipush (v := 128) hx hb d_Rd_passHead_23 (by decide) ?_
  refine pz_i (pz_rV (d := 2) (As := [.int 0, .int 128]) (rest := [.ref r0]) X hN (c_Rd_small l D cB cI cS r0 rw rx ry rs rb nv nt ns nw wa fw g_3 f n 0 128 hn _) k_Rd_small w_236 ⟨by decide, by decide⟩ hK hP hD [0, 1, 2] rfl rfl 0 rfl rfl rfl rfl hl.1 rfl (Nat.le_of_ble_eq_true rfl) d_Rd_passHead_26 ⟨Nat.zero_le _, Nat.zero_le _⟩) hP hD hS hA [0, 1, 2] rfl [r0, rw, rb] rfl rfl (fun H locs hP hD hS => ?_)
  generalize eg_4 : sm f n g_3 0 128 = g_4 at hP hD ⊢
  have hP : va_P D cls ([(r0, .inr (1, [.ref rw, .ref rx, .ref ry, .ref rs, .int nv, .int nt, .int ns, .int nw, .int wa, .int g_4.2.1, .int g_4.2.2.1, .int g_4.2.2.2, .int fw])), (rw, .inr (3, [.ref rb, .int (nI n)])), (rb, .inl (cB, 8192, .inl f))]) H := hP
  have hD : va_D A ([(r0, .inr (1, [.ref rw, .ref rx, .ref ry, .ref rs, .int nv, .int nt, .int ns, .int nw, .int wa, .int g_4.2.1, .int g_4.2.2.1, .int g_4.2.2.2, .int fw])), (rw, .inr (3, [.ref rb, .int (nI n)])), (rb, .inl (cB, 8192, .inl f))]) := hD
  refine va_put (D := D) (ci := 1) (v := .int g_4.1) (ty := (.int)) (C := R_Rd) (T := T_Rd) (N := 13) hx hb hts i_Rd ty_Rd tyok_Rd nm_Rd hown hK hP hD hS 0 rfl rfl 4 (by decide) (hts _ w_78) (fun _ h9 => h9) rfl (by decide +kernel) rfl rfl (Nat.le_of_ble_eq_true rfl) d_Rd_passHead_29 (fun H locs hP hD hS => ?_)
  have hP : va_P D cls ([(r0, .inr (1, [.ref rw, .ref rx, .ref ry, .ref rs, .int g_4.1, .int nt, .int ns, .int nw, .int wa, .int g_4.2.1, .int g_4.2.2.1, .int g_4.2.2.2, .int fw])), (rw, .inr (3, [.ref rb, .int (nI n)])), (rb, .inl (cB, 8192, .inl f))]) H := hP
  have hD : va_D A ([(r0, .inr (1, [.ref rw, .ref rx, .ref ry, .ref rs, .int g_4.1, .int nt, .int ns, .int nw, .int wa, .int g_4.2.1, .int g_4.2.2.1, .int g_4.2.2.2, .int fw])), (rw, .inr (3, [.ref rb, .int (nI n)])), (rb, .inl (cB, 8192, .inl f))]) := hD
  refine lv_aload_n hx hb d_Rd_passHead_32 rfl (lv_at hl 0 rfl) ?_
  refine lv_aload_n hx hb d_Rd_passHead_33 rfl (lv_at hl 0 rfl) ?_
  refine lv_iconst (v := 0) hx hb d_Rd_passHead_34 (by decide) ?_
  refine lv_bipush (v := 16) hx hb d_Rd_passHead_35 (by decide) ?_
  refine pz_i (pz_rV (d := 2) (As := [.int 0, .int 16]) (rest := [.ref r0]) X hN (c_Rd_small l D cB cI cS r0 rw rx ry rs rb g_4.1 nt ns nw wa fw g_4.2 f n 0 16 hn _) k_Rd_small w_236 ⟨by decide, by decide⟩ hK hP hD [0, 1, 2] rfl rfl 0 rfl rfl rfl rfl hl.1 rfl (Nat.le_of_ble_eq_true rfl) d_Rd_passHead_37 ⟨Nat.zero_le _, Nat.zero_le _⟩) hP hD hS hA [0, 1, 2] rfl [r0, rw, rb] rfl rfl (fun H locs hP hD hS => ?_)
  generalize eg_5 : sm f n g_4.2 0 16 = g_5 at hP hD ⊢
  have hP : va_P D cls ([(r0, .inr (1, [.ref rw, .ref rx, .ref ry, .ref rs, .int g_4.1, .int nt, .int ns, .int nw, .int wa, .int g_5.2.1, .int g_5.2.2.1, .int g_5.2.2.2, .int fw])), (rw, .inr (3, [.ref rb, .int (nI n)])), (rb, .inl (cB, 8192, .inl f))]) H := hP
  have hD : va_D A ([(r0, .inr (1, [.ref rw, .ref rx, .ref ry, .ref rs, .int g_4.1, .int nt, .int ns, .int nw, .int wa, .int g_5.2.1, .int g_5.2.2.1, .int g_5.2.2.2, .int fw])), (rw, .inr (3, [.ref rb, .int (nI n)])), (rb, .inl (cB, 8192, .inl f))]) := hD
  refine va_put (D := D) (ci := 1) (v := .int g_5.1) (ty := (.int)) (C := R_Rd) (T := T_Rd) (N := 13) hx hb hts i_Rd ty_Rd tyok_Rd nm_Rd hown hK hP hD hS 0 rfl rfl 5 (by decide) (hts _ w_79) (fun _ h9 => h9) rfl (by decide +kernel) rfl rfl (Nat.le_of_ble_eq_true rfl) d_Rd_passHead_40 (fun H locs hP hD hS => ?_)
  have hP : va_P D cls ([(r0, .inr (1, [.ref rw, .ref rx, .ref ry, .ref rs, .int g_4.1, .int g_5.1, .int ns, .int nw, .int wa, .int g_5.2.1, .int g_5.2.2.1, .int g_5.2.2.2, .int fw])), (rw, .inr (3, [.ref rb, .int (nI n)])), (rb, .inl (cB, 8192, .inl f))]) H := hP
  have hD : va_D A ([(r0, .inr (1, [.ref rw, .ref rx, .ref ry, .ref rs, .int g_4.1, .int g_5.1, .int ns, .int nw, .int wa, .int g_5.2.1, .int g_5.2.2.1, .int g_5.2.2.2, .int fw])), (rw, .inr (3, [.ref rb, .int (nI n)])), (rb, .inl (cB, 8192, .inl f))]) := hD
  refine lv_aload_n hx hb d_Rd_passHead_43 rfl (lv_at hl 0 rfl) ?_
  refine lv_aload_n hx hb d_Rd_passHead_44 rfl (lv_at hl 0 rfl) ?_
  refine lv_iconst (v := 1) hx hb d_Rd_passHead_45 (by decide) ?_
  refine lv_bipush (v := 32) hx hb d_Rd_passHead_46 (by decide) ?_
  refine pz_i (pz_rV (d := 2) (As := [.int 1, .int 32]) (rest := [.ref r0]) X hN (c_Rd_small l D cB cI cS r0 rw rx ry rs rb g_4.1 g_5.1 ns nw wa fw g_5.2 f n 1 32 hn _) k_Rd_small w_236 ⟨by decide, by decide⟩ hK hP hD [0, 1, 2] rfl rfl 0 rfl rfl rfl rfl hl.1 rfl (Nat.le_of_ble_eq_true rfl) d_Rd_passHead_48 ⟨Nat.zero_le _, Nat.zero_le _⟩) hP hD hS hA [0, 1, 2] rfl [r0, rw, rb] rfl rfl (fun H locs hP hD hS => ?_)
  generalize eg_6 : sm f n g_5.2 1 32 = g_6 at hP hD ⊢
  have hP : va_P D cls ([(r0, .inr (1, [.ref rw, .ref rx, .ref ry, .ref rs, .int g_4.1, .int g_5.1, .int ns, .int nw, .int wa, .int g_6.2.1, .int g_6.2.2.1, .int g_6.2.2.2, .int fw])), (rw, .inr (3, [.ref rb, .int (nI n)])), (rb, .inl (cB, 8192, .inl f))]) H := hP
  have hD : va_D A ([(r0, .inr (1, [.ref rw, .ref rx, .ref ry, .ref rs, .int g_4.1, .int g_5.1, .int ns, .int nw, .int wa, .int g_6.2.1, .int g_6.2.2.1, .int g_6.2.2.2, .int fw])), (rw, .inr (3, [.ref rb, .int (nI n)])), (rb, .inl (cB, 8192, .inl f))]) := hD
  refine va_put (D := D) (ci := 1) (v := .int g_6.1) (ty := (.int)) (C := R_Rd) (T := T_Rd) (N := 13) hx hb hts i_Rd ty_Rd tyok_Rd nm_Rd hown hK hP hD hS 0 rfl rfl 6 (by decide) (hts _ w_80) (fun _ h9 => h9) rfl (by decide +kernel) rfl rfl (Nat.le_of_ble_eq_true rfl) d_Rd_passHead_51 (fun H locs hP hD hS => ?_)
  have hP : va_P D cls ([(r0, .inr (1, [.ref rw, .ref rx, .ref ry, .ref rs, .int g_4.1, .int g_5.1, .int g_6.1, .int nw, .int wa, .int g_6.2.1, .int g_6.2.2.1, .int g_6.2.2.2, .int fw])), (rw, .inr (3, [.ref rb, .int (nI n)])), (rb, .inl (cB, 8192, .inl f))]) H := hP
  have hD : va_D A ([(r0, .inr (1, [.ref rw, .ref rx, .ref ry, .ref rs, .int g_4.1, .int g_5.1, .int g_6.1, .int nw, .int wa, .int g_6.2.1, .int g_6.2.2.1, .int g_6.2.2.2, .int fw])), (rw, .inr (3, [.ref rb, .int (nI n)])), (rb, .inl (cB, 8192, .inl f))]) := hD
  refine lv_aload_n hx hb d_Rd_passHead_54 rfl (lv_at hl 0 rfl) ?_
  refine lv_aload_n hx hb d_Rd_passHead_55 rfl (lv_at hl 0 rfl) ?_
  refine lv_iconst (v := 0) hx hb d_Rd_passHead_56 (by decide) ?_
  refine lv_sipush (v := 128) hx hb d_Rd_passHead_57 (by decide) ?_
  refine pz_i (pz_rV (d := 2) (As := [.int 0, .int 128]) (rest := [.ref r0]) X hN (c_Rd_small l D cB cI cS r0 rw rx ry rs rb g_4.1 g_5.1 g_6.1 nw wa fw g_6.2 f n 0 128 hn _) k_Rd_small w_236 ⟨by decide, by decide⟩ hK hP hD [0, 1, 2] rfl rfl 0 rfl rfl rfl rfl hl.1 rfl (Nat.le_of_ble_eq_true rfl) d_Rd_passHead_60 ⟨Nat.zero_le _, Nat.zero_le _⟩) hP hD hS hA [0, 1, 2] rfl [r0, rw, rb] rfl rfl (fun H locs hP hD hS => ?_)
  generalize eg_7 : sm f n g_6.2 0 128 = g_7 at hP hD ⊢
  have hP : va_P D cls ([(r0, .inr (1, [.ref rw, .ref rx, .ref ry, .ref rs, .int g_4.1, .int g_5.1, .int g_6.1, .int nw, .int wa, .int g_7.2.1, .int g_7.2.2.1, .int g_7.2.2.2, .int fw])), (rw, .inr (3, [.ref rb, .int (nI n)])), (rb, .inl (cB, 8192, .inl f))]) H := hP
  have hD : va_D A ([(r0, .inr (1, [.ref rw, .ref rx, .ref ry, .ref rs, .int g_4.1, .int g_5.1, .int g_6.1, .int nw, .int wa, .int g_7.2.1, .int g_7.2.2.1, .int g_7.2.2.2, .int fw])), (rw, .inr (3, [.ref rb, .int (nI n)])), (rb, .inl (cB, 8192, .inl f))]) := hD
  refine va_put (D := D) (ci := 1) (v := .int g_7.1) (ty := (.int)) (C := R_Rd) (T := T_Rd) (N := 13) hx hb hts i_Rd ty_Rd tyok_Rd nm_Rd hown hK hP hD hS 0 rfl rfl 7 (by decide) (hts _ w_81) (fun _ h9 => h9) rfl (by decide +kernel) rfl rfl (Nat.le_of_ble_eq_true rfl) d_Rd_passHead_63 (fun H locs hP hD hS => ?_)
  have hP : va_P D cls ([(r0, .inr (1, [.ref rw, .ref rx, .ref ry, .ref rs, .int g_4.1, .int g_5.1, .int g_6.1, .int g_7.1, .int wa, .int g_7.2.1, .int g_7.2.2.1, .int g_7.2.2.2, .int fw])), (rw, .inr (3, [.ref rb, .int (nI n)])), (rb, .inl (cB, 8192, .inl f))]) H := hP
  have hD : va_D A ([(r0, .inr (1, [.ref rw, .ref rx, .ref ry, .ref rs, .int g_4.1, .int g_5.1, .int g_6.1, .int g_7.1, .int wa, .int g_7.2.1, .int g_7.2.2.1, .int g_7.2.2.2, .int fw])), (rw, .inr (3, [.ref rb, .int (nI n)])), (rb, .inl (cB, 8192, .inl f))]) := hD
  exact fin _ _ _ _ _ d_Rd_passHead_66 hP hS (by simp only [hd4, hd3, hd2, hd1, hdS, eg_1, eg_2, eg_3, eg_4, eg_5, eg_6, eg_7])

set_option maxRecDepth 100000 in
set_option maxHeartbeats 4000000 in
/-- Reader.passStart -/
theorem c_Rd_passStart (l : Launch) (D : va_G) (cB cI cS : ClassId) (r0 rw rx ry rs rb : Nat) (nv nt ns nw wa fw : Int32) (q : S3) (f : Nat → Int32) (n : Nat) (hn : n ≤ 8192) : mV l y_Rd_passStart b_Rd_passStart 1 (none) 3 D cls [(cB, .byte), (cI, .int), (cS, .object "MapLumps$Span")] [.ref r0] ([(r0, .inr (1, [.ref rw, .ref rx, .ref ry, .ref rs, .int nv, .int nt, .int ns, .int nw, .int wa, .int q.1, .int q.2.1, .int q.2.2, .int fw])), (rw, .inr (3, [.ref rb, .int (nI n)])), (rb, .inl (cB, 8192, .inl f))]) ([(r0, .inr (1, [.ref rw, .ref rx, .ref ry, .ref rs, .int nv, .int nt, .int ns, .int nw, .int wa, .int ((stS f n ns q).1), .int ((stS f n ns q).2.1), .int ((stS f n ns q).2.2), .int fw])), (rw, .inr (3, [.ref rb, .int (nI n)])), (rb, .inl (cB, 8192, .inl f))]) := by
  refine pz_openV (by decide) (Nat.le_of_ble_eq_true rfl) ?_
  intro p e s m below meth c A ls Q X hN hK hP hD hS hA hl fin
  obtain ⟨hx, hb, hml, hown, hts⟩ := id X
  have hl : lv_has ls 1 [(0, .ref r0)] := hl
  refine lv_aload_n hx hb d_Rd_passStart_0 rfl (lv_at hl 0 rfl) ?_
  refine lv_sipush (v := (-32768)) hx hb d_Rd_passStart_1 (by decide) ?_
  refine lv_sipush (v := 32767) hx hb d_Rd_passStart_4 (by decide) ?_
  refine pz_i (pz_rV (d := 2) (As := [.int (-32768), .int 32767]) (rest := []) X hN (c_Rd_wide l D cB cI cS r0 rw rx ry rs rb nv nt ns nw wa fw q f n (-32768) 32767 hn _) k_Rd_wide w_248 ⟨by decide, by decide⟩ hK hP hD [0, 1, 2] rfl rfl 0 rfl rfl rfl rfl hl.1 rfl (Nat.le_of_ble_eq_true rfl) d_Rd_passStart_7 ⟨Nat.zero_le _, Nat.zero_le _⟩) hP hD hS hA [0, 1, 2] rfl [r0, rw, rb] rfl rfl (fun H locs hP hD hS => ?_)
  generalize eg_1 : wd f n q (-32768) 32767 = g_1 at hP hD ⊢
  have hP : va_P D cls ([(r0, .inr (1, [.ref rw, .ref rx, .ref ry, .ref rs, .int nv, .int nt, .int ns, .int nw, .int wa, .int g_1.2.1, .int g_1.2.2.1, .int g_1.2.2.2, .int fw])), (rw, .inr (3, [.ref rb, .int (nI n)])), (rb, .inl (cB, 8192, .inl f))]) H := hP
  have hD : va_D A ([(r0, .inr (1, [.ref rw, .ref rx, .ref ry, .ref rs, .int nv, .int nt, .int ns, .int nw, .int wa, .int g_1.2.1, .int g_1.2.2.1, .int g_1.2.2.2, .int fw])), (rw, .inr (3, [.ref rb, .int (nI n)])), (rb, .inl (cB, 8192, .inl f))]) := hD
  refine lv_pop hx hb d_Rd_passStart_10 rfl ?_
  refine lv_aload_n hx hb d_Rd_passStart_11 rfl (lv_at hl 0 rfl) ?_
  refine lv_sipush (v := (-32768)) hx hb d_Rd_passStart_12 (by decide) ?_
  refine lv_sipush (v := 32767) hx hb d_Rd_passStart_15 (by decide) ?_
  refine pz_i (pz_rV (d := 2) (As := [.int (-32768), .int 32767]) (rest := []) X hN (c_Rd_wide l D cB cI cS r0 rw rx ry rs rb nv nt ns nw wa fw g_1.2 f n (-32768) 32767 hn _) k_Rd_wide w_248 ⟨by decide, by decide⟩ hK hP hD [0, 1, 2] rfl rfl 0 rfl rfl rfl rfl hl.1 rfl (Nat.le_of_ble_eq_true rfl) d_Rd_passStart_18 ⟨Nat.zero_le _, Nat.zero_le _⟩) hP hD hS hA [0, 1, 2] rfl [r0, rw, rb] rfl rfl (fun H locs hP hD hS => ?_)
  generalize eg_2 : wd f n g_1.2 (-32768) 32767 = g_2 at hP hD ⊢
  have hP : va_P D cls ([(r0, .inr (1, [.ref rw, .ref rx, .ref ry, .ref rs, .int nv, .int nt, .int ns, .int nw, .int wa, .int g_2.2.1, .int g_2.2.2.1, .int g_2.2.2.2, .int fw])), (rw, .inr (3, [.ref rb, .int (nI n)])), (rb, .inl (cB, 8192, .inl f))]) H := hP
  have hD : va_D A ([(r0, .inr (1, [.ref rw, .ref rx, .ref ry, .ref rs, .int nv, .int nt, .int ns, .int nw, .int wa, .int g_2.2.1, .int g_2.2.2.1, .int g_2.2.2.2, .int fw])), (rw, .inr (3, [.ref rb, .int (nI n)])), (rb, .inl (cB, 8192, .inl f))]) := hD
  refine lv_pop hx hb d_Rd_passStart_21 rfl ?_
  refine lv_aload_n hx hb d_Rd_passStart_22 rfl (lv_at hl 0 rfl) ?_
  refine lv_iconst (v := 0) hx hb d_Rd_passStart_23 (by decide) ?_
  refine lv_bipush (v := 63) hx hb d_Rd_passStart_24 (by decide) ?_
  refine pz_i (pz_rV (d := 2) (As := [.int 0, .int 63]) (rest := []) X hN (c_Rd_small l D cB cI cS r0 rw rx ry rs rb nv nt ns nw wa fw g_2.2 f n 0 63 hn _) k_Rd_small w_236 ⟨by decide, by decide⟩ hK hP hD [0, 1, 2] rfl rfl 0 rfl rfl rfl rfl hl.1 rfl (Nat.le_of_ble_eq_true rfl) d_Rd_passStart_26 ⟨Nat.zero_le _, Nat.zero_le _⟩) hP hD hS hA [0, 1, 2] rfl [r0, rw, rb] rfl rfl (fun H locs hP hD hS => ?_)
  generalize eg_3 : sm f n g_2.2 0 63 = g_3 at hP hD ⊢
  have hP : va_P D cls ([(r0, .inr (1, [.ref rw, .ref rx, .ref ry, .ref rs, .int nv, .int nt, .int ns, .int nw, .int wa, .int g_3.2.1, .int g_3.2.2.1, .int g_3.2.2.2, .int fw])), (rw, .inr (3, [.ref rb, .int (nI n)])), (rb, .inl (cB, 8192, .inl f))]) H := hP
  have hD : va_D A ([(r0, .inr (1, [.ref rw, .ref rx, .ref ry, .ref rs, .int nv, .int nt, .int ns, .int nw, .int wa, .int g_3.2.1, .int g_3.2.2.1, .int g_3.2.2.2, .int fw])), (rw, .inr (3, [.ref rb, .int (nI n)])), (rb, .inl (cB, 8192, .inl f))]) := hD
  refine lv_pop hx hb d_Rd_passStart_29 rfl ?_
  refine lv_aload_n hx hb d_Rd_passStart_30 rfl (lv_at hl 0 rfl) ?_
  refine lv_iconst (v := 0) hx hb d_Rd_passStart_31 (by decide) ?_
  refine lv_aload_n hx hb d_Rd_passStart_32 rfl (lv_at hl 0 rfl) ?_
  refine va_get (D := D) (ci := 1) (v := .int ns) (C := R_Rd) (T := T_Rd) (N := 13) hx hb hts i_Rd hown hK hP 0 rfl rfl 6 (by decide) (hts _ w_80) (fun _ h9 => h9) rfl d_Rd_passStart_33 ?_
  refine lv_iconst (v := 1) hx hb d_Rd_passStart_36 (by decide) ?_
  refine lv_isub hx hb d_Rd_passStart_37 ?_
  refine pz_i (pz_rV (d := 2) (As := [.int 0, .int (ns - 1)]) (rest := []) X hN (c_Rd_small l D cB cI cS r0 rw rx ry rs rb nv nt ns nw wa fw g_3.2 f n 0 (ns - 1) hn _) k_Rd_small w_236 ⟨by decide, by decide⟩ hK hP hD [0, 1, 2] rfl rfl 0 rfl rfl rfl rfl hl.1 rfl (Nat.le_of_ble_eq_true rfl) d_Rd_passStart_38 ⟨Nat.zero_le _, Nat.zero_le _⟩) hP hD hS hA [0, 1, 2] rfl [r0, rw, rb] rfl rfl (fun H locs hP hD hS => ?_)
  generalize eg_4 : sm f n g_3.2 0 (ns - 1) = g_4 at hP hD ⊢
  have hP : va_P D cls ([(r0, .inr (1, [.ref rw, .ref rx, .ref ry, .ref rs, .int nv, .int nt, .int ns, .int nw, .int wa, .int g_4.2.1, .int g_4.2.2.1, .int g_4.2.2.2, .int fw])), (rw, .inr (3, [.ref rb, .int (nI n)])), (rb, .inl (cB, 8192, .inl f))]) H := hP
  have hD : va_D A ([(r0, .inr (1, [.ref rw, .ref rx, .ref ry, .ref rs, .int nv, .int nt, .int ns, .int nw, .int wa, .int g_4.2.1, .int g_4.2.2.1, .int g_4.2.2.2, .int fw])), (rw, .inr (3, [.ref rb, .int (nI n)])), (rb, .inl (cB, 8192, .inl f))]) := hD
  refine lv_pop hx hb d_Rd_passStart_41 rfl ?_
  exact fin _ _ _ _ _ d_Rd_passStart_42 hP hS (by simp only [stS, eg_1, eg_2, eg_3, eg_4])

set_option maxRecDepth 100000 in
set_option maxHeartbeats 4000000 in
/-- Reader.passWallTextures -/
theorem c_Rd_passWallTextures (l : Launch) (D : va_G) (cB cI cS : ClassId) (r0 rw rx ry rs rb : Nat) (nv nt ns nw wa fw : Int32) (q : S3) (f : Nat → Int32) (n : Nat) (hi : Int32) (hn : n ≤ 8192) : mV l y_Rd_passWallTextures b_Rd_passWallTextures 3 (none) 3 D cls [(cB, .byte), (cI, .int), (cS, .object "MapLumps$Span")] [.ref r0, .int hi] ([(r0, .inr (1, [.ref rw, .ref rx, .ref ry, .ref rs, .int nv, .int nt, .int ns, .int nw, .int wa, .int q.1, .int q.2.1, .int q.2.2, .int fw])), (rw, .inr (3, [.ref rb, .int (nI n)])), (rb, .inl (cB, 8192, .inl f))]) ([(r0, .inr (1, [.ref rw, .ref rx, .ref ry, .ref rs, .int nv, .int nt, .int ns, .int nw, .int wa, .int ((wt3 f n hi q).1), .int ((wt3 f n hi q).2.1), .int ((wt3 f n hi q).2.2), .int fw])), (rw, .inr (3, [.ref rb, .int (nI n)])), (rb, .inl (cB, 8192, .inl f))]) := by
  refine pz_openV (by decide) (Nat.le_of_ble_eq_true rfl) ?_
  intro p e s m below meth c A ls Q X hN hK hP hD hS hA hl fin
  obtain ⟨hx, hb, hml, hown, hts⟩ := id X
  have hl : lv_has ls 3 [(0, .ref r0), (1, .int hi)] := hl
  refine lv_iconst (v := 0) hx hb d_Rd_passWallTextures_0 (by decide) ?_
  refine lv_istore_n (lv' := [(2, .int 0), (0, .ref r0), (1, .int hi)]) hx hb d_Rd_passWallTextures_1 rfl hl (by decide) rfl (fun ls hl => ?_)
  refine lv_iload_n hx hb d_Rd_passWallTextures_2 rfl (lv_at hl 0 rfl) ?_
  refine lv_iconst (v := 3) hx hb d_Rd_passWallTextures_3 (by decide) ?_
  refine lv_icmp_ge (tgt := 19) hx hb d_Rd_passWallTextures_4 (by decide) (fun c_1 => ?_) (fun c_1 => ?_)
  · exact absurd c_1 (by decide)
  · refine lv_aload_n hx hb d_Rd_passWallTextures_7 rfl (lv_at hl 1 rfl) ?_
    refine lv_iload_n hx hb d_Rd_passWallTextures_8 rfl (lv_at hl 2 rfl) ?_
    refine pz_i (pz_rV (d := 2) (As := [.int hi]) (rest := []) X hN (c_Rd_smallOrAbsent l D cB cI cS r0 rw rx ry rs rb nv nt ns nw wa fw q f n hi hn _) k_Rd_smallOrAbsent w_265 ⟨by decide, by decide⟩ hK hP hD [0, 1, 2] rfl rfl 0 rfl rfl rfl rfl hl.1 rfl (Nat.le_of_ble_eq_true rfl) d_Rd_passWallTextures_9 ⟨Nat.zero_le _, Nat.zero_le _⟩) hP hD hS hA [0, 1, 2] rfl [r0, rw, rb] rfl rfl (fun H locs hP hD hS => ?_)
    generalize eg_2 : sa f n q hi = g_2 at hP hD ⊢
    have hP : va_P D cls ([(r0, .inr (1, [.ref rw, .ref rx, .ref ry, .ref rs, .int nv, .int nt, .int ns, .int nw, .int wa, .int g_2.2.1, .int g_2.2.2.1, .int g_2.2.2.2, .int fw])), (rw, .inr (3, [.ref rb, .int (nI n)])), (rb, .inl (cB, 8192, .inl f))]) H := hP
    have hD : va_D A ([(r0, .inr (1, [.ref rw, .ref rx, .ref ry, .ref rs, .int nv, .int nt, .int ns, .int nw, .int wa, .int g_2.2.1, .int g_2.2.2.1, .int g_2.2.2.2, .int fw])), (rw, .inr (3, [.ref rb, .int (nI n)])), (rb, .inl (cB, 8192, .inl f))]) := hD
    refine lv_pop hx hb d_Rd_passWallTextures_12 rfl ?_
    refine lv_iinc (v := 1) (lv' := [(2, .int 1), (0, .ref r0), (1, .int hi)]) hx hb d_Rd_passWallTextures_13 hl (k := 0) rfl (by decide) (by decide) rfl (fun ls hl => ?_)
    refine lv_goto (tgt := 2) hx hb d_Rd_passWallTextures_16 (by decide) ?_
    refine lv_iload_n hx hb d_Rd_passWallTextures_2 rfl (lv_at hl 0 rfl) ?_
    refine lv_iconst (v := 3) hx hb d_Rd_passWallTextures_3 (by decide) ?_
    refine lv_icmp_ge (tgt := 19) hx hb d_Rd_passWallTextures_4 (by decide) (fun c_3 => ?_) (fun c_3 => ?_)
    · exact absurd c_3 (by decide)
    · refine lv_aload_n hx hb d_Rd_passWallTextures_7 rfl (lv_at hl 1 rfl) ?_
      refine lv_iload_n hx hb d_Rd_passWallTextures_8 rfl (lv_at hl 2 rfl) ?_
      refine pz_i (pz_rV (d := 2) (As := [.int hi]) (rest := []) X hN (c_Rd_smallOrAbsent l D cB cI cS r0 rw rx ry rs rb nv nt ns nw wa fw g_2.2 f n hi hn _) k_Rd_smallOrAbsent w_265 ⟨by decide, by decide⟩ hK hP hD [0, 1, 2] rfl rfl 0 rfl rfl rfl rfl hl.1 rfl (Nat.le_of_ble_eq_true rfl) d_Rd_passWallTextures_9 ⟨Nat.zero_le _, Nat.zero_le _⟩) hP hD hS hA [0, 1, 2] rfl [r0, rw, rb] rfl rfl (fun H locs hP hD hS => ?_)
      generalize eg_4 : sa f n g_2.2 hi = g_4 at hP hD ⊢
      have hP : va_P D cls ([(r0, .inr (1, [.ref rw, .ref rx, .ref ry, .ref rs, .int nv, .int nt, .int ns, .int nw, .int wa, .int g_4.2.1, .int g_4.2.2.1, .int g_4.2.2.2, .int fw])), (rw, .inr (3, [.ref rb, .int (nI n)])), (rb, .inl (cB, 8192, .inl f))]) H := hP
      have hD : va_D A ([(r0, .inr (1, [.ref rw, .ref rx, .ref ry, .ref rs, .int nv, .int nt, .int ns, .int nw, .int wa, .int g_4.2.1, .int g_4.2.2.1, .int g_4.2.2.2, .int fw])), (rw, .inr (3, [.ref rb, .int (nI n)])), (rb, .inl (cB, 8192, .inl f))]) := hD
      refine lv_pop hx hb d_Rd_passWallTextures_12 rfl ?_
      refine lv_iinc (v := 2) (lv' := [(2, .int 2), (0, .ref r0), (1, .int hi)]) hx hb d_Rd_passWallTextures_13 hl (k := 0) rfl (by decide) (by decide) rfl (fun ls hl => ?_)
      refine lv_goto (tgt := 2) hx hb d_Rd_passWallTextures_16 (by decide) ?_
      refine lv_iload_n hx hb d_Rd_passWallTextures_2 rfl (lv_at hl 0 rfl) ?_
      refine lv_iconst (v := 3) hx hb d_Rd_passWallTextures_3 (by decide) ?_
      refine lv_icmp_ge (tgt := 19) hx hb d_Rd_passWallTextures_4 (by decide) (fun c_5 => ?_) (fun c_5 => ?_)
      · exact absurd c_5 (by decide)
      · refine lv_aload_n hx hb d_Rd_passWallTextures_7 rfl (lv_at hl 1 rfl) ?_
        refine lv_iload_n hx hb d_Rd_passWallTextures_8 rfl (lv_at hl 2 rfl) ?_
        refine pz_i (pz_rV (d := 2) (As := [.int hi]) (rest := []) X hN (c_Rd_smallOrAbsent l D cB cI cS r0 rw rx ry rs rb nv nt ns nw wa fw g_4.2 f n hi hn _) k_Rd_smallOrAbsent w_265 ⟨by decide, by decide⟩ hK hP hD [0, 1, 2] rfl rfl 0 rfl rfl rfl rfl hl.1 rfl (Nat.le_of_ble_eq_true rfl) d_Rd_passWallTextures_9 ⟨Nat.zero_le _, Nat.zero_le _⟩) hP hD hS hA [0, 1, 2] rfl [r0, rw, rb] rfl rfl (fun H locs hP hD hS => ?_)
        generalize eg_6 : sa f n g_4.2 hi = g_6 at hP hD ⊢
        have hP : va_P D cls ([(r0, .inr (1, [.ref rw, .ref rx, .ref ry, .ref rs, .int nv, .int nt, .int ns, .int nw, .int wa, .int g_6.2.1, .int g_6.2.2.1, .int g_6.2.2.2, .int fw])), (rw, .inr (3, [.ref rb, .int (nI n)])), (rb, .inl (cB, 8192, .inl f))]) H := hP
        have hD : va_D A ([(r0, .inr (1, [.ref rw, .ref rx, .ref ry, .ref rs, .int nv, .int nt, .int ns, .int nw, .int wa, .int g_6.2.1, .int g_6.2.2.1, .int g_6.2.2.2, .int fw])), (rw, .inr (3, [.ref rb, .int (nI n)])), (rb, .inl (cB, 8192, .inl f))]) := hD
        refine lv_pop hx hb d_Rd_passWallTextures_12 rfl ?_
        refine lv_iinc (v := 3) (lv' := [(2, .int 3), (0, .ref r0), (1, .int hi)]) hx hb d_Rd_passWallTextures_13 hl (k := 0) rfl (by decide) (by decide) rfl (fun ls hl => ?_)
        refine lv_goto (tgt := 2) hx hb d_Rd_passWallTextures_16 (by decide) ?_
        refine lv_iload_n hx hb d_Rd_passWallTextures_2 rfl (lv_at hl 0 rfl) ?_
        refine lv_iconst (v := 3) hx hb d_Rd_passWallTextures_3 (by decide) ?_
        refine lv_icmp_ge (tgt := 19) hx hb d_Rd_passWallTextures_4 (by decide) (fun c_7 => ?_) (fun c_7 => ?_)
        · exact fin _ _ _ _ _ d_Rd_passWallTextures_19 hP hS (by simp only [wt3, eg_2, eg_4, eg_6])
        · exact absurd (by decide) c_7
end
section
/-! what is read: its ranges -/
theorem jd_rng (q : S3) (v lo hi pl : Int32) : (jd q v lo hi pl).1 = 0 ∨ (¬ v < lo ∧ v ≤ hi ∧ (jd q v lo hi pl).1 = v ∧ (jd q v lo hi pl).2 = q) := by
  by_cases h0 : (jdS q v lo hi pl).2.1 = 0
  · right
    have e1 : (jd q v lo hi pl).1 = v := by simp only [jd, if_pos h0]
    by_cases h1 : v < lo
    · exfalso
      simp only [jdS, if_pos h1, fl] at h0
      by_cases h2 : q.2.1 = 0
      · rw [if_pos h2] at h0
        exact absurd (show (3 : Int32) = 0 from h0) (by decide)
      · rw [if_neg h2] at h0
        exact h2 h0
    · by_cases h2 : v ≤ hi
      · exact ⟨h1, h2, e1, by simp only [jd, jdS, if_neg h1, if_pos h2]⟩
      · exfalso
        simp only [jdS, if_neg h1, if_neg h2, fl] at h0
        by_cases h3 : q.2.1 = 0
        · rw [if_pos h3] at h0
          exact absurd (show (3 : Int32) = 0 from h0) (by decide)
        · rw [if_neg h3] at h0
          exact h3 h0
  · left
    simp only [jd, if_neg h0]
/-- a number of one byte, from 0 to h -/
theorem sm_rng (f : Nat → Int32) (n : Nat) (q : S3) (h : Nat) (hh : h < 2 ^ 31) : ∃ a : Nat, a ≤ h ∧ (sm f n q 0 (nI h)).1 = nI a := by
  rcases jd_rng (nx f n q).2 (nx f n q).1 0 (nI h) q.1 with h1 | ⟨h1, h2, h3, -⟩
  · exact ⟨0, Nat.zero_le _, h1⟩
  · obtain ⟨j, hj, ej⟩ := nI_of h1
    refine ⟨j, ?_, h3.trans ej⟩
    rw [ej, nI_leI hj hh] at h2
    exact h2
theorem txC : ∀ a, a < 5 → ∀ b, b < 5 → ∃ B : Nat, B ≤ 256 ∧ txw (nI a) * txw (nI b) = nI B := by
  intro a ha b hb
  refine ⟨2 ^ (a + b), ?_, ?_⟩
  · calc 2 ^ (a + b) ≤ 2 ^ 8 := Nat.pow_le_pow_right (by omega) (by omega)
      _ = 256 := by decide
  · have h : ∀ x : Fin 5, ∀ y : Fin 5, txw (nI x.val) * txw (nI y.val) = nI (2 ^ (x.val + y.val)) := by decide +kernel
    exact h ⟨a, ha⟩ ⟨b, hb⟩
end
section
set_option maxRecDepth 100000 in
set_option maxHeartbeats 4000000 in
/-- Reader.passVertices -/
theorem c_Rd_passVertices (l : Launch) (D : va_G) (cB cI cS : ClassId) (r0 rw rx ry rs rb : Nat) (nv nt ns nw wa fw : Int32) (q : S3) (f : Nat → Int32) (n : Nat) (xs ys : Nat → Int32) (hn : n ≤ 8192) : mV l y_Rd_passVertices b_Rd_passVertices 3 (none) 3 D cls [(cB, .byte), (cI, .int), (cS, .object "MapLumps$Span")] [.ref r0] ([(r0, .inr (1, [.ref rw, .ref rx, .ref ry, .ref rs, .int nv, .int nt, .int ns, .int nw, .int wa, .int q.1, .int q.2.1, .int q.2.2, .int fw])), (rw, .inr (3, [.ref rb, .int (nI n)])), (rb, .inl (cB, 8192, .inl f)), (rx, .inl (cI, 128, .inl xs)), (ry, .inl (cI, 128, .inl ys))]) ([(r0, .inr (1, [.ref rw, .ref rx, .ref ry, .ref rs, .int nv, .int nt, .int ns, .int nw, .int wa, .int ((vlp f n nv 128 0 (q, xs, ys)).1.1), .int ((vlp f n nv 128 0 (q, xs, ys)).1.2.1), .int ((vlp f n nv 128 0 (q, xs, ys)).1.2.2), .int fw])), (rw, .inr (3, [.ref rb, .int (nI n)])), (rb, .inl (cB, 8192, .inl f)), (rx, .inl (cI, 128, .inl ((vlp f n nv 128 0 (q, xs, ys)).2.1))), (ry, .inl (cI, 128, .inl ((vlp f n nv 128 0 (q, xs, ys)).2.2)))]) := by
  refine pz_openV (by decide) (Nat.le_of_ble_eq_true rfl) ?_
  intro p e s m below meth c A ls Q X hN hK hP hD hS hA hl fin
  obtain ⟨hx, hb, hml, hown, hts⟩ := id X
  have hl : lv_has ls 3 [(0, .ref r0)] := hl
  refine lv_iconst (v := 0) hx hb d_Rd_passVertices_0 (by decide) ?_
  refine lv_istore_n (lv' := [(1, .int 0), (0, .ref r0)]) hx hb d_Rd_passVertices_1 rfl hl (by decide) rfl (fun ls hl => ?_)
  have lp_3 : ∀ (j3 : Nat) (k : Nat) (z : SV) (ls : Array Slot) (H : Heap) (locs : List Loc), j3 + k = 128 → vlp f n nv 128 0 (q, xs, ys) = vlp f n nv j3 k z → va_P D cls ([(r0, .inr (1, [.ref rw, .ref rx, .ref ry, .ref rs, .int nv, .int nt, .int ns, .int nw, .int wa, .int z.1.1, .int z.1.2.1, .int z.1.2.2, .int fw])), (rw, .inr (3, [.ref rb, .int (nI n)])), (rb, .inl (cB, 8192, .inl f)), (rx, .inl (cI, 128, .inl z.2.1)), (ry, .inl (cI, 128, .inl z.2.2))]) H → va_D A ([(r0, .inr (1, [.ref rw, .ref rx, .ref ry, .ref rs, .int nv, .int nt, .int ns, .int nw, .int wa, .int z.1.1, .int z.1.2.1, .int z.1.2.2, .int fw])), (rw, .inr (3, [.ref rb, .int (nI n)])), (rb, .inl (cB, 8192, .inl f)), (rx, .inl (cI, 128, .inl z.2.1)), (ry, .inl (cI, 128, .inl z.2.2))]) → va_S A s.heap H locs → lv_has ls 3 [(0, .ref r0), (1, .int (nI k))] → W p l e (rmd 3) s m ([.ref r0] : List Value).toArray below meth c H locs 0 0 Q (F0 m 2 ls []) := by
    intro j3
    induction j3 with
    | zero =>
      intro k z ls H locs hi he hP hD hS hl
      refine lv_iload_n hx hb d_Rd_passVertices_2 rfl (lv_at hl 1 rfl) ?_
      refine lv_aload_n hx hb d_Rd_passVertices_3 rfl (lv_at hl 0 rfl) ?_
      refine va_get (D := D) (ci := 1) (v := .int nv) (C := R_Rd) (T := T_Rd) (N := 13) hx hb hts i_Rd hown hK hP 0 rfl rfl 4 (by decide) (hts _ w_78) (fun _ h9 => h9) rfl d_Rd_passVertices_4 ?_
      refine lv_icmp_ge (tgt := 83) hx hb d_Rd_passVertices_7 (by decide) (fun c_1 => ?_) (fun c_1 => ?_)
      · exact fin _ _ _ _ _ d_Rd_passVertices_83 hP hS (by rw [he]; simp only [vlp, if_pos c_1])
      · refine lv_iload_n hx hb d_Rd_passVertices_10 rfl (lv_at hl 1 rfl) ?_
        refine lv_aload_n hx hb d_Rd_passVertices_11 rfl (lv_at hl 0 rfl) ?_
        refine va_get (D := D) (ci := 1) (v := .ref rx) (C := R_Rd) (T := T_Rd) (N := 13) hx hb hts i_Rd hown hK hP 0 rfl rfl 1 (by decide) (hts _ w_75) (fun _ h9 => h9) rfl d_Rd_passVertices_12 ?_
        refine va_alen hx hb hK hP 3 1 rfl rfl (v := 128) rfl d_Rd_passVertices_15 ?_
        refine lv_icmp_ge (tgt := 83) hx hb d_Rd_passVertices_16 (by decide) (fun c_2 => ?_) (fun c_2 => ?_)
        · exact fin _ _ _ _ _ d_Rd_passVertices_83 hP hS (by rw [he]; simp only [vlp, if_neg c_1, if_pos c_2])
        · exact (c_2 (show nI 128 ≤ nI k by rw [nI_leI (by omega) (by omega)]; omega)).elim
    | succ j3 ih3 =>
      intro k z ls H locs hi he hP hD hS hl
      refine lv_iload_n hx hb d_Rd_passVertices_2 rfl (lv_at hl 1 rfl) ?_
      refine lv_aload_n hx hb d_Rd_passVertices_3 rfl (lv_at hl 0 rfl) ?_
      refine va_get (D := D) (ci := 1) (v := .int nv) (C := R_Rd) (T := T_Rd) (N := 13) hx hb hts i_Rd hown hK hP 0 rfl rfl 4 (by decide) (hts _ w_78) (fun _ h9 => h9) rfl d_Rd_passVertices_4 ?_
      refine lv_icmp_ge (tgt := 83) hx hb d_Rd_passVertices_7 (by decide) (fun c_3 => ?_) (fun c_3 => ?_)
      · exact fin _ _ _ _ _ d_Rd_passVertices_83 hP hS (by rw [he]; simp only [vlp, if_pos c_3])
      · refine lv_iload_n hx hb d_Rd_passVertices_10 rfl (lv_at hl 1 rfl) ?_
        refine lv_aload_n hx hb d_Rd_passVertices_11 rfl (lv_at hl 0 rfl) ?_
        refine va_get (D := D) (ci := 1) (v := .ref rx) (C := R_Rd) (T := T_Rd) (N := 13) hx hb hts i_Rd hown hK hP 0 rfl rfl 1 (by decide) (hts _ w_75) (fun _ h9 => h9) rfl d_Rd_passVertices_12 ?_
        refine va_alen hx hb hK hP 3 1 rfl rfl (v := 128) rfl d_Rd_passVertices_15 ?_
        refine lv_icmp_ge (tgt := 83) hx hb d_Rd_passVertices_16 (by decide) (fun c_4 => ?_) (fun c_4 => ?_)
        · exact absurd c_4 (show ¬ nI 128 ≤ nI k by rw [nI_leI (by omega) (by omega)]; omega)
        · refine lv_aload_n hx hb d_Rd_passVertices_19 rfl (lv_at hl 0 rfl) ?_
          refine va_get (D := D) (ci := 1) (v := .int z.1.2.1) (C := R_Rd) (T := T_Rd) (N := 13) hx hb hts i_Rd hown hK hP 0 rfl rfl 10 (by decide) (hts _ w_84) (fun _ h9 => h9) rfl d_Rd_passVertices_20 ?_
          refine lv_if_ne (tgt := 83) hx hb d_Rd_passVertices_23 (by decide) (fun c_5 => ?_) (fun c_5 => ?_)
          · exact fin _ _ _ _ _ d_Rd_passVertices_83 hP hS (by rw [he]; simp only [vlp, if_neg c_3, if_neg c_4, if_neg c_5])
          · refine lv_aload_n hx hb d_Rd_passVertices_26 rfl (lv_at hl 0 rfl) ?_
            refine va_get (D := D) (ci := 1) (v := .ref rx) (C := R_Rd) (T := T_Rd) (N := 13) hx hb hts i_Rd hown hK hP 0 rfl rfl 1 (by decide) (hts _ w_75) (fun _ h9 => h9) rfl d_Rd_passVertices_27 ?_
            refine lv_iload_n hx hb d_Rd_passVertices_30 rfl (lv_at hl 1 rfl) ?_
            refine lv_aload_n hx hb d_Rd_passVertices_31 rfl (lv_at hl 0 rfl) ?_
            refine lv_sipush (v := (-32768)) hx hb d_Rd_passVertices_32 (by decide) ?_
            refine lv_sipush (v := 32767) hx hb d_Rd_passVertices_35 (by decide) ?_
            refine pz_i (pz_rV (d := 2) (As := [.int (-32768), .int 32767]) (rest := [.int (nI k), .ref rx]) X hN (c_Rd_wide l D cB cI cS r0 rw rx ry rs rb nv nt ns nw wa fw z.1 f n (-32768) 32767 hn _) k_Rd_wide w_248 ⟨by decide, by decide⟩ hK hP hD [0, 1, 2] rfl rfl 0 rfl rfl rfl rfl hl.1 rfl (Nat.le_of_ble_eq_true rfl) d_Rd_passVertices_38 ⟨Nat.zero_le _, Nat.zero_le _⟩) hP hD hS hA [0, 1, 2] rfl [r0, rw, rb] rfl rfl (fun H locs hP hD hS => ?_)
            generalize eg_6 : wd f n z.1 (-32768) 32767 = g_6 at hP hD ⊢
            have hP : va_P D cls ([(r0, .inr (1, [.ref rw, .ref rx, .ref ry, .ref rs, .int nv, .int nt, .int ns, .int nw, .int wa, .int g_6.2.1, .int g_6.2.2.1, .int g_6.2.2.2, .int fw])), (rw, .inr (3, [.ref rb, .int (nI n)])), (rb, .inl (cB, 8192, .inl f)), (rx, .inl (cI, 128, .inl z.2.1)), (ry, .inl (cI, 128, .inl z.2.2))]) H := hP
            have hD : va_D A ([(r0, .inr (1, [.ref rw, .ref rx, .ref ry, .ref rs, .int nv, .int nt, .int ns, .int nw, .int wa, .int g_6.2.1, .int g_6.2.2.1, .int g_6.2.2.2, .int fw])), (rw, .inr (3, [.ref rb, .int (nI n)])), (rb, .inl (cB, 8192, .inl f)), (rx, .inl (cI, 128, .inl z.2.1)), (ry, .inl (cI, 128, .inl z.2.2))]) := hD
            refine va_iast hx hb hK hP hD hS 3 1 rfl rfl (in_n (by omega) (by decide)) d_Rd_passVertices_41 (fun H locs hP hD hS => ?_)
            rw [nI_clamp (show k < 2 ^ 31 by omega)] at hP hD
            have hP : va_P D cls ([(r0, .inr (1, [.ref rw, .ref rx, .ref ry, .ref rs, .int nv, .int nt, .int ns, .int nw, .int wa, .int g_6.2.1, .int g_6.2.2.1, .int g_6.2.2.2, .int fw])), (rw, .inr (3, [.ref rb, .int (nI n)])), (rb, .inl (cB, 8192, .inl f)), (rx, .inl (cI, 128, .inl (upd z.2.1 k g_6.1))), (ry, .inl (cI, 128, .inl z.2.2))]) H := hP
            have hD : va_D A ([(r0, .inr (1, [.ref rw, .ref rx, .ref ry, .ref rs, .int nv, .int nt, .int ns, .int nw, .int wa, .int g_6.2.1, .int g_6.2.2.1, .int g_6.2.2.2, .int fw])), (rw, .inr (3, [.ref rb, .int (nI n)])), (rb, .inl (cB, 8192, .inl f)), (rx, .inl (cI, 128, .inl (upd z.2.1 k g_6.1))), (ry, .inl (cI, 128, .inl z.2.2))]) := hD
            refine lv_aload_n hx hb d_Rd_passVertices_42 rfl (lv_at hl 0 rfl) ?_
            refine va_get (D := D) (ci := 1) (v := .int g_6.2.1) (C := R_Rd) (T := T_Rd) (N := 13) hx hb hts i_Rd hown hK hP 0 rfl rfl 9 (by decide) (hts _ w_83) (fun _ h9 => h9) rfl d_Rd_passVertices_43 ?_
            refine lv_istore_n (lv' := [(2, .int g_6.2.1), (0, .ref r0), (1, .int (nI k))]) hx hb d_Rd_passVertices_46 rfl hl (by decide) rfl (fun ls hl => ?_)
            refine lv_aload_n hx hb d_Rd_passVertices_47 rfl (lv_at hl 1 rfl) ?_
            refine va_get (D := D) (ci := 1) (v := .ref ry) (C := R_Rd) (T := T_Rd) (N := 13) hx hb hts i_Rd hown hK hP 0 rfl rfl 2 (by decide) (hts _ w_76) (fun _ h9 => h9) rfl d_Rd_passVertices_48 ?_
            refine lv_iload_n hx hb d_Rd_passVertices_51 rfl (lv_at hl 2 rfl) ?_
            refine lv_aload_n hx hb d_Rd_passVertices_52 rfl (lv_at hl 1 rfl) ?_
            refine lv_sipush (v := (-32768)) hx hb d_Rd_passVertices_53 (by decide) ?_
            refine lv_sipush (v := 32767) hx hb d_Rd_passVertices_56 (by decide) ?_
            refine pz_i (pz_rV (d := 2) (As := [.int (-32768), .int 32767]) (rest := [.int (nI k), .ref ry]) X hN (c_Rd_wide l D cB cI cS r0 rw rx ry rs rb nv nt ns nw wa fw g_6.2 f n (-32768) 32767 hn _) k_Rd_wide w_248 ⟨by decide, by decide⟩ hK hP hD [0, 1, 2] rfl rfl 0 rfl rfl rfl rfl hl.1 rfl (Nat.le_of_ble_eq_true rfl) d_Rd_passVertices_59 ⟨Nat.zero_le _, Nat.zero_le _⟩) hP hD hS hA [0, 1, 2] rfl [r0, rw, rb] rfl rfl (fun H locs hP hD hS => ?_)
            generalize eg_7 : wd f n g_6.2 (-32768) 32767 = g_7 at hP hD ⊢
            have hP : va_P D cls ([(r0, .inr (1, [.ref rw, .ref rx, .ref ry, .ref rs, .int nv, .int nt, .int ns, .int nw, .int wa, .int g_7.2.1, .int g_7.2.2.1, .int g_7.2.2.2, .int fw])), (rw, .inr (3, [.ref rb, .int (nI n)])), (rb, .inl (cB, 8192, .inl f)), (rx, .inl (cI, 128, .inl (upd z.2.1 k g_6.1))), (ry, .inl (cI, 128, .inl z.2.2))]) H := hP
            have hD : va_D A ([(r0, .inr (1, [.ref rw, .ref rx, .ref ry, .ref rs, .int nv, .int nt, .int ns, .int nw, .int wa, .int g_7.2.1, .int g_7.2.2.1, .int g_7.2.2.2, .int fw])), (rw, .inr (3, [.ref rb, .int (nI n)])), (rb, .inl (cB, 8192, .inl f)), (rx, .inl (cI, 128, .inl (upd z.2.1 k g_6.1))), (ry, .inl (cI, 128, .inl z.2.2))]) := hD
            refine va_iast hx hb hK hP hD hS 4 1 rfl rfl (in_n (by omega) (by decide)) d_Rd_passVertices_62 (fun H locs hP hD hS => ?_)
            rw [nI_clamp (show k < 2 ^ 31 by omega)] at hP hD
            have hP : va_P D cls ([(r0, .inr (1, [.ref rw, .ref rx, .ref ry, .ref rs, .int nv, .int nt, .int ns, .int nw, .int wa, .int g_7.2.1, .int g_7.2.2.1, .int g_7.2.2.2, .int fw])), (rw, .inr (3, [.ref rb, .int (nI n)])), (rb, .inl (cB, 8192, .inl f)), (rx, .inl (cI, 128, .inl (upd z.2.1 k g_6.1))), (ry, .inl (cI, 128, .inl (upd z.2.2 k g_7.1)))]) H := hP
            have hD : va_D A ([(r0, .inr (1, [.ref rw, .ref rx, .ref ry, .ref rs, .int nv, .int nt, .int ns, .int nw, .int wa, .int g_7.2.1, .int g_7.2.2.1, .int g_7.2.2.2, .int fw])), (rw, .inr (3, [.ref rb, .int (nI n)])), (rb, .inl (cB, 8192, .inl f)), (rx, .inl (cI, 128, .inl (upd z.2.1 k g_6.1))), (ry, .inl (cI, 128, .inl (upd z.2.2 k g_7.1)))]) := hD
            refine lv_aload_n hx hb d_Rd_passVertices_63 rfl (lv_at hl 1 rfl) ?_
            refine lv_iload_n hx hb d_Rd_passVertices_64 rfl (lv_at hl 2 rfl) ?_
            refine pz_i0 (pz_rV (d := 0) (As := [.int (nI k)]) (rest := []) X hN (c_Rd_isTaken l D cB cI cS r0 rw rx ry rs nv nt ns nw wa fw g_7.2 (upd z.2.1 k g_6.1) (upd z.2.2 k g_7.1) k (by omega) _) k_Rd_isTaken w_253 ⟨by decide, by decide⟩ hK hP hD [0, 3, 4] rfl rfl 0 rfl rfl rfl rfl hl.1 rfl (Nat.le_of_ble_eq_true rfl) d_Rd_passVertices_65 ⟨Nat.zero_le _, Nat.zero_le _⟩) hP hD hS hA [0, 3, 4] rfl (fun H locs hP hS => ?_)
            refine lv_if_eq (tgt := 77) hx hb d_Rd_passVertices_68 (by decide) (fun c_8 => ?_) (fun c_8 => ?_)
            · refine lv_iinc (v := nI (k + 1)) (lv' := [(1, .int (nI (k + 1))), (2, .int g_6.2.1), (0, .ref r0)]) hx hb d_Rd_passVertices_77 hl (k := 2) rfl (nI_1 k) (by decide) rfl (fun ls hl => ?_)
              refine lv_goto (tgt := 2) hx hb d_Rd_passVertices_80 (by decide) ?_
              exact ih3 (k + 1) (g_7.2, upd z.2.1 k g_6.1, upd z.2.2 k g_7.1) _ _ _ (by omega) (by rw [he, vlp]; simp only [vst, vs1, vs2, eg_6, eg_7, if_neg c_3, if_neg c_4, if_pos c_5, if_pos c_8]) hP hD hS (lv_sub hl [2, 0] rfl)
            · refine lv_aload_n hx hb d_Rd_passVertices_71 rfl (lv_at hl 1 rfl) ?_
              refine lv_iconst (v := 3) hx hb d_Rd_passVertices_72 (by decide) ?_
              refine lv_iload_n hx hb d_Rd_passVertices_73 rfl (lv_at hl 0 rfl) ?_
              refine pz_v (pz_rV (d := 0) (As := [.int 3, .int g_6.2.1]) (rest := []) X hN (c_Rd_fail l D cB cI cS r0 rw rx ry rs nv nt ns nw wa fw g_7.2 3 g_6.2.1 _) k_Rd_fail w_232 ⟨by decide, by decide⟩ hK hP hD [0] rfl rfl 0 rfl rfl rfl rfl hl.1 rfl (Nat.le_of_ble_eq_true rfl) d_Rd_passVertices_74 ⟨Nat.zero_le _, Nat.zero_le _⟩) hP hD hS hA [0] rfl [r0] rfl rfl (fun H locs hP hD hS => ?_)
              have hP : va_P D cls ([(r0, .inr (1, [.ref rw, .ref rx, .ref ry, .ref rs, .int nv, .int nt, .int ns, .int nw, .int wa, .int ((fl g_7.2 3 g_6.2.1).1), .int ((fl g_7.2 3 g_6.2.1).2.1), .int ((fl g_7.2 3 g_6.2.1).2.2), .int fw])), (rw, .inr (3, [.ref rb, .int (nI n)])), (rb, .inl (cB, 8192, .inl f)), (rx, .inl (cI, 128, .inl (upd z.2.1 k g_6.1))), (ry, .inl (cI, 128, .inl (upd z.2.2 k g_7.1)))]) H := hP
              have hD : va_D A ([(r0, .inr (1, [.ref rw, .ref rx, .ref ry, .ref rs, .int nv, .int nt, .int ns, .int nw, .int wa, .int ((fl g_7.2 3 g_6.2.1).1), .int ((fl g_7.2 3 g_6.2.1).2.1), .int ((fl g_7.2 3 g_6.2.1).2.2), .int fw])), (rw, .inr (3, [.ref rb, .int (nI n)])), (rb, .inl (cB, 8192, .inl f)), (rx, .inl (cI, 128, .inl (upd z.2.1 k g_6.1))), (ry, .inl (cI, 128, .inl (upd z.2.2 k g_7.1)))]) := hD
              refine lv_iinc (v := nI (k + 1)) (lv' := [(1, .int (nI (k + 1))), (2, .int g_6.2.1), (0, .ref r0)]) hx hb d_Rd_passVertices_77 hl (k := 2) rfl (nI_1 k) (by decide) rfl (fun ls hl => ?_)
              refine lv_goto (tgt := 2) hx hb d_Rd_passVertices_80 (by decide) ?_
              exact ih3 (k + 1) ((fl g_7.2 3 g_6.2.1), upd z.2.1 k g_6.1, upd z.2.2 k g_7.1) _ _ _ (by omega) (by rw [he, vlp]; simp only [vst, vs1, vs2, eg_6, eg_7, if_neg c_3, if_neg c_4, if_pos c_5, if_neg c_8]) hP hD hS (lv_sub hl [2, 0] rfl)
  exact lp_3 128 0 (q, xs, ys) _ _ _ (by omega) (rfl) hP hD hS (lv_sub hl [1, 0] rfl)

set_option maxRecDepth 100000 in
set_option maxHeartbeats 4000000 in
/-- Reader.passSectors -/
theorem c_Rd_passSectors (l : Launch) (D : va_G) (cB cI cS : ClassId) (r0 rw rx ry rs rb : Nat) (nv nt nw wa fw : Int32) (q : S3) (f : Nat → Int32) (n : Nat) (U : Nat) (hn : n ≤ 8192) (hU : U ≤ 32) : mV l y_Rd_passSectors b_Rd_passSectors 3 (none) 3 D cls [(cB, .byte), (cI, .int), (cS, .object "MapLumps$Span")] [.ref r0] ([(r0, .inr (1, [.ref rw, .ref rx, .ref ry, .ref rs, .int nv, .int nt, .int (nI U), .int nw, .int wa, .int q.1, .int q.2.1, .int q.2.2, .int fw])), (rw, .inr (3, [.ref rb, .int (nI n)])), (rb, .inl (cB, 8192, .inl f))]) ([(r0, .inr (1, [.ref rw, .ref rx, .ref ry, .ref rs, .int nv, .int nt, .int (nI U), .int nw, .int wa, .int ((scl f n nt U q).1), .int ((scl f n nt U q).2.1), .int ((scl f n nt U q).2.2), .int fw])), (rw, .inr (3, [.ref rb, .int (nI n)])), (rb, .inl (cB, 8192, .inl f))]) := by
  refine pz_openV (by decide) (Nat.le_of_ble_eq_true rfl) ?_
  intro p e s m below meth c A ls Q X hN hK hP hD hS hA hl fin
  obtain ⟨hx, hb, hml, hown, hts⟩ := id X
  have hl : lv_has ls 3 [(0, .ref r0)] := hl
  refine lv_iconst (v := 0) hx hb d_Rd_passSectors_0 (by decide) ?_
  refine lv_istore_n (lv' := [(1, .int 0), (0, .ref r0)]) hx hb d_Rd_passSectors_1 rfl hl (by decide) rfl (fun ls hl => ?_)
  have lp_4 : ∀ (j4 : Nat) (k : Nat) (z : S3) (ls : Array Slot) (H : Heap) (locs : List Loc), j4 + k = U → scl f n nt U q = scl f n nt j4 z → va_P D cls ([(r0, .inr (1, [.ref rw, .ref rx, .ref ry, .ref rs, .int nv, .int nt, .int (nI U), .int nw, .int wa, .int z.1, .int z.2.1, .int z.2.2, .int fw])), (rw, .inr (3, [.ref rb, .int (nI n)])), (rb, .inl (cB, 8192, .inl f))]) H → va_D A ([(r0, .inr (1, [.ref rw, .ref rx, .ref ry, .ref rs, .int nv, .int nt, .int (nI U), .int nw, .int wa, .int z.1, .int z.2.1, .int z.2.2, .int fw])), (rw, .inr (3, [.ref rb, .int (nI n)])), (rb, .inl (cB, 8192, .inl f))]) → va_S A s.heap H locs → lv_has ls 3 [(0, .ref r0), (1, .int (nI k))] → W p l e (rmd 3) s m ([.ref r0] : List Value).toArray below meth c H locs 0 0 Q (F0 m 2 ls []) := by
    intro j4
    induction j4 with
    | zero =>
      intro k z ls H locs hi he hP hD hS hl
      refine lv_iload_n hx hb d_Rd_passSectors_2 rfl (lv_at hl 1 rfl) ?_
      refine lv_aload_n hx hb d_Rd_passSectors_3 rfl (lv_at hl 0 rfl) ?_
      refine va_get (D := D) (ci := 1) (v := .int (nI U)) (C := R_Rd) (T := T_Rd) (N := 13) hx hb hts i_Rd hown hK hP 0 rfl rfl 6 (by decide) (hts _ w_80) (fun _ h9 => h9) rfl d_Rd_passSectors_4 ?_
      refine lv_icmp_ge (tgt := 92) hx hb d_Rd_passSectors_7 (by decide) (fun c_1 => ?_) (fun c_1 => ?_)
      · exact fin _ _ _ _ _ d_Rd_passSectors_92 hP hS (by rw [he]; simp only [scl, if_pos c_1])
      · exact (c_1 (by rw [nI_leI (by omega) (by omega)]; omega)).elim
    | succ j4 ih4 =>
      intro k z ls H locs hi he hP hD hS hl
      refine lv_iload_n hx hb d_Rd_passSectors_2 rfl (lv_at hl 1 rfl) ?_
      refine lv_aload_n hx hb d_Rd_passSectors_3 rfl (lv_at hl 0 rfl) ?_
      refine va_get (D := D) (ci := 1) (v := .int (nI U)) (C := R_Rd) (T := T_Rd) (N := 13) hx hb hts i_Rd hown hK hP 0 rfl rfl 6 (by decide) (hts _ w_80) (fun _ h9 => h9) rfl d_Rd_passSectors_4 ?_
      refine lv_icmp_ge (tgt := 92) hx hb d_Rd_passSectors_7 (by decide) (fun c_2 => ?_) (fun c_2 => ?_)
      · exact absurd c_2 (by rw [nI_leI (by omega) (by omega)]; omega)
      · refine lv_aload_n hx hb d_Rd_passSectors_10 rfl (lv_at hl 0 rfl) ?_
        refine va_get (D := D) (ci := 1) (v := .int z.2.1) (C := R_Rd) (T := T_Rd) (N := 13) hx hb hts i_Rd hown hK hP 0 rfl rfl 10 (by decide) (hts _ w_84) (fun _ h9 => h9) rfl d_Rd_passSectors_11 ?_
        refine lv_if_ne (tgt := 92) hx hb d_Rd_passSectors_14 (by decide) (fun c_3 => ?_) (fun c_3 => ?_)
        · exact fin _ _ _ _ _ d_Rd_passSectors_92 hP hS (by rw [he]; simp only [scl, if_neg c_2, if_neg c_3])
        · refine lv_aload_n hx hb d_Rd_passSectors_17 rfl (lv_at hl 0 rfl) ?_
          refine lv_sipush (v := (-1024)) hx hb d_Rd_passSectors_18 (by decide) ?_
          refine lv_sipush (v := 1024) hx hb d_Rd_passSectors_21 (by decide) ?_
          refine pz_i (pz_rV (d := 2) (As := [.int (-1024), .int 1024]) (rest := []) X hN (c_Rd_wide l D cB cI cS r0 rw rx ry rs rb nv nt (nI U) nw wa fw z f n (-1024) 1024 hn _) k_Rd_wide w_248 ⟨by decide, by decide⟩ hK hP hD [0, 1, 2] rfl rfl 0 rfl rfl rfl rfl hl.1 rfl (Nat.le_of_ble_eq_true rfl) d_Rd_passSectors_24 ⟨Nat.zero_le _, Nat.zero_le _⟩) hP hD hS hA [0, 1, 2] rfl [r0, rw, rb] rfl rfl (fun H locs hP hD hS => ?_)
          generalize eg_4 : wd f n z (-1024) 1024 = g_4 at hP hD ⊢
          have hP : va_P D cls ([(r0, .inr (1, [.ref rw, .ref rx, .ref ry, .ref rs, .int nv, .int nt, .int (nI U), .int nw, .int wa, .int g_4.2.1, .int g_4.2.2.1, .int g_4.2.2.2, .int fw])), (rw, .inr (3, [.ref rb, .int (nI n)])), (rb, .inl (cB, 8192, .inl f))]) H := hP
          have hD : va_D A ([(r0, .inr (1, [.ref rw, .ref rx, .ref ry, .ref rs, .int nv, .int nt, .int (nI U), .int nw, .int wa, .int g_4.2.1, .int g_4.2.2.1, .int g_4.2.2.2, .int fw])), (rw, .inr (3, [.ref rb, .int (nI n)])), (rb, .inl (cB, 8192, .inl f))]) := hD
          refine lv_istore_n (lv' := [(2, .int g_4.1), (0, .ref r0), (1, .int (nI k))]) hx hb d_Rd_passSectors_27 rfl hl (by decide) rfl (fun ls hl => ?_)
          refine lv_aload_n hx hb d_Rd_passSectors_28 rfl (lv_at hl 1 rfl) ?_
          refine lv_iload_n hx hb d_Rd_passSectors_29 rfl (lv_at hl 0 rfl) ?_
          refine lv_iconst (v := 1) hx hb d_Rd_passSectors_30 (by decide) ?_
          refine lv_iadd hx hb d_Rd_passSectors_31 ?_
          refine lv_sipush (v := 1024) hx hb d_Rd_passSectors_32 (by decide) ?_
          refine pz_i (pz_rV (d := 2) (As := [.int (g_4.1 + 1), .int 1024]) (rest := []) X hN (c_Rd_wide l D cB cI cS r0 rw rx ry rs rb nv nt (nI U) nw wa fw g_4.2 f n (g_4.1 + 1) 1024 hn _) k_Rd_wide w_248 ⟨by decide, by decide⟩ hK hP hD [0, 1, 2] rfl rfl 0 rfl rfl rfl rfl hl.1 rfl (Nat.le_of_ble_eq_true rfl) d_Rd_passSectors_35 ⟨Nat.zero_le _, Nat.zero_le _⟩) hP hD hS hA [0, 1, 2] rfl [r0, rw, rb] rfl rfl (fun H locs hP hD hS => ?_)
          generalize eg_5 : wd f n g_4.2 (g_4.1 + 1) 1024 = g_5 at hP hD ⊢
          have hP : va_P D cls ([(r0, .inr (1, [.ref rw, .ref rx, .ref ry, .ref rs, .int nv, .int nt, .int (nI U), .int nw, .int wa, .int g_5.2.1, .int g_5.2.2.1, .int g_5.2.2.2, .int fw])), (rw, .inr (3, [.ref rb, .int (nI n)])), (rb, .inl (cB, 8192, .inl f))]) H := hP
          have hD : va_D A ([(r0, .inr (1, [.ref rw, .ref rx, .ref ry, .ref rs, .int nv, .int nt, .int (nI U), .int nw, .int wa, .int g_5.2.1, .int g_5.2.2.1, .int g_5.2.2.2, .int fw])), (rw, .inr (3, [.ref rb, .int (nI n)])), (rb, .inl (cB, 8192, .inl f))]) := hD
          refine lv_pop hx hb d_Rd_passSectors_38 rfl ?_
          refine lv_aload_n hx hb d_Rd_passSectors_39 rfl (lv_at hl 1 rfl) ?_
          refine lv_iconst (v := 0) hx hb d_Rd_passSectors_40 (by decide) ?_
          refine lv_aload_n hx hb d_Rd_passSectors_41 rfl (lv_at hl 1 rfl) ?_
          refine va_get (D := D) (ci := 1) (v := .int nt) (C := R_Rd) (T := T_Rd) (N := 13) hx hb hts i_Rd hown hK hP 0 rfl rfl 5 (by decide) (hts _ w_79) (fun _ h9 => h9) rfl d_Rd_passSectors_42 ?_
          refine lv_iconst (v := 1) hx hb d_Rd_passSectors_45 (by decide) ?_
          refine lv_isub hx hb d_Rd_passSectors_46 ?_
          refine pz_i (pz_rV (d := 2) (As := [.int 0, .int (nt - 1)]) (rest := []) X hN (c_Rd_small l D cB cI cS r0 rw rx ry rs rb nv nt (nI U) nw wa fw g_5.2 f n 0 (nt - 1) hn _) k_Rd_small w_236 ⟨by decide, by decide⟩ hK hP hD [0, 1, 2] rfl rfl 0 rfl rfl rfl rfl hl.1 rfl (Nat.le_of_ble_eq_true rfl) d_Rd_passSectors_47 ⟨Nat.zero_le _, Nat.zero_le _⟩) hP hD hS hA [0, 1, 2] rfl [r0, rw, rb] rfl rfl (fun H locs hP hD hS => ?_)
          generalize eg_6 : sm f n g_5.2 0 (nt - 1) = g_6 at hP hD ⊢
          have hP : va_P D cls ([(r0, .inr (1, [.ref rw, .ref rx, .ref ry, .ref rs, .int nv, .int nt, .int (nI U), .int nw, .int wa, .int g_6.2.1, .int g_6.2.2.1, .int g_6.2.2.2, .int fw])), (rw, .inr (3, [.ref rb, .int (nI n)])), (rb, .inl (cB, 8192, .inl f))]) H := hP
          have hD : va_D A ([(r0, .inr (1, [.ref rw, .ref rx, .ref ry, .ref rs, .int nv, .int nt, .int (nI U), .int nw, .int wa, .int g_6.2.1, .int g_6.2.2.1, .int g_6.2.2.2, .int fw])), (rw, .inr (3, [.ref rb, .int (nI n)])), (rb, .inl (cB, 8192, .inl f))]) := hD
          refine lv_pop hx hb d_Rd_passSectors_50 rfl ?_
          refine lv_aload_n hx hb d_Rd_passSectors_51 rfl (lv_at hl 1 rfl) ?_
          refine lv_aload_n hx hb d_Rd_passSectors_52 rfl (lv_at hl 1 rfl) ?_
          refine va_get (D := D) (ci := 1) (v := .int nt) (C := R_Rd) (T := T_Rd) (N := 13) hx hb hts i_Rd hown hK hP 0 rfl rfl 5 (by decide) (hts _ w_79) (fun _ h9 => h9) rfl d_Rd_passSectors_53 ?_
          refine lv_iconst (v := 1) hx hb d_Rd_passSectors_56 (by decide) ?_
          refine lv_isub hx hb d_Rd_passSectors_57 ?_
          refine pz_i (pz_rV (d := 2) (As := [.int (nt - 1)]) (rest := []) X hN (c_Rd_smallOrAbsent l D cB cI cS r0 rw rx ry rs rb nv nt (nI U) nw wa fw g_6.2 f n (nt - 1) hn _) k_Rd_smallOrAbsent w_265 ⟨by decide, by decide⟩ hK hP hD [0, 1, 2] rfl rfl 0 rfl rfl rfl rfl hl.1 rfl (Nat.le_of_ble_eq_true rfl) d_Rd_passSectors_58 ⟨Nat.zero_le _, Nat.zero_le _⟩) hP hD hS hA [0, 1, 2] rfl [r0, rw, rb] rfl rfl (fun H locs hP hD hS => ?_)
          generalize eg_7 : sa f n g_6.2 (nt - 1) = g_7 at hP hD ⊢
          have hP : va_P D cls ([(r0, .inr (1, [.ref rw, .ref rx, .ref ry, .ref rs, .int nv, .int nt, .int (nI U), .int nw, .int wa, .int g_7.2.1, .int g_7.2.2.1, .int g_7.2.2.2, .int fw])), (rw, .inr (3, [.ref rb, .int (nI n)])), (rb, .inl (cB, 8192, .inl f))]) H := hP
          have hD : va_D A ([(r0, .inr (1, [.ref rw, .ref rx, .ref ry, .ref rs, .int nv, .int nt, .int (nI U), .int nw, .int wa, .int g_7.2.1, .int g_7.2.2.1, .int g_7.2.2.2, .int fw])), (rw, .inr (3, [.ref rb, .int (nI n)])), (rb, .inl (cB, 8192, .inl f))]) := hD
          refine lv_pop hx hb d_Rd_passSectors_61 rfl ?_
          refine lv_aload_n hx hb d_Rd_passSectors_62 rfl (lv_at hl 1 rfl) ?_
          refine lv_iconst (v := 0) hx hb d_Rd_passSectors_63 (by decide) ?_
          refine lv_bipush (v := 15) hx hb d_Rd_passSectors_64 (by decide) ?_
          refine pz_i (pz_rV (d := 2) (As := [.int 0, .int 15]) (rest := []) X hN (c_Rd_small l D cB cI cS r0 rw rx ry rs rb nv nt (nI U) nw wa fw g_7.2 f n 0 15 hn _) k_Rd_small w_236 ⟨by decide, by decide⟩ hK hP hD [0, 1, 2] rfl rfl 0 rfl rfl rfl rfl hl.1 rfl (Nat.le_of_ble_eq_true rfl) d_Rd_passSectors_66 ⟨Nat.zero_le _, Nat.zero_le _⟩) hP hD hS hA [0, 1, 2] rfl [r0, rw, rb] rfl rfl (fun H locs hP hD hS => ?_)
          generalize eg_8 : sm f n g_7.2 0 15 = g_8 at hP hD ⊢
          have hP : va_P D cls ([(r0, .inr (1, [.ref rw, .ref rx, .ref ry, .ref rs, .int nv, .int nt, .int (nI U), .int nw, .int wa, .int g_8.2.1, .int g_8.2.2.1, .int g_8.2.2.2, .int fw])), (rw, .inr (3, [.ref rb, .int (nI n)])), (rb, .inl (cB, 8192, .inl f))]) H := hP
          have hD : va_D A ([(r0, .inr (1, [.ref rw, .ref rx, .ref ry, .ref rs, .int nv, .int nt, .int (nI U), .int nw, .int wa, .int g_8.2.1, .int g_8.2.2.1, .int g_8.2.2.2, .int fw])), (rw, .inr (3, [.ref rb, .int (nI n)])), (rb, .inl (cB, 8192, .inl f))]) := hD
          refine lv_pop hx hb d_Rd_passSectors_69 rfl ?_
          refine lv_aload_n hx hb d_Rd_passSectors_70 rfl (lv_at hl 1 rfl) ?_
          refine lv_iconst (v := 0) hx hb d_Rd_passSectors_71 (by decide) ?_
          refine lv_iconst (v := 3) hx hb d_Rd_passSectors_72 (by decide) ?_
          refine pz_i (pz_rV (d := 2) (As := [.int 0, .int 3]) (rest := []) X hN (c_Rd_small l D cB cI cS r0 rw rx ry rs rb nv nt (nI U) nw wa fw g_8.2 f n 0 3 hn _) k_Rd_small w_236 ⟨by decide, by decide⟩ hK hP hD [0, 1, 2] rfl rfl 0 rfl rfl rfl rfl hl.1 rfl (Nat.le_of_ble_eq_true rfl) d_Rd_passSectors_73 ⟨Nat.zero_le _, Nat.zero_le _⟩) hP hD hS hA [0, 1, 2] rfl [r0, rw, rb] rfl rfl (fun H locs hP hD hS => ?_)
          generalize eg_9 : sm f n g_8.2 0 3 = g_9 at hP hD ⊢
          have hP : va_P D cls ([(r0, .inr (1, [.ref rw, .ref rx, .ref ry, .ref rs, .int nv, .int nt, .int (nI U), .int nw, .int wa, .int g_9.2.1, .int g_9.2.2.1, .int g_9.2.2.2, .int fw])), (rw, .inr (3, [.ref rb, .int (nI n)])), (rb, .inl (cB, 8192, .inl f))]) H := hP
          have hD : va_D A ([(r0, .inr (1, [.ref rw, .ref rx, .ref ry, .ref rs, .int nv, .int nt, .int (nI U), .int nw, .int wa, .int g_9.2.1, .int g_9.2.2.1, .int g_9.2.2.2, .int fw])), (rw, .inr (3, [.ref rb, .int (nI n)])), (rb, .inl (cB, 8192, .inl f))]) := hD
          refine lv_pop hx hb d_Rd_passSectors_76 rfl ?_
          refine lv_aload_n hx hb d_Rd_passSectors_77 rfl (lv_at hl 1 rfl) ?_
          refine lv_iconst (v := 0) hx hb d_Rd_passSectors_78 (by decide) ?_
          refine lv_sipush (v := 255) hx hb d_Rd_passSectors_79 (by decide) ?_
          refine pz_i (pz_rV (d := 2) (As := [.int 0, .int 255]) (rest := []) X hN (c_Rd_small l D cB cI cS r0 rw rx ry rs rb nv nt (nI U) nw wa fw g_9.2 f n 0 255 hn _) k_Rd_small w_236 ⟨by decide, by decide⟩ hK hP hD [0, 1, 2] rfl rfl 0 rfl rfl rfl rfl hl.1 rfl (Nat.le_of_ble_eq_true rfl) d_Rd_passSectors_82 ⟨Nat.zero_le _, Nat.zero_le _⟩) hP hD hS hA [0, 1, 2] rfl [r0, rw, rb] rfl rfl (fun H locs hP hD hS => ?_)
          generalize eg_10 : sm f n g_9.2 0 255 = g_10 at hP hD ⊢
          have hP : va_P D cls ([(r0, .inr (1, [.ref rw, .ref rx, .ref ry, .ref rs, .int nv, .int nt, .int (nI U), .int nw, .int wa, .int g_10.2.1, .int g_10.2.2.1, .int g_10.2.2.2, .int fw])), (rw, .inr (3, [.ref rb, .int (nI n)])), (rb, .inl (cB, 8192, .inl f))]) H := hP
          have hD : va_D A ([(r0, .inr (1, [.ref rw, .ref rx, .ref ry, .ref rs, .int nv, .int nt, .int (nI U), .int nw, .int wa, .int g_10.2.1, .int g_10.2.2.1, .int g_10.2.2.2, .int fw])), (rw, .inr (3, [.ref rb, .int (nI n)])), (rb, .inl (cB, 8192, .inl f))]) := hD
          refine lv_pop hx hb d_Rd_passSectors_85 rfl ?_
          refine lv_iinc (v := nI (k + 1)) (lv' := [(1, .int (nI (k + 1))), (2, .int g_4.1), (0, .ref r0)]) hx hb d_Rd_passSectors_86 hl (k := 2) rfl (nI_1 k) (by decide) rfl (fun ls hl => ?_)
          refine lv_goto (tgt := 2) hx hb d_Rd_passSectors_89 (by decide) ?_
          exact ih4 (k + 1) g_10.2 _ _ _ (by omega) (by rw [he, scl]; simp only [sc7, sc6, sc5, sc4, sc3, sc2, sc1, eg_4, eg_5, eg_6, eg_7, eg_8, eg_9, eg_10, if_neg c_2, if_pos c_3]) hP hD hS (lv_sub hl [2, 0] rfl)
  exact lp_4 U 0 q _ _ _ (by omega) (rfl) hP hD hS (lv_sub hl [1, 0] rfl)

theorem txB (f : Nat → Int32) (n : Nat) (z : S3) : ∃ B : Nat, B ≤ 256 ∧ txw (tx1 f n z).1 * txw (tx2 f n z).1 = nI B := by
  obtain ⟨a, ha, ea⟩ := sm_rng f n z 4 (by omega)
  obtain ⟨b, hb, eb⟩ := sm_rng f n (tx1 f n z).2 4 (by omega)
  have e1 : (tx1 f n z).1 = nI a := ea
  have e2 : (tx2 f n z).1 = nI b := eb
  rw [e1, e2]
  exact txC a (by omega) b (by omega)

set_option maxRecDepth 100000 in
set_option maxHeartbeats 4000000 in
/-- Reader.passTextures -/
theorem c_Rd_passTextures (l : Launch) (D : va_G) (cB cI cS : ClassId) (r0 rw rx ry rs rb : Nat) (nv ns nw wa fw : Int32) (q : S3) (f : Nat → Int32) (n : Nat) (U : Nat) (hn : n ≤ 8192) (hU : U ≤ 16) : mV l y_Rd_passTextures b_Rd_passTextures 5 (none) 3 D cls [(cB, .byte), (cI, .int), (cS, .object "MapLumps$Span")] [.ref r0] ([(r0, .inr (1, [.ref rw, .ref rx, .ref ry, .ref rs, .int nv, .int (nI U), .int ns, .int nw, .int wa, .int q.1, .int q.2.1, .int q.2.2, .int fw])), (rw, .inr (3, [.ref rb, .int (nI n)])), (rb, .inl (cB, 8192, .inl f))]) ([(r0, .inr (1, [.ref rw, .ref rx, .ref ry, .ref rs, .int nv, .int (nI U), .int ns, .int nw, .int wa, .int ((txl f n U q).1), .int ((txl f n U q).2.1), .int ((txl f n U q).2.2), .int fw])), (rw, .inr (3, [.ref rb, .int (nI n)])), (rb, .inl (cB, 8192, .inl f))]) := by
  refine pz_openV (by decide) (Nat.le_of_ble_eq_true rfl) ?_
  intro p e s m below meth c A ls Q X hN hK hP hD hS hA hl fin
  obtain ⟨hx, hb, hml, hown, hts⟩ := id X
  have hl : lv_has ls 5 [(0, .ref r0)] := hl
  refine lv_iconst (v := 0) hx hb d_Rd_passTextures_0 (by decide) ?_
  refine lv_istore_n (lv' := [(1, .int 0), (0, .ref r0)]) hx hb d_Rd_passTextures_1 rfl hl (by decide) rfl (fun ls hl => ?_)
  have lp_5 : ∀ (j5 : Nat) (k : Nat) (z : S3) (ls : Array Slot) (H : Heap) (locs : List Loc), j5 + k = U → txl f n U q = txl f n j5 z → va_P D cls ([(r0, .inr (1, [.ref rw, .ref rx, .ref ry, .ref rs, .int nv, .int (nI U), .int ns, .int nw, .int wa, .int z.1, .int z.2.1, .int z.2.2, .int fw])), (rw, .inr (3, [.ref rb, .int (nI n)])), (rb, .inl (cB, 8192, .inl f))]) H → va_D A ([(r0, .inr (1, [.ref rw, .ref rx, .ref ry, .ref rs, .int nv, .int (nI U), .int ns, .int nw, .int wa, .int z.1, .int z.2.1, .int z.2.2, .int fw])), (rw, .inr (3, [.ref rb, .int (nI n)])), (rb, .inl (cB, 8192, .inl f))]) → va_S A s.heap H locs → lv_has ls 5 [(0, .ref r0), (1, .int (nI k))] → W p l e (rmd 3) s m ([.ref r0] : List Value).toArray below meth c H locs 0 0 Q (F0 m 2 ls []) := by
    intro j5
    induction j5 with
    | zero =>
      intro k z ls H locs hi he hP hD hS hl
      refine lv_iload_n hx hb d_Rd_passTextures_2 rfl (lv_at hl 1 rfl) ?_
      refine lv_aload_n hx hb d_Rd_passTextures_3 rfl (lv_at hl 0 rfl) ?_
      refine va_get (D := D) (ci := 1) (v := .int (nI U)) (C := R_Rd) (T := T_Rd) (N := 13) hx hb hts i_Rd hown hK hP 0 rfl rfl 5 (by decide) (hts _ w_79) (fun _ h9 => h9) rfl d_Rd_passTextures_4 ?_
      refine lv_icmp_ge (tgt := 73) hx hb d_Rd_passTextures_7 (by decide) (fun c_1 => ?_) (fun c_1 => ?_)
      · exact fin _ _ _ _ _ d_Rd_passTextures_73 hP hS (by rw [he]; simp only [txl, if_pos c_1])
      · exact (c_1 (by rw [nI_leI (by omega) (by omega)]; omega)).elim
    | succ j5 ih5 =>
      intro k z ls H locs hi he hP hD hS hl
      refine lv_iload_n hx hb d_Rd_passTextures_2 rfl (lv_at hl 1 rfl) ?_
      refine lv_aload_n hx hb d_Rd_passTextures_3 rfl (lv_at hl 0 rfl) ?_
      refine va_get (D := D) (ci := 1) (v := .int (nI U)) (C := R_Rd) (T := T_Rd) (N := 13) hx hb hts i_Rd hown hK hP 0 rfl rfl 5 (by decide) (hts _ w_79) (fun _ h9 => h9) rfl d_Rd_passTextures_4 ?_
      refine lv_icmp_ge (tgt := 73) hx hb d_Rd_passTextures_7 (by decide) (fun c_2 => ?_) (fun c_2 => ?_)
      · exact absurd c_2 (by rw [nI_leI (by omega) (by omega)]; omega)
      · refine lv_aload_n hx hb d_Rd_passTextures_10 rfl (lv_at hl 0 rfl) ?_
        refine va_get (D := D) (ci := 1) (v := .int z.2.1) (C := R_Rd) (T := T_Rd) (N := 13) hx hb hts i_Rd hown hK hP 0 rfl rfl 10 (by decide) (hts _ w_84) (fun _ h9 => h9) rfl d_Rd_passTextures_11 ?_
        refine lv_if_ne (tgt := 73) hx hb d_Rd_passTextures_14 (by decide) (fun c_3 => ?_) (fun c_3 => ?_)
        · exact fin _ _ _ _ _ d_Rd_passTextures_73 hP hS (by rw [he]; simp only [txl, if_neg c_2, if_neg c_3])
        · refine lv_iconst (v := 1) hx hb d_Rd_passTextures_17 (by decide) ?_
          refine lv_aload_n hx hb d_Rd_passTextures_18 rfl (lv_at hl 0 rfl) ?_
          refine lv_iconst (v := 0) hx hb d_Rd_passTextures_19 (by decide) ?_
          refine lv_iconst (v := 4) hx hb d_Rd_passTextures_20 (by decide) ?_
          refine pz_i (pz_rV (d := 2) (As := [.int 0, .int 4]) (rest := [.int 1]) X hN (c_Rd_small l D cB cI cS r0 rw rx ry rs rb nv (nI U) ns nw wa fw z f n 0 4 hn _) k_Rd_small w_236 ⟨by decide, by decide⟩ hK hP hD [0, 1, 2] rfl rfl 0 rfl rfl rfl rfl hl.1 rfl (Nat.le_of_ble_eq_true rfl) d_Rd_passTextures_21 ⟨Nat.zero_le _, Nat.zero_le _⟩) hP hD hS hA [0, 1, 2] rfl [r0, rw, rb] rfl rfl (fun H locs hP hD hS => ?_)
          generalize eg_4 : sm f n z 0 4 = g_4 at hP hD ⊢
          have hP : va_P D cls ([(r0, .inr (1, [.ref rw, .ref rx, .ref ry, .ref rs, .int nv, .int (nI U), .int ns, .int nw, .int wa, .int g_4.2.1, .int g_4.2.2.1, .int g_4.2.2.2, .int fw])), (rw, .inr (3, [.ref rb, .int (nI n)])), (rb, .inl (cB, 8192, .inl f))]) H := hP
          have hD : va_D A ([(r0, .inr (1, [.ref rw, .ref rx, .ref ry, .ref rs, .int nv, .int (nI U), .int ns, .int nw, .int wa, .int g_4.2.1, .int g_4.2.2.1, .int g_4.2.2.2, .int fw])), (rw, .inr (3, [.ref rb, .int (nI n)])), (rb, .inl (cB, 8192, .inl f))]) := hD
          refine lv_ishl hx hb d_Rd_passTextures_24 ?_
          refine lv_istore_n (lv' := [(2, .int (1 <<< (g_4.1 &&& 31))), (0, .ref r0), (1, .int (nI k))]) hx hb d_Rd_passTextures_25 rfl hl (by decide) rfl (fun ls hl => ?_)
          refine lv_iconst (v := 1) hx hb d_Rd_passTextures_26 (by decide) ?_
          refine lv_aload_n hx hb d_Rd_passTextures_27 rfl (lv_at hl 1 rfl) ?_
          refine lv_iconst (v := 0) hx hb d_Rd_passTextures_28 (by decide) ?_
          refine lv_iconst (v := 4) hx hb d_Rd_passTextures_29 (by decide) ?_
          refine pz_i (pz_rV (d := 2) (As := [.int 0, .int 4]) (rest := [.int 1]) X hN (c_Rd_small l D cB cI cS r0 rw rx ry rs rb nv (nI U) ns nw wa fw g_4.2 f n 0 4 hn _) k_Rd_small w_236 ⟨by decide, by decide⟩ hK hP hD [0, 1, 2] rfl rfl 0 rfl rfl rfl rfl hl.1 rfl (Nat.le_of_ble_eq_true rfl) d_Rd_passTextures_30 ⟨Nat.zero_le _, Nat.zero_le _⟩) hP hD hS hA [0, 1, 2] rfl [r0, rw, rb] rfl rfl (fun H locs hP hD hS => ?_)
          generalize eg_5 : sm f n g_4.2 0 4 = g_5 at hP hD ⊢
          have hP : va_P D cls ([(r0, .inr (1, [.ref rw, .ref rx, .ref ry, .ref rs, .int nv, .int (nI U), .int ns, .int nw, .int wa, .int g_5.2.1, .int g_5.2.2.1, .int g_5.2.2.2, .int fw])), (rw, .inr (3, [.ref rb, .int (nI n)])), (rb, .inl (cB, 8192, .inl f))]) H := hP
          have hD : va_D A ([(r0, .inr (1, [.ref rw, .ref rx, .ref ry, .ref rs, .int nv, .int (nI U), .int ns, .int nw, .int wa, .int g_5.2.1, .int g_5.2.2.1, .int g_5.2.2.2, .int fw])), (rw, .inr (3, [.ref rb, .int (nI n)])), (rb, .inl (cB, 8192, .inl f))]) := hD
          refine lv_ishl hx hb d_Rd_passTextures_33 ?_
          refine lv_istore_n (lv' := [(3, .int (1 <<< (g_5.1 &&& 31))), (2, .int (1 <<< (g_4.1 &&& 31))), (0, .ref r0), (1, .int (nI k))]) hx hb d_Rd_passTextures_34 rfl hl (by decide) rfl (fun ls hl => ?_)
          refine lv_iconst (v := 0) hx hb d_Rd_passTextures_35 (by decide) ?_
          refine lv_istore (lv' := [(4, .int 0), (3, .int (1 <<< (g_5.1 &&& 31))), (2, .int (1 <<< (g_4.1 &&& 31))), (0, .ref r0), (1, .int (nI k))]) hx hb d_Rd_passTextures_36 hl (by decide) rfl (fun ls hl => ?_)
          obtain ⟨B, hB, eB⟩ := txB f n z
          have hq2 : txs f n z = txi f n B g_5.2 := by simp only [txs, tx1, tx2, eg_4, eg_5, if_neg c_2, if_pos c_3]; rw [show txw g_4.1 * txw g_5.1 = nI B from by rw [← eB]; simp only [tx1, tx2, eg_4, eg_5, if_neg c_2, if_pos c_3], nI_clamp (by omega)]
          have eB2 : (1 <<< (g_4.1 &&& 31)) * (1 <<< (g_5.1 &&& 31)) = nI B := by rw [← eB]; simp only [tx1, tx2, eg_4, eg_5, if_neg c_2, if_pos c_3]; rfl
          have lp_6 : ∀ (j6 : Nat) (i : Nat) (y : S3) (ls : Array Slot) (H : Heap) (locs : List Loc), j6 + i = B → txi f n B g_5.2 = txi f n j6 y → va_P D cls ([(r0, .inr (1, [.ref rw, .ref rx, .ref ry, .ref rs, .int nv, .int (nI U), .int ns, .int nw, .int wa, .int y.1, .int y.2.1, .int y.2.2, .int fw])), (rw, .inr (3, [.ref rb, .int (nI n)])), (rb, .inl (cB, 8192, .inl f))]) H → va_D A ([(r0, .inr (1, [.ref rw, .ref rx, .ref ry, .ref rs, .int nv, .int (nI U), .int ns, .int nw, .int wa, .int y.1, .int y.2.1, .int y.2.2, .int fw])), (rw, .inr (3, [.ref rb, .int (nI n)])), (rb, .inl (cB, 8192, .inl f))]) → va_S A s.heap H locs → lv_has ls 5 [(0, .ref r0), (1, .int (nI k)), (2, .int (1 <<< (g_4.1 &&& 31))), (3, .int (1 <<< (g_5.1 &&& 31))), (4, .int (nI i))] → W p l e (rmd 3) s m ([.ref r0] : List Value).toArray below meth c H locs 0 0 Q (F0 m 38 ls []) := by
            intro j6
            induction j6 with
            | zero =>
              intro i y ls H locs hi2 he2 hP hD hS hl
              refine lv_iload hx hb d_Rd_passTextures_38 (lv_at hl 4 rfl) ?_
              refine lv_iload_n hx hb d_Rd_passTextures_40 rfl (lv_at hl 2 rfl) ?_
              refine lv_iload_n hx hb d_Rd_passTextures_41 rfl (lv_at hl 3 rfl) ?_
              refine lv_imul hx hb d_Rd_passTextures_42 ?_
              refine lv_icmp_ge (tgt := 67) hx hb d_Rd_passTextures_43 (by decide) (fun c_6 => ?_) (fun c_6 => ?_)
              · refine lv_iinc (v := nI (k + 1)) (lv' := [(1, .int (nI (k + 1))), (0, .ref r0), (2, .int (1 <<< (g_4.1 &&& 31))), (3, .int (1 <<< (g_5.1 &&& 31))), (4, .int (nI i))]) hx hb d_Rd_passTextures_67 hl (k := 1) rfl (nI_1 k) (by decide) rfl (fun ls hl => ?_)
                refine lv_goto (tgt := 2) hx hb d_Rd_passTextures_70 (by decide) ?_
                exact ih5 (k + 1) y _ _ _ (by omega) (by rw [he, txl]; simp only [eg_4, eg_5, if_neg c_2, if_pos c_3, if_pos c_6]; exact congrArg (txl f n j5) (hq2.trans (he2.trans (by simp only [txi, eg_4, eg_5, if_neg c_2, if_pos c_3, if_pos c_6])))) hP hD hS (lv_sub hl [1, 0] rfl)
              · exact (c_6 (by rw [eB2, nI_leI (by omega) (by omega)]; omega)).elim
            | succ j6 ih6 =>
              intro i y ls H locs hi2 he2 hP hD hS hl
              refine lv_iload hx hb d_Rd_passTextures_38 (lv_at hl 4 rfl) ?_
              refine lv_iload_n hx hb d_Rd_passTextures_40 rfl (lv_at hl 2 rfl) ?_
              refine lv_iload_n hx hb d_Rd_passTextures_41 rfl (lv_at hl 3 rfl) ?_
              refine lv_imul hx hb d_Rd_passTextures_42 ?_
              refine lv_icmp_ge (tgt := 67) hx hb d_Rd_passTextures_43 (by decide) (fun c_7 => ?_) (fun c_7 => ?_)
              · exact absurd c_7 (by rw [eB2, nI_leI (by omega) (by omega)]; omega)
              · refine lv_aload_n hx hb d_Rd_passTextures_46 rfl (lv_at hl 0 rfl) ?_
                refine va_get (D := D) (ci := 1) (v := .int y.2.1) (C := R_Rd) (T := T_Rd) (N := 13) hx hb hts i_Rd hown hK hP 0 rfl rfl 10 (by decide) (hts _ w_84) (fun _ h9 => h9) rfl d_Rd_passTextures_47 ?_
                refine lv_if_ne (tgt := 67) hx hb d_Rd_passTextures_50 (by decide) (fun c_8 => ?_) (fun c_8 => ?_)
                · refine lv_iinc (v := nI (k + 1)) (lv' := [(1, .int (nI (k + 1))), (0, .ref r0), (2, .int (1 <<< (g_4.1 &&& 31))), (3, .int (1 <<< (g_5.1 &&& 31))), (4, .int (nI i))]) hx hb d_Rd_passTextures_67 hl (k := 1) rfl (nI_1 k) (by decide) rfl (fun ls hl => ?_)
                  refine lv_goto (tgt := 2) hx hb d_Rd_passTextures_70 (by decide) ?_
                  exact ih5 (k + 1) y _ _ _ (by omega) (by rw [he, txl]; simp only [eg_4, eg_5, if_neg c_2, if_pos c_3, if_neg c_7, if_neg c_8]; exact congrArg (txl f n j5) (hq2.trans (he2.trans (by simp only [txi, eg_4, eg_5, if_neg c_2, if_pos c_3, if_neg c_7, if_neg c_8])))) hP hD hS (lv_sub hl [1, 0] rfl)
                · refine lv_aload_n hx hb d_Rd_passTextures_53 rfl (lv_at hl 0 rfl) ?_
                  refine lv_iconst (v := 0) hx hb d_Rd_passTextures_54 (by decide) ?_
                  refine lv_bipush (v := 15) hx hb d_Rd_passTextures_55 (by decide) ?_
                  refine pz_i (pz_rV (d := 2) (As := [.int 0, .int 15]) (rest := []) X hN (c_Rd_small l D cB cI cS r0 rw rx ry rs rb nv (nI U) ns nw wa fw y f n 0 15 hn _) k_Rd_small w_236 ⟨by decide, by decide⟩ hK hP hD [0, 1, 2] rfl rfl 0 rfl rfl rfl rfl hl.1 rfl (Nat.le_of_ble_eq_true rfl) d_Rd_passTextures_57 ⟨Nat.zero_le _, Nat.zero_le _⟩) hP hD hS hA [0, 1, 2] rfl [r0, rw, rb] rfl rfl (fun H locs hP hD hS => ?_)
                  generalize eg_9 : sm f n y 0 15 = g_9 at hP hD ⊢
                  have hP : va_P D cls ([(r0, .inr (1, [.ref rw, .ref rx, .ref ry, .ref rs, .int nv, .int (nI U), .int ns, .int nw, .int wa, .int g_9.2.1, .int g_9.2.2.1, .int g_9.2.2.2, .int fw])), (rw, .inr (3, [.ref rb, .int (nI n)])), (rb, .inl (cB, 8192, .inl f))]) H := hP
                  have hD : va_D A ([(r0, .inr (1, [.ref rw, .ref rx, .ref ry, .ref rs, .int nv, .int (nI U), .int ns, .int nw, .int wa, .int g_9.2.1, .int g_9.2.2.1, .int g_9.2.2.2, .int fw])), (rw, .inr (3, [.ref rb, .int (nI n)])), (rb, .inl (cB, 8192, .inl f))]) := hD
                  refine lv_pop hx hb d_Rd_passTextures_60 rfl ?_
                  refine lv_iinc (v := nI (i + 1)) (lv' := [(4, .int (nI (i + 1))), (0, .ref r0), (1, .int (nI k)), (2, .int (1 <<< (g_4.1 &&& 31))), (3, .int (1 <<< (g_5.1 &&& 31)))]) hx hb d_Rd_passTextures_61 hl (k := 4) rfl (nI_1 i) (by decide) rfl (fun ls hl => ?_)
                  refine lv_goto (tgt := 38) hx hb d_Rd_passTextures_64 (by decide) ?_
                  exact ih6 (i + 1) g_9.2 _ _ _ (by omega) (by rw [he2, txi]; simp only [eg_4, eg_5, eg_9, if_neg c_2, if_pos c_3, if_neg c_7, if_pos c_8]) hP hD hS (lv_sub hl [1, 2, 3, 4, 0] rfl)
          exact lp_6 B 0 g_5.2 _ _ _ (by omega) (rfl) hP hD hS (lv_sub hl [3, 4, 2, 1, 0] rfl)
  exact lp_5 U 0 q _ _ _ (by omega) (rfl) hP hD hS (lv_sub hl [1, 0] rfl)

set_option maxRecDepth 100000 in
set_option maxHeartbeats 4000000 in
/-- Reader.passEnd -/
theorem c_Rd_passEnd (l : Launch) (D : va_G) (cB cI cS : ClassId) (r0 rw rx ry rs rb : Nat) (nv nt ns nw wa fw : Int32) (P : Nat) (q2 : Int32 × Int32) (f : Nat → Int32) (n : Nat) (hn : n ≤ 8192) (hPn : P ≤ n) : mV l y_Rd_passEnd b_Rd_passEnd 2 (none) 3 D cls [(cB, .byte), (cI, .int), (cS, .object "MapLumps$Span")] [.ref r0] ([(r0, .inr (1, [.ref rw, .ref rx, .ref ry, .ref rs, .int nv, .int nt, .int ns, .int nw, .int wa, .int (nI P), .int q2.1, .int q2.2, .int fw])), (rw, .inr (3, [.ref rb, .int (nI n)])), (rb, .inl (cB, 8192, .inl f))]) ([(r0, .inr (1, [.ref rw, .ref rx, .ref ry, .ref rs, .int nv, .int nt, .int ns, .int nw, .int wa, .int ((enS f n (nI P, q2)).1), .int ((enS f n (nI P, q2)).2.1), .int ((enS f n (nI P, q2)).2.2), .int fw])), (rw, .inr (3, [.ref rb, .int (nI n)])), (rb, .inl (cB, 8192, .inl f))]) := by
  refine pz_openV (by decide) (Nat.le_of_ble_eq_true rfl) ?_
  intro p e s m below meth c A ls Q X hN hK hP hD hS hA hl fin
  obtain ⟨hx, hb, hml, hown, hts⟩ := id X
  have hl : lv_has ls 2 [(0, .ref r0)] := hl
  refine lv_aload_n hx hb d_Rd_passEnd_0 rfl (lv_at hl 0 rfl) ?_
  refine va_get (D := D) (ci := 1) (v := .ref rw) (C := R_Rd) (T := T_Rd) (N := 13) hx hb hts i_Rd hown hK hP 0 rfl rfl 0 (by decide) (hts _ w_73) (fun _ h9 => h9) rfl d_Rd_passEnd_1 ?_
  refine lv_aload_n hx hb d_Rd_passEnd_4 rfl (lv_at hl 0 rfl) ?_
  refine va_get (D := D) (ci := 1) (v := .int (nI P)) (C := R_Rd) (T := T_Rd) (N := 13) hx hb hts i_Rd hown hK hP 0 rfl rfl 9 (by decide) (hts _ w_83) (fun _ h9 => h9) rfl d_Rd_passEnd_5 ?_
  refine pz_i0 (pz_rV (d := 0) (As := [.int (nI P)]) (rest := []) X hN (c_Rw_sums l D cB cI cS rw rb f n P hn hPn _) k_Rw_sums w_299 ⟨by decide, by decide⟩ hK hP hD [1, 2] rfl rfl 1 rfl rfl rfl rfl hl.1 rfl (Nat.le_of_ble_eq_true rfl) d_Rd_passEnd_8 ⟨Nat.zero_le _, Nat.zero_le _⟩) hP hD hS hA [1, 2] rfl (fun H locs hP hS => ?_)
  refine lv_istore_n (lv' := [(1, .int (256 * (sum2 f P).1 + (sum2 f P).2)), (0, .ref r0)]) hx hb d_Rd_passEnd_11 rfl hl (by decide) rfl (fun ls hl => ?_)
  refine lv_aload_n hx hb d_Rd_passEnd_12 rfl (lv_at hl 1 rfl) ?_
  refine lv_iload_n hx hb d_Rd_passEnd_13 rfl (lv_at hl 0 rfl) ?_
  refine lv_bipush (v := 8) hx hb d_Rd_passEnd_14 (by decide) ?_
  refine lv_ishr hx hb d_Rd_passEnd_16 ?_
  refine lv_iconst (v := 4) hx hb d_Rd_passEnd_17 (by decide) ?_
  refine pz_v (pz_rV (d := 2) (As := [.int ((256 * (sum2 f P).1 + (sum2 f P).2) >>> (8 &&& 31)), .int 4]) (rest := []) X hN (c_Rd_expect l D cB cI cS r0 rw rx ry rs rb nv nt ns nw wa fw (nI P, q2.1, q2.2) f n ((256 * (sum2 f P).1 + (sum2 f P).2) >>> (8 &&& 31)) 4 hn _) k_Rd_expect w_220 ⟨by decide, by decide⟩ hK hP hD [0, 1, 2] rfl rfl 0 rfl rfl rfl rfl hl.1 rfl (Nat.le_of_ble_eq_true rfl) d_Rd_passEnd_18 ⟨Nat.zero_le _, Nat.zero_le _⟩) hP hD hS hA [0, 1, 2] rfl [r0, rw, rb] rfl rfl (fun H locs hP hD hS => ?_)
  generalize eg_1 : ex f n (nI P, q2.1, q2.2) ((256 * (sum2 f P).1 + (sum2 f P).2) >>> (8 &&& 31)) 4 = g_1 at hP hD ⊢
  have hP : va_P D cls ([(r0, .inr (1, [.ref rw, .ref rx, .ref ry, .ref rs, .int nv, .int nt, .int ns, .int nw, .int wa, .int g_1.1, .int g_1.2.1, .int g_1.2.2, .int fw])), (rw, .inr (3, [.ref rb, .int (nI n)])), (rb, .inl (cB, 8192, .inl f))]) H := hP
  have hD : va_D A ([(r0, .inr (1, [.ref rw, .ref rx, .ref ry, .ref rs, .int nv, .int nt, .int ns, .int nw, .int wa, .int g_1.1, .int g_1.2.1, .int g_1.2.2, .int fw])), (rw, .inr (3, [.ref rb, .int (nI n)])), (rb, .inl (cB, 8192, .inl f))]) := hD
  refine lv_aload_n hx hb d_Rd_passEnd_21 rfl (lv_at hl 1 rfl) ?_
  refine lv_iload_n hx hb d_Rd_passEnd_22 rfl (lv_at hl 0 rfl) ?_
  refine lv_sipush (v := 255) hx hb d_Rd_passEnd_23 (by decide) ?_
  refine lv_iand hx hb d_Rd_passEnd_26 ?_
  refine lv_iconst (v := 4) hx hb d_Rd_passEnd_27 (by decide) ?_
  refine pz_v (pz_rV (d := 2) (As := [.int ((256 * (sum2 f P).1 + (sum2 f P).2) &&& 255), .int 4]) (rest := []) X hN (c_Rd_expect l D cB cI cS r0 rw rx ry rs rb nv nt ns nw wa fw g_1 f n ((256 * (sum2 f P).1 + (sum2 f P).2) &&& 255) 4 hn _) k_Rd_expect w_220 ⟨by decide, by decide⟩ hK hP hD [0, 1, 2] rfl rfl 0 rfl rfl rfl rfl hl.1 rfl (Nat.le_of_ble_eq_true rfl) d_Rd_passEnd_28 ⟨Nat.zero_le _, Nat.zero_le _⟩) hP hD hS hA [0, 1, 2] rfl [r0, rw, rb] rfl rfl (fun H locs hP hD hS => ?_)
  generalize eg_2 : ex f n g_1 ((256 * (sum2 f P).1 + (sum2 f P).2) &&& 255) 4 = g_2 at hP hD ⊢
  have hP : va_P D cls ([(r0, .inr (1, [.ref rw, .ref rx, .ref ry, .ref rs, .int nv, .int nt, .int ns, .int nw, .int wa, .int g_2.1, .int g_2.2.1, .int g_2.2.2, .int fw])), (rw, .inr (3, [.ref rb, .int (nI n)])), (rb, .inl (cB, 8192, .inl f))]) H := hP
  have hD : va_D A ([(r0, .inr (1, [.ref rw, .ref rx, .ref ry, .ref rs, .int nv, .int nt, .int ns, .int nw, .int wa, .int g_2.1, .int g_2.2.1, .int g_2.2.2, .int fw])), (rw, .inr (3, [.ref rb, .int (nI n)])), (rb, .inl (cB, 8192, .inl f))]) := hD
  refine lv_aload_n hx hb d_Rd_passEnd_31 rfl (lv_at hl 1 rfl) ?_
  refine va_get (D := D) (ci := 1) (v := .int g_2.1) (C := R_Rd) (T := T_Rd) (N := 13) hx hb hts i_Rd hown hK hP 0 rfl rfl 9 (by decide) (hts _ w_83) (fun _ h9 => h9) rfl d_Rd_passEnd_32 ?_
  refine lv_aload_n hx hb d_Rd_passEnd_35 rfl (lv_at hl 1 rfl) ?_
  refine va_get (D := D) (ci := 1) (v := .ref rw) (C := R_Rd) (T := T_Rd) (N := 13) hx hb hts i_Rd hown hK hP 0 rfl rfl 0 (by decide) (hts _ w_73) (fun _ h9 => h9) rfl d_Rd_passEnd_36 ?_
  refine va_getN (D := D) (ci := 3) (v := .int (nI n)) (C := R_Rw) (T := T_Rw) (N := 2) hx hb hts i_Rw hown hK hP 1 rfl rfl 1 (by decide) (nf_33 hN) (fun _ h9 => h9) rfl d_Rd_passEnd_39 ?_
  refine lv_icmp_ge (tgt := 54) hx hb d_Rd_passEnd_42 (by decide) (fun c_3 => ?_) (fun c_3 => ?_)
  · exact fin _ _ _ _ _ d_Rd_passEnd_54 hP hS (by simp only [enS, en2, enD, nI_clamp (show P < 2 ^ 31 by omega), eg_1, eg_2, if_pos c_3])
  · refine lv_aload_n hx hb d_Rd_passEnd_45 rfl (lv_at hl 1 rfl) ?_
    refine lv_iconst (v := 5) hx hb d_Rd_passEnd_46 (by decide) ?_
    refine lv_aload_n hx hb d_Rd_passEnd_47 rfl (lv_at hl 1 rfl) ?_
    refine va_get (D := D) (ci := 1) (v := .int g_2.1) (C := R_Rd) (T := T_Rd) (N := 13) hx hb hts i_Rd hown hK hP 0 rfl rfl 9 (by decide) (hts _ w_83) (fun _ h9 => h9) rfl d_Rd_passEnd_48 ?_
    refine pz_v (pz_rV (d := 0) (As := [.int 5, .int g_2.1]) (rest := []) X hN (c_Rd_fail l D cB cI cS r0 rw rx ry rs nv nt ns nw wa fw g_2 5 g_2.1 _) k_Rd_fail w_232 ⟨by decide, by decide⟩ hK hP hD [0] rfl rfl 0 rfl rfl rfl rfl hl.1 rfl (Nat.le_of_ble_eq_true rfl) d_Rd_passEnd_51 ⟨Nat.zero_le _, Nat.zero_le _⟩) hP hD hS hA [0] rfl [r0] rfl rfl (fun H locs hP hD hS => ?_)
    have hP : va_P D cls ([(r0, .inr (1, [.ref rw, .ref rx, .ref ry, .ref rs, .int nv, .int nt, .int ns, .int nw, .int wa, .int ((fl g_2 5 g_2.1).1), .int ((fl g_2 5 g_2.1).2.1), .int ((fl g_2 5 g_2.1).2.2), .int fw])), (rw, .inr (3, [.ref rb, .int (nI n)])), (rb, .inl (cB, 8192, .inl f))]) H := hP
    have hD : va_D A ([(r0, .inr (1, [.ref rw, .ref rx, .ref ry, .ref rs, .int nv, .int nt, .int ns, .int nw, .int wa, .int ((fl g_2 5 g_2.1).1), .int ((fl g_2 5 g_2.1).2.1), .int ((fl g_2 5 g_2.1).2.2), .int fw])), (rw, .inr (3, [.ref rb, .int (nI n)])), (rb, .inl (cB, 8192, .inl f))]) := hD
    exact fin _ _ _ _ _ d_Rd_passEnd_54 hP hS (by simp only [enS, en2, enD, nI_clamp (show P < 2 ^ 31 by omega), eg_1, eg_2, if_neg c_3])
end
section
/-! the 128 spans: cells at ad 0, ad 1 .. -/
abbrev spE (a : E4) : va_E := .inr (4, [.int a.1, .int a.2.1, .int a.2.2.1, .int a.2.2.2, .int (mnI a.1 a.2.2.1), .int (mxI a.1 a.2.2.1), .int (mnI a.2.1 a.2.2.2), .int (mxI a.2.1 a.2.2.2)])
def spw (ad : Nat → Nat) (sp : Nat → E4) : va_W := (List.range 128).map (fun k => (ad k, spE (sp k)))
theorem spw_get {X : va_W} {ad : Nat → Nat} {sp : Nat → E4} {L k : Nat} (hL : X.length = L) (hk : k < 128) : (X ++ spw ad sp)[L + k]? = some (ad k, spE (sp k)) := by
  subst hL
  rw [List.getElem?_append_right (Nat.le_add_right _ _), Nat.add_sub_cancel_left]
  simp only [spw, List.getElem?_map, List.getElem?_range hk, Option.map_some]
theorem spw_set {X : va_W} {ad : Nat → Nat} {sp : Nat → E4} {L k : Nat} (hL : X.length = L) (hk : k < 128) (v : E4) : (X ++ spw ad sp).set (L + k) (ad k, spE v) = X ++ spw ad (pu sp k v) := by
  subst hL
  rw [List.set_append_right _ _ (Nat.le_add_right _ _), Nat.add_sub_cancel_left]
  congr 1
  refine List.ext_getElem? (fun j => ?_)
  rw [List.getElem?_set]
  by_cases hj : j < 128
  · simp only [spw, List.getElem?_map, List.getElem?_range hj, Option.map_some, List.length_map, List.length_range]
    by_cases e : k = j
    · subst e
      simp only [if_true, hk, pu]
    · rw [if_neg e]
      simp only [pu, if_neg (fun q : j = k => e q.symm)]
  · have h1 : (spw ad sp)[j]? = none := List.getElem?_eq_none (by simp only [spw, List.length_map, List.length_range]; omega)
    have h2 : (spw ad (pu sp k v))[j]? = none := List.getElem?_eq_none (by simp only [spw, List.length_map, List.length_range]; omega)
    rw [h1, h2, if_neg (by omega)]
theorem nd6 (k : Nat) : va_nd [0, 1, 2, 3, 4, 6 + k] = true := by
  simp [va_nd]
  omega
theorem ndk {L k o : Nat} (h : o < k) : va_nd [L + k, L + o] = true := by
  simp [va_nd]
  omega
theorem spw_hC6 {a b c d e g : Nat × va_E} {ad : Nat → Nat} {sp : Nat → E4} {k : Nat} (hk : k < 128) : ([0, 1, 2, 3, 4, 6 + k] : List Nat).map (fun i => ([a, b, c, d, e, g] ++ spw ad sp)[i]?) = ([a, b, c, d, e, (ad k, spE (sp k))] : va_W).map some := by
  simp only [List.map_cons, List.map_nil]
  rw [spw_get (X := [a, b, c, d, e, g]) (L := 6) rfl hk]
  rfl
theorem spw_put6 {a b c d e g a' b' c' d' e' : Nat × va_E} {ad : Nat → Nat} {sp : Nat → E4} {k : Nat} (v : E4) (hk : k < 128) : pz_put [0, 1, 2, 3, 4, 6 + k] [a', b', c', d', e', (ad k, spE v)] ([a, b, c, d, e, g] ++ spw ad sp) = [a', b', c', d', e', g] ++ spw ad (pu sp k v) :=
  spw_set (X := [a', b', c', d', e', g]) (L := 6) rfl hk v
theorem spw_hC2 {X : va_W} {ad : Nat → Nat} {sp : Nat → E4} {L k o : Nat} (hL : X.length = L) (hk : k < 128) (ho : o < 128) : ([L + k, L + o] : List Nat).map (fun i => (X ++ spw ad sp)[i]?) = ([(ad k, spE (sp k)), (ad o, spE (sp o))] : va_W).map some := by
  simp only [List.map_cons, List.map_nil]
  rw [spw_get hL hk, spw_get hL ho]
/-- the pool as a whole -/
def pls (L : Nat) : List Nat := (List.range 128).map (fun k => L + k)
theorem spw_hC {X cx : va_W} {ad : Nat → Nat} {sp : Nat → E4} {L : Nat} (is : List Nat) (hL : X.length = L) (h1 : is.map (fun i => X[i]?) = cx.map some) (hb : ∀ i ∈ is, i < L) : (is ++ pls L).map (fun i => (X ++ spw ad sp)[i]?) = (cx ++ spw ad sp).map some := by
  rw [List.map_append, List.map_append, ← h1]
  congr 1
  · refine List.map_congr_left (fun i hi => ?_)
    rw [List.getElem?_append_left (by rw [hL]; exact hb i hi)]
  · rw [pls, spw, List.map_map, List.map_map]
    refine List.map_congr_left (fun k hk => ?_)
    exact spw_get hL (List.mem_range.mp hk)
theorem pz_put_app : ∀ (a : List Nat) (c : va_W) (b : List Nat) (d ws : va_W), a.length = c.length → pz_put (a ++ b) (c ++ d) ws = pz_put b d (pz_put a c ws)
  | [], [], _, _, _, _ => rfl
  | [], _ :: _, _, _, _, h => absurd h (by simp)
  | _ :: _, [], _, _, _, h => absurd h (by simp)
  | i :: a, x :: c, b, d, ws, h => pz_put_app a c b d (ws.set i x) (Nat.succ.inj h)
theorem pz_put_left : ∀ (is : List Nat) (w1 X Y : va_W), (∀ i ∈ is, i < X.length) → pz_put is w1 (X ++ Y) = pz_put is w1 X ++ Y
  | [], _, _, _, _ => rfl
  | _ :: _, [], _, _, _ => rfl
  | i :: is, x :: w1, X, Y, h => by
    show pz_put is w1 ((X ++ Y).set i x) = pz_put is w1 (X.set i x) ++ Y
    rw [List.set_append_left _ _ (h i List.mem_cons_self)]
    exact pz_put_left is w1 (X.set i x) Y (fun j hj => by rw [List.length_set]; exact h j (List.mem_cons_of_mem _ hj))
theorem pz_put_len : ∀ (is : List Nat) (w1 X : va_W), (pz_put is w1 X).length = X.length
  | [], _, _ => rfl
  | _ :: _, [], _ => rfl
  | i :: is, x :: w1, X => by
    show (pz_put is w1 (X.set i x)).length = X.length
    rw [pz_put_len is w1 (X.set i x), List.length_set]
theorem spw_putm {X : va_W} {ad : Nat → Nat} (sp sp' : Nat → E4) {L : Nat} (hL : X.length = L) : ∀ m : Nat, m ≤ 128 → pz_put ((List.range m).map (fun k => L + k)) ((List.range m).map (fun k => (ad k, spE (sp' k)))) (X ++ spw ad sp) = X ++ spw ad (fun k => if k < m then sp' k else sp k)
  | 0, _ => by
    show X ++ spw ad sp = _
    congr 1
  | m + 1, h => by
    rw [List.range_succ, List.map_append, List.map_append, pz_put_app _ _ _ _ _ (by simp), spw_putm sp sp' hL m (by omega)]
    show (X ++ spw ad (fun k => if k < m then sp' k else sp k)).set (L + m) (ad m, spE (sp' m)) = _
    rw [spw_set hL (by omega)]
    congr 2
    funext j
    simp only [pu]
    by_cases e : j = m
    · subst e
      rw [if_pos rfl, if_pos (by omega)]
    · rw [if_neg e]
      by_cases q : j < m
      · rw [if_pos q, if_pos (by omega)]
      · rw [if_neg q, if_neg (by omega)]
theorem spw_congr {ad : Nat → Nat} {sp sp' : Nat → E4} (h : ∀ k, k < 128 → sp k = sp' k) : spw ad sp = spw ad sp' := by
  unfold spw
  refine List.map_congr_left (fun k hk => ?_)
  rw [h k (List.mem_range.mp hk)]
theorem spw_put {X wx : va_W} {ad : Nat → Nat} {sp sp' : Nat → E4} {L : Nat} (is : List Nat) (hL : X.length = L) (hl : is.length = wx.length) (hb : ∀ i ∈ is, i < L) : pz_put (is ++ pls L) (wx ++ spw ad sp') (X ++ spw ad sp) = pz_put is wx X ++ spw ad sp' := by
  rw [pz_put_app _ _ _ _ _ hl, pz_put_left is wx X _ (fun i hi => by rw [hL]; exact hb i hi)]
  show pz_put (pls L) (spw ad sp') (pz_put is wx X ++ spw ad sp) = _
  have h := spw_putm (ad := ad) sp sp' (X := pz_put is wx X) (L := L) (by rw [pz_put_len, hL]) 128 (Nat.le_refl _)
  refine h.trans ?_
  congr 1
theorem sm_nn (f : Nat → Int32) (n : Nat) (q : S3) (hi : Int32) : ¬ (sm f n q 0 hi).1 < 0 := by
  rcases jd_rng (nx f n q).2 (nx f n q).1 0 hi q.1 with h1 | ⟨h1, -, h3, -⟩
  · show ¬ (jd (nx f n q).2 (nx f n q).1 0 hi q.1).1 < 0
    rw [h1]; decide
  · show ¬ (jd (nx f n q).2 (nx f n q).1 0 hi q.1).1 < 0
    rw [h3]; exact h1
theorem spw_fst (ad : Nat → Nat) (sp : Nat → E4) : (spw ad sp).map Prod.fst = (List.range 128).map ad := by
  rw [spw, List.map_map]
  rfl
theorem spw_adr {X : va_W} {as : List Nat} {ad : Nat → Nat} {sp : Nat → E4} (h : X.map Prod.fst = as) : (X ++ spw ad sp).map Prod.fst = as ++ (List.range 128).map ad := by
  rw [List.map_append, spw_fst, h]
end
section
set_option maxRecDepth 100000 in
set_option maxHeartbeats 4000000 in
/-- Reader.passWallEnds -/
theorem c_Rd_passWallEnds (l : Launch) (D : va_G) (cB cI cS : ClassId) (r0 rw rx ry rs rb : Nat) (nv nt ns nw wa fw : Int32) (q : S3) (f : Nat → Int32) (n : Nat) (xs ys : Nat → Int32) (h1 : Nat) (a4 : E4) (hn : n ≤ 8192) : mV l y_Rd_passWallEnds b_Rd_passWallEnds 5 (none) 3 D cls [(cB, .byte), (cI, .int), (cS, .object "MapLumps$Span")] [.ref r0, .ref h1] ([(r0, .inr (1, [.ref rw, .ref rx, .ref ry, .ref rs, .int nv, .int nt, .int ns, .int nw, .int wa, .int q.1, .int q.2.1, .int q.2.2, .int fw])), (rw, .inr (3, [.ref rb, .int (nI n)])), (rb, .inl (cB, 8192, .inl f)), (rx, .inl (cI, 128, .inl xs)), (ry, .inl (cI, 128, .inl ys)), (h1, .inr (4, [.int a4.1, .int a4.2.1, .int a4.2.2.1, .int a4.2.2.2, .int (mnI a4.1 a4.2.2.1), .int (mxI a4.1 a4.2.2.1), .int (mnI a4.2.1 a4.2.2.2), .int (mxI a4.2.1 a4.2.2.2)]))]) ([(r0, .inr (1, [.ref rw, .ref rx, .ref ry, .ref rs, .int nv, .int nt, .int ns, .int nw, .int wa, .int ((weS f n nv q).1), .int ((weS f n nv q).2.1), .int ((weS f n nv q).2.2), .int fw])), (rw, .inr (3, [.ref rb, .int (nI n)])), (rb, .inl (cB, 8192, .inl f)), (rx, .inl (cI, 128, .inl xs)), (ry, .inl (cI, 128, .inl ys)), (h1, .inr (4, [.int ((weE f n nv xs ys q a4).1), .int ((weE f n nv xs ys q a4).2.1), .int ((weE f n nv xs ys q a4).2.2.1), .int ((weE f n nv xs ys q a4).2.2.2), .int (mnI ((weE f n nv xs ys q a4).1) ((weE f n nv xs ys q a4).2.2.1)), .int (mxI ((weE f n nv xs ys q a4).1) ((weE f n nv xs ys q a4).2.2.1)), .int (mnI ((weE f n nv xs ys q a4).2.1) ((weE f n nv xs ys q a4).2.2.2)), .int (mxI ((weE f n nv xs ys q a4).2.1) ((weE f n nv xs ys q a4).2.2.2))]))]) := by
  refine pz_openV (by decide) (Nat.le_of_ble_eq_true rfl) ?_
  intro p e s m below meth c A ls Q X hN hK hP hD hS hA hl fin
  obtain ⟨hx, hb, hml, hown, hts⟩ := id X
  have hl : lv_has ls 5 [(0, .ref r0), (1, .ref h1)] := hl
  refine lv_aload_n hx hb d_Rd_passWallEnds_0 rfl (lv_at hl 0 rfl) ?_
  refine lv_iconst (v := 0) hx hb d_Rd_passWallEnds_1 (by decide) ?_
  refine lv_aload_n hx hb d_Rd_passWallEnds_2 rfl (lv_at hl 0 rfl) ?_
  refine va_get (D := D) (ci := 1) (v := .int nv) (C := R_Rd) (T := T_Rd) (N := 13) hx hb hts i_Rd hown hK hP 0 rfl rfl 4 (by decide) (hts _ w_78) (fun _ h9 => h9) rfl d_Rd_passWallEnds_3 ?_
  refine lv_iconst (v := 1) hx hb d_Rd_passWallEnds_6 (by decide) ?_
  refine lv_isub hx hb d_Rd_passWallEnds_7 ?_
  refine pz_i (pz_rV (d := 2) (As := [.int 0, .int (nv - 1)]) (rest := []) X hN (c_Rd_small l D cB cI cS r0 rw rx ry rs rb nv nt ns nw wa fw q f n 0 (nv - 1) hn _) k_Rd_small w_236 ⟨by decide, by decide⟩ hK hP hD [0, 1, 2] rfl rfl 0 rfl rfl rfl rfl hl.1 rfl (Nat.le_of_ble_eq_true rfl) d_Rd_passWallEnds_8 ⟨Nat.zero_le _, Nat.zero_le _⟩) hP hD hS hA [0, 1, 2] rfl [r0, rw, rb] rfl rfl (fun H locs hP hD hS => ?_)
  generalize eg_1 : sm f n q 0 (nv - 1) = g_1 at hP hD ⊢
  have hP : va_P D cls ([(r0, .inr (1, [.ref rw, .ref rx, .ref ry, .ref rs, .int nv, .int nt, .int ns, .int nw, .int wa, .int g_1.2.1, .int g_1.2.2.1, .int g_1.2.2.2, .int fw])), (rw, .inr (3, [.ref rb, .int (nI n)])), (rb, .inl (cB, 8192, .inl f)), (rx, .inl (cI, 128, .inl xs)), (ry, .inl (cI, 128, .inl ys)), (h1, .inr (4, [.int a4.1, .int a4.2.1, .int a4.2.2.1, .int a4.2.2.2, .int (mnI a4.1 a4.2.2.1), .int (mxI a4.1 a4.2.2.1), .int (mnI a4.2.1 a4.2.2.2), .int (mxI a4.2.1 a4.2.2.2)]))]) H := hP
  have hD : va_D A ([(r0, .inr (1, [.ref rw, .ref rx, .ref ry, .ref rs, .int nv, .int nt, .int ns, .int nw, .int wa, .int g_1.2.1, .int g_1.2.2.1, .int g_1.2.2.2, .int fw])), (rw, .inr (3, [.ref rb, .int (nI n)])), (rb, .inl (cB, 8192, .inl f)), (rx, .inl (cI, 128, .inl xs)), (ry, .inl (cI, 128, .inl ys)), (h1, .inr (4, [.int a4.1, .int a4.2.1, .int a4.2.2.1, .int a4.2.2.2, .int (mnI a4.1 a4.2.2.1), .int (mxI a4.1 a4.2.2.1), .int (mnI a4.2.1 a4.2.2.2), .int (mxI a4.2.1 a4.2.2.2)]))]) := hD
  refine lv_istore_n (lv' := [(2, .int g_1.1), (0, .ref r0), (1, .ref h1)]) hx hb d_Rd_passWallEnds_11 rfl hl (by decide) rfl (fun ls hl => ?_)
  refine lv_aload_n hx hb d_Rd_passWallEnds_12 rfl (lv_at hl 1 rfl) ?_
  refine va_get (D := D) (ci := 1) (v := .int g_1.2.1) (C := R_Rd) (T := T_Rd) (N := 13) hx hb hts i_Rd hown hK hP 0 rfl rfl 9 (by decide) (hts _ w_83) (fun _ h9 => h9) rfl d_Rd_passWallEnds_13 ?_
  refine lv_istore_n (lv' := [(3, .int g_1.2.1), (2, .int g_1.1), (0, .ref r0), (1, .ref h1)]) hx hb d_Rd_passWallEnds_16 rfl hl (by decide) rfl (fun ls hl => ?_)
  refine lv_aload_n hx hb d_Rd_passWallEnds_17 rfl (lv_at hl 2 rfl) ?_
  refine lv_iconst (v := 0) hx hb d_Rd_passWallEnds_18 (by decide) ?_
  refine lv_aload_n hx hb d_Rd_passWallEnds_19 rfl (lv_at hl 2 rfl) ?_
  refine va_get (D := D) (ci := 1) (v := .int nv) (C := R_Rd) (T := T_Rd) (N := 13) hx hb hts i_Rd hown hK hP 0 rfl rfl 4 (by decide) (hts _ w_78) (fun _ h9 => h9) rfl d_Rd_passWallEnds_20 ?_
  refine lv_iconst (v := 1) hx hb d_Rd_passWallEnds_23 (by decide) ?_
  refine lv_isub hx hb d_Rd_passWallEnds_24 ?_
  refine pz_i (pz_rV (d := 2) (As := [.int 0, .int (nv - 1)]) (rest := []) X hN (c_Rd_small l D cB cI cS r0 rw rx ry rs rb nv nt ns nw wa fw g_1.2 f n 0 (nv - 1) hn _) k_Rd_small w_236 ⟨by decide, by decide⟩ hK hP hD [0, 1, 2] rfl rfl 0 rfl rfl rfl rfl hl.1 rfl (Nat.le_of_ble_eq_true rfl) d_Rd_passWallEnds_25 ⟨Nat.zero_le _, Nat.zero_le _⟩) hP hD hS hA [0, 1, 2] rfl [r0, rw, rb] rfl rfl (fun H locs hP hD hS => ?_)
  generalize eg_2 : sm f n g_1.2 0 (nv - 1) = g_2 at hP hD ⊢
  have hP : va_P D cls ([(r0, .inr (1, [.ref rw, .ref rx, .ref ry, .ref rs, .int nv, .int nt, .int ns, .int nw, .int wa, .int g_2.2.1, .int g_2.2.2.1, .int g_2.2.2.2, .int fw])), (rw, .inr (3, [.ref rb, .int (nI n)])), (rb, .inl (cB, 8192, .inl f)), (rx, .inl (cI, 128, .inl xs)), (ry, .inl (cI, 128, .inl ys)), (h1, .inr (4, [.int a4.1, .int a4.2.1, .int a4.2.2.1, .int a4.2.2.2, .int (mnI a4.1 a4.2.2.1), .int (mxI a4.1 a4.2.2.1), .int (mnI a4.2.1 a4.2.2.2), .int (mxI a4.2.1 a4.2.2.2)]))]) H := hP
  have hD : va_D A ([(r0, .inr (1, [.ref rw, .ref rx, .ref ry, .ref rs, .int nv, .int nt, .int ns, .int nw, .int wa, .int g_2.2.1, .int g_2.2.2.1, .int g_2.2.2.2, .int fw])), (rw, .inr (3, [.ref rb, .int (nI n)])), (rb, .inl (cB, 8192, .inl f)), (rx, .inl (cI, 128, .inl xs)), (ry, .inl (cI, 128, .inl ys)), (h1, .inr (4, [.int a4.1, .int a4.2.1, .int a4.2.2.1, .int a4.2.2.2, .int (mnI a4.1 a4.2.2.1), .int (mxI a4.1 a4.2.2.1), .int (mnI a4.2.1 a4.2.2.2), .int (mxI a4.2.1 a4.2.2.2)]))]) := hD
  refine lv_istore (lv' := [(4, .int g_2.1), (3, .int g_1.2.1), (2, .int g_1.1), (0, .ref r0), (1, .ref h1)]) hx hb d_Rd_passWallEnds_28 hl (by decide) rfl (fun ls hl => ?_)
  refine lv_iload_n hx hb d_Rd_passWallEnds_30 rfl (lv_at hl 2 rfl) ?_
  refine lv_iload hx hb d_Rd_passWallEnds_31 (lv_at hl 0 rfl) ?_
  refine lv_icmp_ne (tgt := 42) hx hb d_Rd_passWallEnds_33 (by decide) (fun c_3 => ?_) (fun c_3 => ?_)
  · refine lv_iload_n hx hb d_Rd_passWallEnds_42 rfl (lv_at hl 2 rfl) ?_
    refine lv_aload_n hx hb d_Rd_passWallEnds_43 rfl (lv_at hl 3 rfl) ?_
    refine va_get (D := D) (ci := 1) (v := .ref rx) (C := R_Rd) (T := T_Rd) (N := 13) hx hb hts i_Rd hown hK hP 0 rfl rfl 1 (by decide) (hts _ w_75) (fun _ h9 => h9) rfl d_Rd_passWallEnds_44 ?_
    refine va_alen hx hb hK hP 3 1 rfl rfl (v := 128) rfl d_Rd_passWallEnds_47 ?_
    refine lv_icmp_ge (tgt := 91) hx hb d_Rd_passWallEnds_48 (by decide) (fun c_4 => ?_) (fun c_4 => ?_)
    · exact fin _ _ _ _ _ d_Rd_passWallEnds_91 hP hS (by simp only [weS, weE, we2, we1, eg_1, eg_2, if_neg c_3, if_pos c_4])
    · refine lv_iload hx hb d_Rd_passWallEnds_51 (lv_at hl 0 rfl) ?_
      refine lv_aload_n hx hb d_Rd_passWallEnds_53 rfl (lv_at hl 3 rfl) ?_
      refine va_get (D := D) (ci := 1) (v := .ref rx) (C := R_Rd) (T := T_Rd) (N := 13) hx hb hts i_Rd hown hK hP 0 rfl rfl 1 (by decide) (hts _ w_75) (fun _ h9 => h9) rfl d_Rd_passWallEnds_54 ?_
      refine va_alen hx hb hK hP 3 1 rfl rfl (v := 128) rfl d_Rd_passWallEnds_57 ?_
      refine lv_icmp_ge (tgt := 91) hx hb d_Rd_passWallEnds_58 (by decide) (fun c_5 => ?_) (fun c_5 => ?_)
      · exact fin _ _ _ _ _ d_Rd_passWallEnds_91 hP hS (by simp only [weS, weE, we2, we1, eg_1, eg_2, if_neg c_3, if_neg c_4, if_pos c_5])
      · refine lv_aload_n hx hb d_Rd_passWallEnds_61 rfl (lv_at hl 4 rfl) ?_
        refine lv_aload_n hx hb d_Rd_passWallEnds_62 rfl (lv_at hl 3 rfl) ?_
        refine va_get (D := D) (ci := 1) (v := .ref rx) (C := R_Rd) (T := T_Rd) (N := 13) hx hb hts i_Rd hown hK hP 0 rfl rfl 1 (by decide) (hts _ w_75) (fun _ h9 => h9) rfl d_Rd_passWallEnds_63 ?_
        refine lv_iload_n hx hb d_Rd_passWallEnds_66 rfl (lv_at hl 2 rfl) ?_
        refine va_iald hx hb hK hP 3 1 rfl rfl (in_a (n := 128) (by rw [← eg_1]; exact sm_nn _ _ _ _) c_4 (by decide) (by decide)) d_Rd_passWallEnds_67 ?_
        refine lv_aload_n hx hb d_Rd_passWallEnds_68 rfl (lv_at hl 3 rfl) ?_
        refine va_get (D := D) (ci := 1) (v := .ref ry) (C := R_Rd) (T := T_Rd) (N := 13) hx hb hts i_Rd hown hK hP 0 rfl rfl 2 (by decide) (hts _ w_76) (fun _ h9 => h9) rfl d_Rd_passWallEnds_69 ?_
        refine lv_iload_n hx hb d_Rd_passWallEnds_72 rfl (lv_at hl 2 rfl) ?_
        refine va_iald hx hb hK hP 4 1 rfl rfl (in_a (n := 128) (by rw [← eg_1]; exact sm_nn _ _ _ _) c_4 (by decide) (by decide)) d_Rd_passWallEnds_73 ?_
        refine lv_aload_n hx hb d_Rd_passWallEnds_74 rfl (lv_at hl 3 rfl) ?_
        refine va_get (D := D) (ci := 1) (v := .ref rx) (C := R_Rd) (T := T_Rd) (N := 13) hx hb hts i_Rd hown hK hP 0 rfl rfl 1 (by decide) (hts _ w_75) (fun _ h9 => h9) rfl d_Rd_passWallEnds_75 ?_
        refine lv_iload hx hb d_Rd_passWallEnds_78 (lv_at hl 0 rfl) ?_
        refine va_iald hx hb hK hP 3 1 rfl rfl (in_a (n := 128) (by rw [← eg_2]; exact sm_nn _ _ _ _) c_5 (by decide) (by decide)) d_Rd_passWallEnds_80 ?_
        refine lv_aload_n hx hb d_Rd_passWallEnds_81 rfl (lv_at hl 3 rfl) ?_
        refine va_get (D := D) (ci := 1) (v := .ref ry) (C := R_Rd) (T := T_Rd) (N := 13) hx hb hts i_Rd hown hK hP 0 rfl rfl 2 (by decide) (hts _ w_76) (fun _ h9 => h9) rfl d_Rd_passWallEnds_82 ?_
        refine lv_iload hx hb d_Rd_passWallEnds_85 (lv_at hl 0 rfl) ?_
        refine va_iald hx hb hK hP 4 1 rfl rfl (in_a (n := 128) (by rw [← eg_2]; exact sm_nn _ _ _ _) c_5 (by decide) (by decide)) d_Rd_passWallEnds_87 ?_
        refine pz_v (pz_rV (d := 1) (As := [.int (xs g_1.1.toNatClampNeg), .int (ys g_1.1.toNatClampNeg), .int (xs g_2.1.toNatClampNeg), .int (ys g_2.1.toNatClampNeg)]) (rest := []) X hN (c_Sp_lay l D cB cI cS h1 a4 (xs g_1.1.toNatClampNeg) (ys g_1.1.toNatClampNeg) (xs g_2.1.toNatClampNeg) (ys g_2.1.toNatClampNeg) _) k_Sp_lay w_277 ⟨by decide, by decide⟩ hK hP hD [5] rfl rfl 5 rfl rfl rfl rfl hl.1 rfl (Nat.le_of_ble_eq_true rfl) d_Rd_passWallEnds_88 ⟨Nat.zero_le _, Nat.zero_le _⟩) hP hD hS hA [5] rfl [h1] rfl rfl (fun H locs hP hD hS => ?_)
        have hP : va_P D cls ([(r0, .inr (1, [.ref rw, .ref rx, .ref ry, .ref rs, .int nv, .int nt, .int ns, .int nw, .int wa, .int g_2.2.1, .int g_2.2.2.1, .int g_2.2.2.2, .int fw])), (rw, .inr (3, [.ref rb, .int (nI n)])), (rb, .inl (cB, 8192, .inl f)), (rx, .inl (cI, 128, .inl xs)), (ry, .inl (cI, 128, .inl ys)), (h1, .inr (4, [.int (xs g_1.1.toNatClampNeg), .int (ys g_1.1.toNatClampNeg), .int (xs g_2.1.toNatClampNeg), .int (ys g_2.1.toNatClampNeg), .int (mnI (xs g_1.1.toNatClampNeg) (xs g_2.1.toNatClampNeg)), .int (mxI (xs g_1.1.toNatClampNeg) (xs g_2.1.toNatClampNeg)), .int (mnI (ys g_1.1.toNatClampNeg) (ys g_2.1.toNatClampNeg)), .int (mxI (ys g_1.1.toNatClampNeg) (ys g_2.1.toNatClampNeg))]))]) H := hP
        have hD : va_D A ([(r0, .inr (1, [.ref rw, .ref rx, .ref ry, .ref rs, .int nv, .int nt, .int ns, .int nw, .int wa, .int g_2.2.1, .int g_2.2.2.1, .int g_2.2.2.2, .int fw])), (rw, .inr (3, [.ref rb, .int (nI n)])), (rb, .inl (cB, 8192, .inl f)), (rx, .inl (cI, 128, .inl xs)), (ry, .inl (cI, 128, .inl ys)), (h1, .inr (4, [.int (xs g_1.1.toNatClampNeg), .int (ys g_1.1.toNatClampNeg), .int (xs g_2.1.toNatClampNeg), .int (ys g_2.1.toNatClampNeg), .int (mnI (xs g_1.1.toNatClampNeg) (xs g_2.1.toNatClampNeg)), .int (mxI (xs g_1.1.toNatClampNeg) (xs g_2.1.toNatClampNeg)), .int (mnI (ys g_1.1.toNatClampNeg) (ys g_2.1.toNatClampNeg)), .int (mxI (ys g_1.1.toNatClampNeg) (ys g_2.1.toNatClampNeg))]))]) := hD
        exact fin _ _ _ _ _ d_Rd_passWallEnds_91 hP hS (by simp only [weS, weE, we2, we1, eg_1, eg_2, if_neg c_3, if_neg c_4, if_neg c_5])
  · refine lv_aload_n hx hb d_Rd_passWallEnds_36 rfl (lv_at hl 3 rfl) ?_
    refine lv_iconst (v := 3) hx hb d_Rd_passWallEnds_37 (by decide) ?_
    refine lv_iload_n hx hb d_Rd_passWallEnds_38 rfl (lv_at hl 1 rfl) ?_
    refine pz_v (pz_rV (d := 0) (As := [.int 3, .int g_1.2.1]) (rest := []) X hN (c_Rd_fail l D cB cI cS r0 rw rx ry rs nv nt ns nw wa fw g_2.2 3 g_1.2.1 _) k_Rd_fail w_232 ⟨by decide, by decide⟩ hK hP hD [0] rfl rfl 0 rfl rfl rfl rfl hl.1 rfl (Nat.le_of_ble_eq_true rfl) d_Rd_passWallEnds_39 ⟨Nat.zero_le _, Nat.zero_le _⟩) hP hD hS hA [0] rfl [r0] rfl rfl (fun H locs hP hD hS => ?_)
    have hP : va_P D cls ([(r0, .inr (1, [.ref rw, .ref rx, .ref ry, .ref rs, .int nv, .int nt, .int ns, .int nw, .int wa, .int ((fl g_2.2 3 g_1.2.1).1), .int ((fl g_2.2 3 g_1.2.1).2.1), .int ((fl g_2.2 3 g_1.2.1).2.2), .int fw])), (rw, .inr (3, [.ref rb, .int (nI n)])), (rb, .inl (cB, 8192, .inl f)), (rx, .inl (cI, 128, .inl xs)), (ry, .inl (cI, 128, .inl ys)), (h1, .inr (4, [.int a4.1, .int a4.2.1, .int a4.2.2.1, .int a4.2.2.2, .int (mnI a4.1 a4.2.2.1), .int (mxI a4.1 a4.2.2.1), .int (mnI a4.2.1 a4.2.2.2), .int (mxI a4.2.1 a4.2.2.2)]))]) H := hP
    have hD : va_D A ([(r0, .inr (1, [.ref rw, .ref rx, .ref ry, .ref rs, .int nv, .int nt, .int ns, .int nw, .int wa, .int ((fl g_2.2 3 g_1.2.1).1), .int ((fl g_2.2 3 g_1.2.1).2.1), .int ((fl g_2.2 3 g_1.2.1).2.2), .int fw])), (rw, .inr (3, [.ref rb, .int (nI n)])), (rb, .inl (cB, 8192, .inl f)), (rx, .inl (cI, 128, .inl xs)), (ry, .inl (cI, 128, .inl ys)), (h1, .inr (4, [.int a4.1, .int a4.2.1, .int a4.2.2.1, .int a4.2.2.2, .int (mnI a4.1 a4.2.2.1), .int (mxI a4.1 a4.2.2.1), .int (mnI a4.2.1 a4.2.2.2), .int (mxI a4.2.1 a4.2.2.2)]))]) := hD
    refine lv_iload_n hx hb d_Rd_passWallEnds_42 rfl (lv_at hl 2 rfl) ?_
    refine lv_aload_n hx hb d_Rd_passWallEnds_43 rfl (lv_at hl 3 rfl) ?_
    refine va_get (D := D) (ci := 1) (v := .ref rx) (C := R_Rd) (T := T_Rd) (N := 13) hx hb hts i_Rd hown hK hP 0 rfl rfl 1 (by decide) (hts _ w_75) (fun _ h9 => h9) rfl d_Rd_passWallEnds_44 ?_
    refine va_alen hx hb hK hP 3 1 rfl rfl (v := 128) rfl d_Rd_passWallEnds_47 ?_
    refine lv_icmp_ge (tgt := 91) hx hb d_Rd_passWallEnds_48 (by decide) (fun c_6 => ?_) (fun c_6 => ?_)
    · exact fin _ _ _ _ _ d_Rd_passWallEnds_91 hP hS (by simp only [weS, weE, we2, we1, eg_1, eg_2, if_pos c_3, if_pos c_6])
    · refine lv_iload hx hb d_Rd_passWallEnds_51 (lv_at hl 0 rfl) ?_
      refine lv_aload_n hx hb d_Rd_passWallEnds_53 rfl (lv_at hl 3 rfl) ?_
      refine va_get (D := D) (ci := 1) (v := .ref rx) (C := R_Rd) (T := T_Rd) (N := 13) hx hb hts i_Rd hown hK hP 0 rfl rfl 1 (by decide) (hts _ w_75) (fun _ h9 => h9) rfl d_Rd_passWallEnds_54 ?_
      refine va_alen hx hb hK hP 3 1 rfl rfl (v := 128) rfl d_Rd_passWallEnds_57 ?_
      refine lv_icmp_ge (tgt := 91) hx hb d_Rd_passWallEnds_58 (by decide) (fun c_7 => ?_) (fun c_7 => ?_)
      · exact fin _ _ _ _ _ d_Rd_passWallEnds_91 hP hS (by simp only [weS, weE, we2, we1, eg_1, eg_2, if_pos c_3, if_neg c_6, if_pos c_7])
      · refine lv_aload_n hx hb d_Rd_passWallEnds_61 rfl (lv_at hl 4 rfl) ?_
        refine lv_aload_n hx hb d_Rd_passWallEnds_62 rfl (lv_at hl 3 rfl) ?_
        refine va_get (D := D) (ci := 1) (v := .ref rx) (C := R_Rd) (T := T_Rd) (N := 13) hx hb hts i_Rd hown hK hP 0 rfl rfl 1 (by decide) (hts _ w_75) (fun _ h9 => h9) rfl d_Rd_passWallEnds_63 ?_
        refine lv_iload_n hx hb d_Rd_passWallEnds_66 rfl (lv_at hl 2 rfl) ?_
        refine va_iald hx hb hK hP 3 1 rfl rfl (in_a (n := 128) (by rw [← eg_1]; exact sm_nn _ _ _ _) c_6 (by decide) (by decide)) d_Rd_passWallEnds_67 ?_
        refine lv_aload_n hx hb d_Rd_passWallEnds_68 rfl (lv_at hl 3 rfl) ?_
        refine va_get (D := D) (ci := 1) (v := .ref ry) (C := R_Rd) (T := T_Rd) (N := 13) hx hb hts i_Rd hown hK hP 0 rfl rfl 2 (by decide) (hts _ w_76) (fun _ h9 => h9) rfl d_Rd_passWallEnds_69 ?_
        refine lv_iload_n hx hb d_Rd_passWallEnds_72 rfl (lv_at hl 2 rfl) ?_
        refine va_iald hx hb hK hP 4 1 rfl rfl (in_a (n := 128) (by rw [← eg_1]; exact sm_nn _ _ _ _) c_6 (by decide) (by decide)) d_Rd_passWallEnds_73 ?_
        refine lv_aload_n hx hb d_Rd_passWallEnds_74 rfl (lv_at hl 3 rfl) ?_
        refine va_get (D := D) (ci := 1) (v := .ref rx) (C := R_Rd) (T := T_Rd) (N := 13) hx hb hts i_Rd hown hK hP 0 rfl rfl 1 (by decide) (hts _ w_75) (fun _ h9 => h9) rfl d_Rd_passWallEnds_75 ?_
        refine lv_iload hx hb d_Rd_passWallEnds_78 (lv_at hl 0 rfl) ?_
        refine va_iald hx hb hK hP 3 1 rfl rfl (in_a (n := 128) (by rw [← eg_2]; exact sm_nn _ _ _ _) c_7 (by decide) (by decide)) d_Rd_passWallEnds_80 ?_
        refine lv_aload_n hx hb d_Rd_passWallEnds_81 rfl (lv_at hl 3 rfl) ?_
        refine va_get (D := D) (ci := 1) (v := .ref ry) (C := R_Rd) (T := T_Rd) (N := 13) hx hb hts i_Rd hown hK hP 0 rfl rfl 2 (by decide) (hts _ w_76) (fun _ h9 => h9) rfl d_Rd_passWallEnds_82 ?_
        refine lv_iload hx hb d_Rd_passWallEnds_85 (lv_at hl 0 rfl) ?_
        refine va_iald hx hb hK hP 4 1 rfl rfl (in_a (n := 128) (by rw [← eg_2]; exact sm_nn _ _ _ _) c_7 (by decide) (by decide)) d_Rd_passWallEnds_87 ?_
        refine pz_v (pz_rV (d := 1) (As := [.int (xs g_1.1.toNatClampNeg), .int (ys g_1.1.toNatClampNeg), .int (xs g_2.1.toNatClampNeg), .int (ys g_2.1.toNatClampNeg)]) (rest := []) X hN (c_Sp_lay l D cB cI cS h1 a4 (xs g_1.1.toNatClampNeg) (ys g_1.1.toNatClampNeg) (xs g_2.1.toNatClampNeg) (ys g_2.1.toNatClampNeg) _) k_Sp_lay w_277 ⟨by decide, by decide⟩ hK hP hD [5] rfl rfl 5 rfl rfl rfl rfl hl.1 rfl (Nat.le_of_ble_eq_true rfl) d_Rd_passWallEnds_88 ⟨Nat.zero_le _, Nat.zero_le _⟩) hP hD hS hA [5] rfl [h1] rfl rfl (fun H locs hP hD hS => ?_)
        have hP : va_P D cls ([(r0, .inr (1, [.ref rw, .ref rx, .ref ry, .ref rs, .int nv, .int nt, .int ns, .int nw, .int wa, .int ((fl g_2.2 3 g_1.2.1).1), .int ((fl g_2.2 3 g_1.2.1).2.1), .int ((fl g_2.2 3 g_1.2.1).2.2), .int fw])), (rw, .inr (3, [.ref rb, .int (nI n)])), (rb, .inl (cB, 8192, .inl f)), (rx, .inl (cI, 128, .inl xs)), (ry, .inl (cI, 128, .inl ys)), (h1, .inr (4, [.int (xs g_1.1.toNatClampNeg), .int (ys g_1.1.toNatClampNeg), .int (xs g_2.1.toNatClampNeg), .int (ys g_2.1.toNatClampNeg), .int (mnI (xs g_1.1.toNatClampNeg) (xs g_2.1.toNatClampNeg)), .int (mxI (xs g_1.1.toNatClampNeg) (xs g_2.1.toNatClampNeg)), .int (mnI (ys g_1.1.toNatClampNeg) (ys g_2.1.toNatClampNeg)), .int (mxI (ys g_1.1.toNatClampNeg) (ys g_2.1.toNatClampNeg))]))]) H := hP
        have hD : va_D A ([(r0, .inr (1, [.ref rw, .ref rx, .ref ry, .ref rs, .int nv, .int nt, .int ns, .int nw, .int wa, .int ((fl g_2.2 3 g_1.2.1).1), .int ((fl g_2.2 3 g_1.2.1).2.1), .int ((fl g_2.2 3 g_1.2.1).2.2), .int fw])), (rw, .inr (3, [.ref rb, .int (nI n)])), (rb, .inl (cB, 8192, .inl f)), (rx, .inl (cI, 128, .inl xs)), (ry, .inl (cI, 128, .inl ys)), (h1, .inr (4, [.int (xs g_1.1.toNatClampNeg), .int (ys g_1.1.toNatClampNeg), .int (xs g_2.1.toNatClampNeg), .int (ys g_2.1.toNatClampNeg), .int (mnI (xs g_1.1.toNatClampNeg) (xs g_2.1.toNatClampNeg)), .int (mxI (xs g_1.1.toNatClampNeg) (xs g_2.1.toNatClampNeg)), .int (mnI (ys g_1.1.toNatClampNeg) (ys g_2.1.toNatClampNeg)), .int (mxI (ys g_1.1.toNatClampNeg) (ys g_2.1.toNatClampNeg))]))]) := hD
        exact fin _ _ _ _ _ d_Rd_passWallEnds_91 hP hS (by simp only [weS, weE, we2, we1, eg_1, eg_2, if_pos c_3, if_neg c_6, if_neg c_7])

set_option maxRecDepth 100000 in
set_option maxHeartbeats 4000000 in
/-- Reader.passWalls -/
theorem c_Rd_passWalls (l : Launch) (D : va_G) (cB cI cS : ClassId) (r0 rw rx ry rs rb : Nat) (nv nt ns nw wa fw : Int32) (q : S3) (f : Nat → Int32) (n : Nat) (xs ys : Nat → Int32) (ad : Nat → Nat) (sp : Nat → E4) (hn : n ≤ 8192) : mV l y_Rd_passWalls b_Rd_passWalls 3 (none) 4 D cls [(cB, .byte), (cI, .int), (cS, .object "MapLumps$Span")] [.ref r0] ([(r0, .inr (1, [.ref rw, .ref rx, .ref ry, .ref rs, .int nv, .int nt, .int ns, .int nw, .int wa, .int q.1, .int q.2.1, .int q.2.2, .int fw])), (rw, .inr (3, [.ref rb, .int (nI n)])), (rb, .inl (cB, 8192, .inl f)), (rx, .inl (cI, 128, .inl xs)), (ry, .inl (cI, 128, .inl ys)), (rs, .inl (cS, 128, .inr (.inr (.inr (.inr (fun i => some (ad i)))))))] ++ spw ad sp) ([(r0, .inr (1, [.ref rw, .ref rx, .ref ry, .ref rs, .int nv, .int nt, .int ns, .int nw, .int q.1, .int ((wlp f n nv nt ns nw xs ys 128 0 (q, sp)).1.1), .int ((wlp f n nv nt ns nw xs ys 128 0 (q, sp)).1.2.1), .int ((wlp f n nv nt ns nw xs ys 128 0 (q, sp)).1.2.2), .int fw])), (rw, .inr (3, [.ref rb, .int (nI n)])), (rb, .inl (cB, 8192, .inl f)), (rx, .inl (cI, 128, .inl xs)), (ry, .inl (cI, 128, .inl ys)), (rs, .inl (cS, 128, .inr (.inr (.inr (.inr (fun i => some (ad i)))))))] ++ spw ad (wlp f n nv nt ns nw xs ys 128 0 (q, sp)).2) := by
  refine pz_openV (by decide) (Nat.le_of_ble_eq_true rfl) ?_
  intro p e s m below meth c A ls Q X hN hK hP hD hS hA hl fin
  obtain ⟨hx, hb, hml, hown, hts⟩ := id X
  have hl : lv_has ls 3 [(0, .ref r0)] := hl
  refine lv_aload_n hx hb d_Rd_passWalls_0 rfl (lv_at hl 0 rfl) ?_
  refine lv_aload_n hx hb d_Rd_passWalls_1 rfl (lv_at hl 0 rfl) ?_
  refine va_get (D := D) (ci := 1) (v := .int q.1) (C := R_Rd) (T := T_Rd) (N := 13) hx hb hts i_Rd hown hK hP 0 rfl rfl 9 (by decide) (hts _ w_83) (fun _ h9 => h9) rfl d_Rd_passWalls_2 ?_
  refine va_put (D := D) (ci := 1) (v := .int q.1) (ty := (.int)) (C := R_Rd) (T := T_Rd) (N := 13) hx hb hts i_Rd ty_Rd tyok_Rd nm_Rd hown hK hP hD hS 0 rfl rfl 8 (by decide) (hts _ w_82) (fun _ h9 => h9) rfl (by decide +kernel) rfl rfl (Nat.le_of_ble_eq_true rfl) d_Rd_passWalls_5 (fun H locs hP hD hS => ?_)
  have hP : va_P D cls ([(r0, .inr (1, [.ref rw, .ref rx, .ref ry, .ref rs, .int nv, .int nt, .int ns, .int nw, .int q.1, .int q.1, .int q.2.1, .int q.2.2, .int fw])), (rw, .inr (3, [.ref rb, .int (nI n)])), (rb, .inl (cB, 8192, .inl f)), (rx, .inl (cI, 128, .inl xs)), (ry, .inl (cI, 128, .inl ys)), (rs, .inl (cS, 128, .inr (.inr (.inr (.inr (fun i => some (ad i)))))))] ++ spw ad sp) H := hP
  have hD : va_D A ([(r0, .inr (1, [.ref rw, .ref rx, .ref ry, .ref rs, .int nv, .int nt, .int ns, .int nw, .int q.1, .int q.1, .int q.2.1, .int q.2.2, .int fw])), (rw, .inr (3, [.ref rb, .int (nI n)])), (rb, .inl (cB, 8192, .inl f)), (rx, .inl (cI, 128, .inl xs)), (ry, .inl (cI, 128, .inl ys)), (rs, .inl (cS, 128, .inr (.inr (.inr (.inr (fun i => some (ad i)))))))] ++ spw ad sp) := hD
  refine lv_iconst (v := 0) hx hb d_Rd_passWalls_8 (by decide) ?_
  refine lv_istore_n (lv' := [(1, .int 0), (0, .ref r0)]) hx hb d_Rd_passWalls_9 rfl hl (by decide) rfl (fun ls hl => ?_)
  have lp_7 : ∀ (j7 : Nat) (k : Nat) (z : SW) (ls : Array Slot) (H : Heap) (locs : List Loc), j7 + k = 128 → wlp f n nv nt ns nw xs ys 128 0 (q, sp) = wlp f n nv nt ns nw xs ys j7 k z → va_P D cls ([(r0, .inr (1, [.ref rw, .ref rx, .ref ry, .ref rs, .int nv, .int nt, .int ns, .int nw, .int q.1, .int z.1.1, .int z.1.2.1, .int z.1.2.2, .int fw])), (rw, .inr (3, [.ref rb, .int (nI n)])), (rb, .inl (cB, 8192, .inl f)), (rx, .inl (cI, 128, .inl xs)), (ry, .inl (cI, 128, .inl ys)), (rs, .inl (cS, 128, .inr (.inr (.inr (.inr (fun i => some (ad i)))))))] ++ spw ad z.2) H → va_D A ([(r0, .inr (1, [.ref rw, .ref rx, .ref ry, .ref rs, .int nv, .int nt, .int ns, .int nw, .int q.1, .int z.1.1, .int z.1.2.1, .int z.1.2.2, .int fw])), (rw, .inr (3, [.ref rb, .int (nI n)])), (rb, .inl (cB, 8192, .inl f)), (rx, .inl (cI, 128, .inl xs)), (ry, .inl (cI, 128, .inl ys)), (rs, .inl (cS, 128, .inr (.inr (.inr (.inr (fun i => some (ad i)))))))] ++ spw ad z.2) → va_S A s.heap H locs → lv_has ls 3 [(0, .ref r0), (1, .int (nI k))] → W p l e (rmd 4) s m ([.ref r0] : List Value).toArray below meth c H locs 0 0 Q (F0 m 10 ls []) := by
    intro j7
    induction j7 with
    | zero =>
      intro k z ls H locs hi he hP hD hS hl
      refine lv_iload_n hx hb d_Rd_passWalls_10 rfl (lv_at hl 1 rfl) ?_
      refine lv_aload_n hx hb d_Rd_passWalls_11 rfl (lv_at hl 0 rfl) ?_
      refine va_get (D := D) (ci := 1) (v := .int nw) (C := R_Rd) (T := T_Rd) (N := 13) hx hb hts i_Rd hown hK hP 0 rfl rfl 7 (by decide) (hts _ w_81) (fun _ h9 => h9) rfl d_Rd_passWalls_12 ?_
      refine lv_icmp_ge (tgt := 136) hx hb d_Rd_passWalls_15 (by decide) (fun c_1 => ?_) (fun c_1 => ?_)
      · exact fin _ _ _ _ _ d_Rd_passWalls_136 hP hS (by rw [he]; simp only [wlp, if_pos c_1])
      · refine lv_iload_n hx hb d_Rd_passWalls_18 rfl (lv_at hl 1 rfl) ?_
        refine lv_aload_n hx hb d_Rd_passWalls_19 rfl (lv_at hl 0 rfl) ?_
        refine va_get (D := D) (ci := 1) (v := .ref rs) (C := R_Rd) (T := T_Rd) (N := 13) hx hb hts i_Rd hown hK hP 0 rfl rfl 3 (by decide) (hts _ w_77) (fun _ h9 => h9) rfl d_Rd_passWalls_20 ?_
        refine va_alen hx hb hK hP 5 2 rfl rfl (v := 128) rfl d_Rd_passWalls_23 ?_
        refine lv_icmp_ge (tgt := 136) hx hb d_Rd_passWalls_24 (by decide) (fun c_2 => ?_) (fun c_2 => ?_)
        · exact fin _ _ _ _ _ d_Rd_passWalls_136 hP hS (by rw [he]; simp only [wlp, if_neg c_1, if_pos c_2])
        · exact (c_2 (show nI 128 ≤ nI k by rw [nI_leI (by omega) (by omega)]; omega)).elim
    | succ j7 ih7 =>
      intro k z ls H locs hi he hP hD hS hl
      refine lv_iload_n hx hb d_Rd_passWalls_10 rfl (lv_at hl 1 rfl) ?_
      refine lv_aload_n hx hb d_Rd_passWalls_11 rfl (lv_at hl 0 rfl) ?_
      refine va_get (D := D) (ci := 1) (v := .int nw) (C := R_Rd) (T := T_Rd) (N := 13) hx hb hts i_Rd hown hK hP 0 rfl rfl 7 (by decide) (hts _ w_81) (fun _ h9 => h9) rfl d_Rd_passWalls_12 ?_
      refine lv_icmp_ge (tgt := 136) hx hb d_Rd_passWalls_15 (by decide) (fun c_3 => ?_) (fun c_3 => ?_)
      · exact fin _ _ _ _ _ d_Rd_passWalls_136 hP hS (by rw [he]; simp only [wlp, if_pos c_3])
      · refine lv_iload_n hx hb d_Rd_passWalls_18 rfl (lv_at hl 1 rfl) ?_
        refine lv_aload_n hx hb d_Rd_passWalls_19 rfl (lv_at hl 0 rfl) ?_
        refine va_get (D := D) (ci := 1) (v := .ref rs) (C := R_Rd) (T := T_Rd) (N := 13) hx hb hts i_Rd hown hK hP 0 rfl rfl 3 (by decide) (hts _ w_77) (fun _ h9 => h9) rfl d_Rd_passWalls_20 ?_
        refine va_alen hx hb hK hP 5 2 rfl rfl (v := 128) rfl d_Rd_passWalls_23 ?_
        refine lv_icmp_ge (tgt := 136) hx hb d_Rd_passWalls_24 (by decide) (fun c_4 => ?_) (fun c_4 => ?_)
        · exact absurd c_4 (show ¬ nI 128 ≤ nI k by rw [nI_leI (by omega) (by omega)]; omega)
        · refine lv_aload_n hx hb d_Rd_passWalls_27 rfl (lv_at hl 0 rfl) ?_
          refine va_get (D := D) (ci := 1) (v := .int z.1.2.1) (C := R_Rd) (T := T_Rd) (N := 13) hx hb hts i_Rd hown hK hP 0 rfl rfl 10 (by decide) (hts _ w_84) (fun _ h9 => h9) rfl d_Rd_passWalls_28 ?_
          refine lv_if_ne (tgt := 136) hx hb d_Rd_passWalls_31 (by decide) (fun c_5 => ?_) (fun c_5 => ?_)
          · exact fin _ _ _ _ _ d_Rd_passWalls_136 hP hS (by rw [he]; simp only [wlp, if_neg c_3, if_neg c_4, if_neg c_5])
          · refine lv_aload_n hx hb d_Rd_passWalls_34 rfl (lv_at hl 0 rfl) ?_
            refine lv_aload_n hx hb d_Rd_passWalls_35 rfl (lv_at hl 0 rfl) ?_
            refine va_get (D := D) (ci := 1) (v := .ref rs) (C := R_Rd) (T := T_Rd) (N := 13) hx hb hts i_Rd hown hK hP 0 rfl rfl 3 (by decide) (hts _ w_77) (fun _ h9 => h9) rfl d_Rd_passWalls_36 ?_
            refine lv_iload_n hx hb d_Rd_passWalls_39 rfl (lv_at hl 1 rfl) ?_
            refine va_aldq hx hb hK hP 5 2 rfl rfl (in_n (show k < 128 by omega) (by decide)) d_Rd_passWalls_40 ?_
            rw [nI_clamp (show k < 2 ^ 31 by omega)]
            refine W.eq (g2 := F0 m 41 ls [.ref (ad k), .ref r0]) rfl ?_
            refine pz_v (pz_rV (d := 3) (As := [.ref (ad k)]) (rest := []) X hN (c_Rd_passWallEnds l D cB cI cS r0 rw rx ry rs rb nv nt ns nw q.1 fw z.1 f n xs ys (ad k) (z.2 k) hn _) k_Rd_passWallEnds w_273 ⟨by decide, by decide⟩ hK hP hD [0, 1, 2, 3, 4, 6 + k] (spw_hC6 (show k < 128 by omega)) (nd6 _) 0 rfl rfl rfl rfl hl.1 rfl (Nat.le_of_ble_eq_true rfl) d_Rd_passWalls_41 ⟨Nat.zero_le _, Nat.zero_le _⟩) hP hD hS hA [0, 1, 2, 3, 4, 6 + k] (spw_hC6 (show k < 128 by omega)) [r0, rw, rb, rx, ry, ad k] rfl rfl (fun H locs hP hD hS => ?_)
            generalize eg_6 : weS f n nv z.1 = g_6 at hP hD ⊢
            rw [spw_put6 (weE f n nv xs ys z.1 (z.2 k)) (show k < 128 by omega)] at hP hD
            have hP : va_P D cls ([(r0, .inr (1, [.ref rw, .ref rx, .ref ry, .ref rs, .int nv, .int nt, .int ns, .int nw, .int q.1, .int g_6.1, .int g_6.2.1, .int g_6.2.2, .int fw])), (rw, .inr (3, [.ref rb, .int (nI n)])), (rb, .inl (cB, 8192, .inl f)), (rx, .inl (cI, 128, .inl xs)), (ry, .inl (cI, 128, .inl ys)), (rs, .inl (cS, 128, .inr (.inr (.inr (.inr (fun i => some (ad i)))))))] ++ spw ad (pu z.2 k (weE f n nv xs ys z.1 (z.2 k)))) H := hP
            have hD : va_D A ([(r0, .inr (1, [.ref rw, .ref rx, .ref ry, .ref rs, .int nv, .int nt, .int ns, .int nw, .int q.1, .int g_6.1, .int g_6.2.1, .int g_6.2.2, .int fw])), (rw, .inr (3, [.ref rb, .int (nI n)])), (rb, .inl (cB, 8192, .inl f)), (rx, .inl (cI, 128, .inl xs)), (ry, .inl (cI, 128, .inl ys)), (rs, .inl (cS, 128, .inr (.inr (.inr (.inr (fun i => some (ad i)))))))] ++ spw ad (pu z.2 k (weE f n nv xs ys z.1 (z.2 k)))) := hD
            refine lv_aload_n hx hb d_Rd_passWalls_44 rfl (lv_at hl 0 rfl) ?_
            refine lv_iconst (v := 0) hx hb d_Rd_passWalls_45 (by decide) ?_
            refine lv_aload_n hx hb d_Rd_passWalls_46 rfl (lv_at hl 0 rfl) ?_
            refine va_get (D := D) (ci := 1) (v := .int ns) (C := R_Rd) (T := T_Rd) (N := 13) hx hb hts i_Rd hown hK hP 0 rfl rfl 6 (by decide) (hts _ w_80) (fun _ h9 => h9) rfl d_Rd_passWalls_47 ?_
            refine lv_iconst (v := 1) hx hb d_Rd_passWalls_50 (by decide) ?_
            refine lv_isub hx hb d_Rd_passWalls_51 ?_
            refine pz_i (pz_rV (d := 2) (As := [.int 0, .int (ns - 1)]) (rest := []) X hN (c_Rd_small l D cB cI cS r0 rw rx ry rs rb nv nt ns nw q.1 fw g_6 f n 0 (ns - 1) hn _) k_Rd_small w_236 ⟨by decide, by decide⟩ hK hP hD [0, 1, 2] rfl rfl 0 rfl rfl rfl rfl hl.1 rfl (Nat.le_of_ble_eq_true rfl) d_Rd_passWalls_52 ⟨Nat.zero_le _, Nat.zero_le _⟩) hP hD hS hA [0, 1, 2] rfl [r0, rw, rb] rfl rfl (fun H locs hP hD hS => ?_)
            generalize eg_7 : sm f n g_6 0 (ns - 1) = g_7 at hP hD ⊢
            have hP : va_P D cls ([(r0, .inr (1, [.ref rw, .ref rx, .ref ry, .ref rs, .int nv, .int nt, .int ns, .int nw, .int q.1, .int g_7.2.1, .int g_7.2.2.1, .int g_7.2.2.2, .int fw])), (rw, .inr (3, [.ref rb, .int (nI n)])), (rb, .inl (cB, 8192, .inl f)), (rx, .inl (cI, 128, .inl xs)), (ry, .inl (cI, 128, .inl ys)), (rs, .inl (cS, 128, .inr (.inr (.inr (.inr (fun i => some (ad i)))))))] ++ spw ad (pu z.2 k (weE f n nv xs ys z.1 (z.2 k)))) H := hP
            have hD : va_D A ([(r0, .inr (1, [.ref rw, .ref rx, .ref ry, .ref rs, .int nv, .int nt, .int ns, .int nw, .int q.1, .int g_7.2.1, .int g_7.2.2.1, .int g_7.2.2.2, .int fw])), (rw, .inr (3, [.ref rb, .int (nI n)])), (rb, .inl (cB, 8192, .inl f)), (rx, .inl (cI, 128, .inl xs)), (ry, .inl (cI, 128, .inl ys)), (rs, .inl (cS, 128, .inr (.inr (.inr (.inr (fun i => some (ad i)))))))] ++ spw ad (pu z.2 k (weE f n nv xs ys z.1 (z.2 k)))) := hD
            refine lv_pop hx hb d_Rd_passWalls_55 rfl ?_
            refine lv_aload_n hx hb d_Rd_passWalls_56 rfl (lv_at hl 0 rfl) ?_
            refine lv_aload_n hx hb d_Rd_passWalls_57 rfl (lv_at hl 0 rfl) ?_
            refine va_get (D := D) (ci := 1) (v := .int ns) (C := R_Rd) (T := T_Rd) (N := 13) hx hb hts i_Rd hown hK hP 0 rfl rfl 6 (by decide) (hts _ w_80) (fun _ h9 => h9) rfl d_Rd_passWalls_58 ?_
            refine lv_iconst (v := 1) hx hb d_Rd_passWalls_61 (by decide) ?_
            refine lv_isub hx hb d_Rd_passWalls_62 ?_
            refine pz_i (pz_rV (d := 2) (As := [.int (ns - 1)]) (rest := []) X hN (c_Rd_smallOrAbsent l D cB cI cS r0 rw rx ry rs rb nv nt ns nw q.1 fw g_7.2 f n (ns - 1) hn _) k_Rd_smallOrAbsent w_265 ⟨by decide, by decide⟩ hK hP hD [0, 1, 2] rfl rfl 0 rfl rfl rfl rfl hl.1 rfl (Nat.le_of_ble_eq_true rfl) d_Rd_passWalls_63 ⟨Nat.zero_le _, Nat.zero_le _⟩) hP hD hS hA [0, 1, 2] rfl [r0, rw, rb] rfl rfl (fun H locs hP hD hS => ?_)
            generalize eg_8 : sa f n g_7.2 (ns - 1) = g_8 at hP hD ⊢
            have hP : va_P D cls ([(r0, .inr (1, [.ref rw, .ref rx, .ref ry, .ref rs, .int nv, .int nt, .int ns, .int nw, .int q.1, .int g_8.2.1, .int g_8.2.2.1, .int g_8.2.2.2, .int fw])), (rw, .inr (3, [.ref rb, .int (nI n)])), (rb, .inl (cB, 8192, .inl f)), (rx, .inl (cI, 128, .inl xs)), (ry, .inl (cI, 128, .inl ys)), (rs, .inl (cS, 128, .inr (.inr (.inr (.inr (fun i => some (ad i)))))))] ++ spw ad (pu z.2 k (weE f n nv xs ys z.1 (z.2 k)))) H := hP
            have hD : va_D A ([(r0, .inr (1, [.ref rw, .ref rx, .ref ry, .ref rs, .int nv, .int nt, .int ns, .int nw, .int q.1, .int g_8.2.1, .int g_8.2.2.1, .int g_8.2.2.2, .int fw])), (rw, .inr (3, [.ref rb, .int (nI n)])), (rb, .inl (cB, 8192, .inl f)), (rx, .inl (cI, 128, .inl xs)), (ry, .inl (cI, 128, .inl ys)), (rs, .inl (cS, 128, .inr (.inr (.inr (.inr (fun i => some (ad i)))))))] ++ spw ad (pu z.2 k (weE f n nv xs ys z.1 (z.2 k)))) := hD
            refine lv_istore_n (lv' := [(2, .int g_8.1), (0, .ref r0), (1, .int (nI k))]) hx hb d_Rd_passWalls_66 rfl hl (by decide) rfl (fun ls hl => ?_)
            refine lv_aload_n hx hb d_Rd_passWalls_67 rfl (lv_at hl 1 rfl) ?_
            refine lv_aload_n hx hb d_Rd_passWalls_68 rfl (lv_at hl 1 rfl) ?_
            refine va_get (D := D) (ci := 1) (v := .int nt) (C := R_Rd) (T := T_Rd) (N := 13) hx hb hts i_Rd hown hK hP 0 rfl rfl 5 (by decide) (hts _ w_79) (fun _ h9 => h9) rfl d_Rd_passWalls_69 ?_
            refine lv_iconst (v := 1) hx hb d_Rd_passWalls_72 (by decide) ?_
            refine lv_isub hx hb d_Rd_passWalls_73 ?_
            refine pz_v (pz_rV (d := 3) (As := [.int (nt - 1)]) (rest := []) X hN (c_Rd_passWallTextures l D cB cI cS r0 rw rx ry rs rb nv nt ns nw q.1 fw g_8.2 f n (nt - 1) hn _) k_Rd_passWallTextures w_287 ⟨by decide, by decide⟩ hK hP hD [0, 1, 2] rfl rfl 0 rfl rfl rfl rfl hl.1 rfl (Nat.le_of_ble_eq_true rfl) d_Rd_passWalls_74 ⟨Nat.zero_le _, Nat.zero_le _⟩) hP hD hS hA [0, 1, 2] rfl [r0, rw, rb] rfl rfl (fun H locs hP hD hS => ?_)
            have hP : va_P D cls ([(r0, .inr (1, [.ref rw, .ref rx, .ref ry, .ref rs, .int nv, .int nt, .int ns, .int nw, .int q.1, .int ((wt3 f n (nt - 1) g_8.2).1), .int ((wt3 f n (nt - 1) g_8.2).2.1), .int ((wt3 f n (nt - 1) g_8.2).2.2), .int fw])), (rw, .inr (3, [.ref rb, .int (nI n)])), (rb, .inl (cB, 8192, .inl f)), (rx, .inl (cI, 128, .inl xs)), (ry, .inl (cI, 128, .inl ys)), (rs, .inl (cS, 128, .inr (.inr (.inr (.inr (fun i => some (ad i)))))))] ++ spw ad (pu z.2 k (weE f n nv xs ys z.1 (z.2 k)))) H := hP
            have hD : va_D A ([(r0, .inr (1, [.ref rw, .ref rx, .ref ry, .ref rs, .int nv, .int nt, .int ns, .int nw, .int q.1, .int ((wt3 f n (nt - 1) g_8.2).1), .int ((wt3 f n (nt - 1) g_8.2).2.1), .int ((wt3 f n (nt - 1) g_8.2).2.2), .int fw])), (rw, .inr (3, [.ref rb, .int (nI n)])), (rb, .inl (cB, 8192, .inl f)), (rx, .inl (cI, 128, .inl xs)), (ry, .inl (cI, 128, .inl ys)), (rs, .inl (cS, 128, .inr (.inr (.inr (.inr (fun i => some (ad i)))))))] ++ spw ad (pu z.2 k (weE f n nv xs ys z.1 (z.2 k)))) := hD
            refine lv_aload_n hx hb d_Rd_passWalls_77 rfl (lv_at hl 1 rfl) ?_
            refine lv_iload_n hx hb d_Rd_passWalls_78 rfl (lv_at hl 0 rfl) ?_
            refine lv_sipush (v := 255) hx hb d_Rd_passWalls_79 (by decide) ?_
            refine lv_icmp_ne (tgt := 89) hx hb d_Rd_passWalls_82 (by decide) (fun c_9 => ?_) (fun c_9 => ?_)
            · refine lv_aload_n hx hb d_Rd_passWalls_89 rfl (lv_at hl 1 rfl) ?_
              refine va_get (D := D) (ci := 1) (v := .int nt) (C := R_Rd) (T := T_Rd) (N := 13) hx hb hts i_Rd hown hK hP 0 rfl rfl 5 (by decide) (hts _ w_79) (fun _ h9 => h9) rfl d_Rd_passWalls_90 ?_
              refine lv_iconst (v := 1) hx hb d_Rd_passWalls_93 (by decide) ?_
              refine lv_isub hx hb d_Rd_passWalls_94 ?_
              refine pz_v (pz_rV (d := 3) (As := [.int (nt - 1)]) (rest := []) X hN (c_Rd_passWallTextures l D cB cI cS r0 rw rx ry rs rb nv nt ns nw q.1 fw (wt3 f n (nt - 1) g_8.2) f n (nt - 1) hn _) k_Rd_passWallTextures w_287 ⟨by decide, by decide⟩ hK hP hD [0, 1, 2] rfl rfl 0 rfl rfl rfl rfl hl.1 rfl (Nat.le_of_ble_eq_true rfl) d_Rd_passWalls_95 ⟨Nat.zero_le _, Nat.zero_le _⟩) hP hD hS hA [0, 1, 2] rfl [r0, rw, rb] rfl rfl (fun H locs hP hD hS => ?_)
              have hP : va_P D cls ([(r0, .inr (1, [.ref rw, .ref rx, .ref ry, .ref rs, .int nv, .int nt, .int ns, .int nw, .int q.1, .int ((wt3 f n (nt - 1) (wt3 f n (nt - 1) g_8.2)).1), .int ((wt3 f n (nt - 1) (wt3 f n (nt - 1) g_8.2)).2.1), .int ((wt3 f n (nt - 1) (wt3 f n (nt - 1) g_8.2)).2.2), .int fw])), (rw, .inr (3, [.ref rb, .int (nI n)])), (rb, .inl (cB, 8192, .inl f)), (rx, .inl (cI, 128, .inl xs)), (ry, .inl (cI, 128, .inl ys)), (rs, .inl (cS, 128, .inr (.inr (.inr (.inr (fun i => some (ad i)))))))] ++ spw ad (pu z.2 k (weE f n nv xs ys z.1 (z.2 k)))) H := hP
              have hD : va_D A ([(r0, .inr (1, [.ref rw, .ref rx, .ref ry, .ref rs, .int nv, .int nt, .int ns, .int nw, .int q.1, .int ((wt3 f n (nt - 1) (wt3 f n (nt - 1) g_8.2)).1), .int ((wt3 f n (nt - 1) (wt3 f n (nt - 1) g_8.2)).2.1), .int ((wt3 f n (nt - 1) (wt3 f n (nt - 1) g_8.2)).2.2), .int fw])), (rw, .inr (3, [.ref rb, .int (nI n)])), (rb, .inl (cB, 8192, .inl f)), (rx, .inl (cI, 128, .inl xs)), (ry, .inl (cI, 128, .inl ys)), (rs, .inl (cS, 128, .inr (.inr (.inr (.inr (fun i => some (ad i)))))))] ++ spw ad (pu z.2 k (weE f n nv xs ys z.1 (z.2 k)))) := hD
              refine lv_aload_n hx hb d_Rd_passWalls_98 rfl (lv_at hl 1 rfl) ?_
              refine lv_iconst (v := 0) hx hb d_Rd_passWalls_99 (by decide) ?_
              refine lv_sipush (v := 255) hx hb d_Rd_passWalls_100 (by decide) ?_
              refine pz_i (pz_rV (d := 2) (As := [.int 0, .int 255]) (rest := []) X hN (c_Rd_small l D cB cI cS r0 rw rx ry rs rb nv nt ns nw q.1 fw (wt3 f n (nt - 1) (wt3 f n (nt - 1) g_8.2)) f n 0 255 hn _) k_Rd_small w_236 ⟨by decide, by decide⟩ hK hP hD [0, 1, 2] rfl rfl 0 rfl rfl rfl rfl hl.1 rfl (Nat.le_of_ble_eq_true rfl) d_Rd_passWalls_103 ⟨Nat.zero_le _, Nat.zero_le _⟩) hP hD hS hA [0, 1, 2] rfl [r0, rw, rb] rfl rfl (fun H locs hP hD hS => ?_)
              generalize eg_10 : sm f n (wt3 f n (nt - 1) (wt3 f n (nt - 1) g_8.2)) 0 255 = g_10 at hP hD ⊢
              have hP : va_P D cls ([(r0, .inr (1, [.ref rw, .ref rx, .ref ry, .ref rs, .int nv, .int nt, .int ns, .int nw, .int q.1, .int g_10.2.1, .int g_10.2.2.1, .int g_10.2.2.2, .int fw])), (rw, .inr (3, [.ref rb, .int (nI n)])), (rb, .inl (cB, 8192, .inl f)), (rx, .inl (cI, 128, .inl xs)), (ry, .inl (cI, 128, .inl ys)), (rs, .inl (cS, 128, .inr (.inr (.inr (.inr (fun i => some (ad i)))))))] ++ spw ad (pu z.2 k (weE f n nv xs ys z.1 (z.2 k)))) H := hP
              have hD : va_D A ([(r0, .inr (1, [.ref rw, .ref rx, .ref ry, .ref rs, .int nv, .int nt, .int ns, .int nw, .int q.1, .int g_10.2.1, .int g_10.2.2.1, .int g_10.2.2.2, .int fw])), (rw, .inr (3, [.ref rb, .int (nI n)])), (rb, .inl (cB, 8192, .inl f)), (rx, .inl (cI, 128, .inl xs)), (ry, .inl (cI, 128, .inl ys)), (rs, .inl (cS, 128, .inr (.inr (.inr (.inr (fun i => some (ad i)))))))] ++ spw ad (pu z.2 k (weE f n nv xs ys z.1 (z.2 k)))) := hD
              refine lv_pop hx hb d_Rd_passWalls_106 rfl ?_
              refine lv_aload_n hx hb d_Rd_passWalls_107 rfl (lv_at hl 1 rfl) ?_
              refine lv_iconst (v := 0) hx hb d_Rd_passWalls_108 (by decide) ?_
              refine lv_iconst (v := 3) hx hb d_Rd_passWalls_109 (by decide) ?_
              refine pz_i (pz_rV (d := 2) (As := [.int 0, .int 3]) (rest := []) X hN (c_Rd_small l D cB cI cS r0 rw rx ry rs rb nv nt ns nw q.1 fw g_10.2 f n 0 3 hn _) k_Rd_small w_236 ⟨by decide, by decide⟩ hK hP hD [0, 1, 2] rfl rfl 0 rfl rfl rfl rfl hl.1 rfl (Nat.le_of_ble_eq_true rfl) d_Rd_passWalls_110 ⟨Nat.zero_le _, Nat.zero_le _⟩) hP hD hS hA [0, 1, 2] rfl [r0, rw, rb] rfl rfl (fun H locs hP hD hS => ?_)
              generalize eg_11 : sm f n g_10.2 0 3 = g_11 at hP hD ⊢
              have hP : va_P D cls ([(r0, .inr (1, [.ref rw, .ref rx, .ref ry, .ref rs, .int nv, .int nt, .int ns, .int nw, .int q.1, .int g_11.2.1, .int g_11.2.2.1, .int g_11.2.2.2, .int fw])), (rw, .inr (3, [.ref rb, .int (nI n)])), (rb, .inl (cB, 8192, .inl f)), (rx, .inl (cI, 128, .inl xs)), (ry, .inl (cI, 128, .inl ys)), (rs, .inl (cS, 128, .inr (.inr (.inr (.inr (fun i => some (ad i)))))))] ++ spw ad (pu z.2 k (weE f n nv xs ys z.1 (z.2 k)))) H := hP
              have hD : va_D A ([(r0, .inr (1, [.ref rw, .ref rx, .ref ry, .ref rs, .int nv, .int nt, .int ns, .int nw, .int q.1, .int g_11.2.1, .int g_11.2.2.1, .int g_11.2.2.2, .int fw])), (rw, .inr (3, [.ref rb, .int (nI n)])), (rb, .inl (cB, 8192, .inl f)), (rx, .inl (cI, 128, .inl xs)), (ry, .inl (cI, 128, .inl ys)), (rs, .inl (cS, 128, .inr (.inr (.inr (.inr (fun i => some (ad i)))))))] ++ spw ad (pu z.2 k (weE f n nv xs ys z.1 (z.2 k)))) := hD
              refine lv_pop hx hb d_Rd_passWalls_113 rfl ?_
              refine lv_aload_n hx hb d_Rd_passWalls_114 rfl (lv_at hl 1 rfl) ?_
              refine lv_iconst (v := 0) hx hb d_Rd_passWalls_115 (by decide) ?_
              refine lv_iconst (v := 5) hx hb d_Rd_passWalls_116 (by decide) ?_
              refine pz_i (pz_rV (d := 2) (As := [.int 0, .int 5]) (rest := []) X hN (c_Rd_small l D cB cI cS r0 rw rx ry rs rb nv nt ns nw q.1 fw g_11.2 f n 0 5 hn _) k_Rd_small w_236 ⟨by decide, by decide⟩ hK hP hD [0, 1, 2] rfl rfl 0 rfl rfl rfl rfl hl.1 rfl (Nat.le_of_ble_eq_true rfl) d_Rd_passWalls_117 ⟨Nat.zero_le _, Nat.zero_le _⟩) hP hD hS hA [0, 1, 2] rfl [r0, rw, rb] rfl rfl (fun H locs hP hD hS => ?_)
              generalize eg_12 : sm f n g_11.2 0 5 = g_12 at hP hD ⊢
              have hP : va_P D cls ([(r0, .inr (1, [.ref rw, .ref rx, .ref ry, .ref rs, .int nv, .int nt, .int ns, .int nw, .int q.1, .int g_12.2.1, .int g_12.2.2.1, .int g_12.2.2.2, .int fw])), (rw, .inr (3, [.ref rb, .int (nI n)])), (rb, .inl (cB, 8192, .inl f)), (rx, .inl (cI, 128, .inl xs)), (ry, .inl (cI, 128, .inl ys)), (rs, .inl (cS, 128, .inr (.inr (.inr (.inr (fun i => some (ad i)))))))] ++ spw ad (pu z.2 k (weE f n nv xs ys z.1 (z.2 k)))) H := hP
              have hD : va_D A ([(r0, .inr (1, [.ref rw, .ref rx, .ref ry, .ref rs, .int nv, .int nt, .int ns, .int nw, .int q.1, .int g_12.2.1, .int g_12.2.2.1, .int g_12.2.2.2, .int fw])), (rw, .inr (3, [.ref rb, .int (nI n)])), (rb, .inl (cB, 8192, .inl f)), (rx, .inl (cI, 128, .inl xs)), (ry, .inl (cI, 128, .inl ys)), (rs, .inl (cS, 128, .inr (.inr (.inr (.inr (fun i => some (ad i)))))))] ++ spw ad (pu z.2 k (weE f n nv xs ys z.1 (z.2 k)))) := hD
              refine lv_pop hx hb d_Rd_passWalls_120 rfl ?_
              refine lv_aload_n hx hb d_Rd_passWalls_121 rfl (lv_at hl 1 rfl) ?_
              refine lv_iconst (v := 0) hx hb d_Rd_passWalls_122 (by decide) ?_
              refine lv_sipush (v := 255) hx hb d_Rd_passWalls_123 (by decide) ?_
              refine pz_i (pz_rV (d := 2) (As := [.int 0, .int 255]) (rest := []) X hN (c_Rd_small l D cB cI cS r0 rw rx ry rs rb nv nt ns nw q.1 fw g_12.2 f n 0 255 hn _) k_Rd_small w_236 ⟨by decide, by decide⟩ hK hP hD [0, 1, 2] rfl rfl 0 rfl rfl rfl rfl hl.1 rfl (Nat.le_of_ble_eq_true rfl) d_Rd_passWalls_126 ⟨Nat.zero_le _, Nat.zero_le _⟩) hP hD hS hA [0, 1, 2] rfl [r0, rw, rb] rfl rfl (fun H locs hP hD hS => ?_)
              generalize eg_13 : sm f n g_12.2 0 255 = g_13 at hP hD ⊢
              have hP : va_P D cls ([(r0, .inr (1, [.ref rw, .ref rx, .ref ry, .ref rs, .int nv, .int nt, .int ns, .int nw, .int q.1, .int g_13.2.1, .int g_13.2.2.1, .int g_13.2.2.2, .int fw])), (rw, .inr (3, [.ref rb, .int (nI n)])), (rb, .inl (cB, 8192, .inl f)), (rx, .inl (cI, 128, .inl xs)), (ry, .inl (cI, 128, .inl ys)), (rs, .inl (cS, 128, .inr (.inr (.inr (.inr (fun i => some (ad i)))))))] ++ spw ad (pu z.2 k (weE f n nv xs ys z.1 (z.2 k)))) H := hP
              have hD : va_D A ([(r0, .inr (1, [.ref rw, .ref rx, .ref ry, .ref rs, .int nv, .int nt, .int ns, .int nw, .int q.1, .int g_13.2.1, .int g_13.2.2.1, .int g_13.2.2.2, .int fw])), (rw, .inr (3, [.ref rb, .int (nI n)])), (rb, .inl (cB, 8192, .inl f)), (rx, .inl (cI, 128, .inl xs)), (ry, .inl (cI, 128, .inl ys)), (rs, .inl (cS, 128, .inr (.inr (.inr (.inr (fun i => some (ad i)))))))] ++ spw ad (pu z.2 k (weE f n nv xs ys z.1 (z.2 k)))) := hD
              refine lv_pop hx hb d_Rd_passWalls_129 rfl ?_
              refine lv_iinc (v := nI (k + 1)) (lv' := [(1, .int (nI (k + 1))), (2, .int g_8.1), (0, .ref r0)]) hx hb d_Rd_passWalls_130 hl (k := 2) rfl (nI_1 k) (by decide) rfl (fun ls hl => ?_)
              refine lv_goto (tgt := 10) hx hb d_Rd_passWalls_133 (by decide) ?_
              exact ih7 (k + 1) (g_13.2, (pu z.2 k (weE f n nv xs ys z.1 (z.2 k)))) _ _ _ (by omega) (by rw [he, wlp]; simp only [wst, wl4, wl3, wl2, wl1, eg_6, eg_7, eg_8, eg_10, eg_11, eg_12, eg_13, if_neg c_3, if_neg c_4, if_pos c_5, if_neg c_9]) hP hD hS (lv_sub hl [2, 0] rfl)
            · refine lv_iconst (v := (-1)) hx hb d_Rd_passWalls_85 (by decide) ?_
              refine lv_goto (tgt := 95) hx hb d_Rd_passWalls_86 (by decide) ?_
              refine pz_v (pz_rV (d := 3) (As := [.int (-1)]) (rest := []) X hN (c_Rd_passWallTextures l D cB cI cS r0 rw rx ry rs rb nv nt ns nw q.1 fw (wt3 f n (nt - 1) g_8.2) f n (-1) hn _) k_Rd_passWallTextures w_287 ⟨by decide, by decide⟩ hK hP hD [0, 1, 2] rfl rfl 0 rfl rfl rfl rfl hl.1 rfl (Nat.le_of_ble_eq_true rfl) d_Rd_passWalls_95 ⟨Nat.zero_le _, Nat.zero_le _⟩) hP hD hS hA [0, 1, 2] rfl [r0, rw, rb] rfl rfl (fun H locs hP hD hS => ?_)
              have hP : va_P D cls ([(r0, .inr (1, [.ref rw, .ref rx, .ref ry, .ref rs, .int nv, .int nt, .int ns, .int nw, .int q.1, .int ((wt3 f n (-1) (wt3 f n (nt - 1) g_8.2)).1), .int ((wt3 f n (-1) (wt3 f n (nt - 1) g_8.2)).2.1), .int ((wt3 f n (-1) (wt3 f n (nt - 1) g_8.2)).2.2), .int fw])), (rw, .inr (3, [.ref rb, .int (nI n)])), (rb, .inl (cB, 8192, .inl f)), (rx, .inl (cI, 128, .inl xs)), (ry, .inl (cI, 128, .inl ys)), (rs, .inl (cS, 128, .inr (.inr (.inr (.inr (fun i => some (ad i)))))))] ++ spw ad (pu z.2 k (weE f n nv xs ys z.1 (z.2 k)))) H := hP
              have hD : va_D A ([(r0, .inr (1, [.ref rw, .ref rx, .ref ry, .ref rs, .int nv, .int nt, .int ns, .int nw, .int q.1, .int ((wt3 f n (-1) (wt3 f n (nt - 1) g_8.2)).1), .int ((wt3 f n (-1) (wt3 f n (nt - 1) g_8.2)).2.1), .int ((wt3 f n (-1) (wt3 f n (nt - 1) g_8.2)).2.2), .int fw])), (rw, .inr (3, [.ref rb, .int (nI n)])), (rb, .inl (cB, 8192, .inl f)), (rx, .inl (cI, 128, .inl xs)), (ry, .inl (cI, 128, .inl ys)), (rs, .inl (cS, 128, .inr (.inr (.inr (.inr (fun i => some (ad i)))))))] ++ spw ad (pu z.2 k (weE f n nv xs ys z.1 (z.2 k)))) := hD
              refine lv_aload_n hx hb d_Rd_passWalls_98 rfl (lv_at hl 1 rfl) ?_
              refine lv_iconst (v := 0) hx hb d_Rd_passWalls_99 (by decide) ?_
              refine lv_sipush (v := 255) hx hb d_Rd_passWalls_100 (by decide) ?_
              refine pz_i (pz_rV (d := 2) (As := [.int 0, .int 255]) (rest := []) X hN (c_Rd_small l D cB cI cS r0 rw rx ry rs rb nv nt ns nw q.1 fw (wt3 f n (-1) (wt3 f n (nt - 1) g_8.2)) f n 0 255 hn _) k_Rd_small w_236 ⟨by decide, by decide⟩ hK hP hD [0, 1, 2] rfl rfl 0 rfl rfl rfl rfl hl.1 rfl (Nat.le_of_ble_eq_true rfl) d_Rd_passWalls_103 ⟨Nat.zero_le _, Nat.zero_le _⟩) hP hD hS hA [0, 1, 2] rfl [r0, rw, rb] rfl rfl (fun H locs hP hD hS => ?_)
              generalize eg_14 : sm f n (wt3 f n (-1) (wt3 f n (nt - 1) g_8.2)) 0 255 = g_14 at hP hD ⊢
              have hP : va_P D cls ([(r0, .inr (1, [.ref rw, .ref rx, .ref ry, .ref rs, .int nv, .int nt, .int ns, .int nw, .int q.1, .int g_14.2.1, .int g_14.2.2.1, .int g_14.2.2.2, .int fw])), (rw, .inr (3, [.ref rb, .int (nI n)])), (rb, .inl (cB, 8192, .inl f)), (rx, .inl (cI, 128, .inl xs)), (ry, .inl (cI, 128, .inl ys)), (rs, .inl (cS, 128, .inr (.inr (.inr (.inr (fun i => some (ad i)))))))] ++ spw ad (pu z.2 k (weE f n nv xs ys z.1 (z.2 k)))) H := hP
              have hD : va_D A ([(r0, .inr (1, [.ref rw, .ref rx, .ref ry, .ref rs, .int nv, .int nt, .int ns, .int nw, .int q.1, .int g_14.2.1, .int g_14.2.2.1, .int g_14.2.2.2, .int fw])), (rw, .inr (3, [.ref rb, .int (nI n)])), (rb, .inl (cB, 8192, .inl f)), (rx, .inl (cI, 128, .inl xs)), (ry, .inl (cI, 128, .inl ys)), (rs, .inl (cS, 128, .inr (.inr (.inr (.inr (fun i => some (ad i)))))))] ++ spw ad (pu z.2 k (weE f n nv xs ys z.1 (z.2 k)))) := hD
              refine lv_pop hx hb d_Rd_passWalls_106 rfl ?_
              refine lv_aload_n hx hb d_Rd_passWalls_107 rfl (lv_at hl 1 rfl) ?_
              refine lv_iconst (v := 0) hx hb d_Rd_passWalls_108 (by decide) ?_
              refine lv_iconst (v := 3) hx hb d_Rd_passWalls_109 (by decide) ?_
              refine pz_i (pz_rV (d := 2) (As := [.int 0, .int 3]) (rest := []) X hN (c_Rd_small l D cB cI cS r0 rw rx ry rs rb nv nt ns nw q.1 fw g_14.2 f n 0 3 hn _) k_Rd_small w_236 ⟨by decide, by decide⟩ hK hP hD [0, 1, 2] rfl rfl 0 rfl rfl rfl rfl hl.1 rfl (Nat.le_of_ble_eq_true rfl) d_Rd_passWalls_110 ⟨Nat.zero_le _, Nat.zero_le _⟩) hP hD hS hA [0, 1, 2] rfl [r0, rw, rb] rfl rfl (fun H locs hP hD hS => ?_)
              generalize eg_15 : sm f n g_14.2 0 3 = g_15 at hP hD ⊢
              have hP : va_P D cls ([(r0, .inr (1, [.ref rw, .ref rx, .ref ry, .ref rs, .int nv, .int nt, .int ns, .int nw, .int q.1, .int g_15.2.1, .int g_15.2.2.1, .int g_15.2.2.2, .int fw])), (rw, .inr (3, [.ref rb, .int (nI n)])), (rb, .inl (cB, 8192, .inl f)), (rx, .inl (cI, 128, .inl xs)), (ry, .inl (cI, 128, .inl ys)), (rs, .inl (cS, 128, .inr (.inr (.inr (.inr (fun i => some (ad i)))))))] ++ spw ad (pu z.2 k (weE f n nv xs ys z.1 (z.2 k)))) H := hP
              have hD : va_D A ([(r0, .inr (1, [.ref rw, .ref rx, .ref ry, .ref rs, .int nv, .int nt, .int ns, .int nw, .int q.1, .int g_15.2.1, .int g_15.2.2.1, .int g_15.2.2.2, .int fw])), (rw, .inr (3, [.ref rb, .int (nI n)])), (rb, .inl (cB, 8192, .inl f)), (rx, .inl (cI, 128, .inl xs)), (ry, .inl (cI, 128, .inl ys)), (rs, .inl (cS, 128, .inr (.inr (.inr (.inr (fun i => some (ad i)))))))] ++ spw ad (pu z.2 k (weE f n nv xs ys z.1 (z.2 k)))) := hD
              refine lv_pop hx hb d_Rd_passWalls_113 rfl ?_
              refine lv_aload_n hx hb d_Rd_passWalls_114 rfl (lv_at hl 1 rfl) ?_
              refine lv_iconst (v := 0) hx hb d_Rd_passWalls_115 (by decide) ?_
              refine lv_iconst (v := 5) hx hb d_Rd_passWalls_116 (by decide) ?_
              refine pz_i (pz_rV (d := 2) (As := [.int 0, .int 5]) (rest := []) X hN (c_Rd_small l D cB cI cS r0 rw rx ry rs rb nv nt ns nw q.1 fw g_15.2 f n 0 5 hn _) k_Rd_small w_236 ⟨by decide, by decide⟩ hK hP hD [0, 1, 2] rfl rfl 0 rfl rfl rfl rfl hl.1 rfl (Nat.le_of_ble_eq_true rfl) d_Rd_passWalls_117 ⟨Nat.zero_le _, Nat.zero_le _⟩) hP hD hS hA [0, 1, 2] rfl [r0, rw, rb] rfl rfl (fun H locs hP hD hS => ?_)
              generalize eg_16 : sm f n g_15.2 0 5 = g_16 at hP hD ⊢
              have hP : va_P D cls ([(r0, .inr (1, [.ref rw, .ref rx, .ref ry, .ref rs, .int nv, .int nt, .int ns, .int nw, .int q.1, .int g_16.2.1, .int g_16.2.2.1, .int g_16.2.2.2, .int fw])), (rw, .inr (3, [.ref rb, .int (nI n)])), (rb, .inl (cB, 8192, .inl f)), (rx, .inl (cI, 128, .inl xs)), (ry, .inl (cI, 128, .inl ys)), (rs, .inl (cS, 128, .inr (.inr (.inr (.inr (fun i => some (ad i)))))))] ++ spw ad (pu z.2 k (weE f n nv xs ys z.1 (z.2 k)))) H := hP
              have hD : va_D A ([(r0, .inr (1, [.ref rw, .ref rx, .ref ry, .ref rs, .int nv, .int nt, .int ns, .int nw, .int q.1, .int g_16.2.1, .int g_16.2.2.1, .int g_16.2.2.2, .int fw])), (rw, .inr (3, [.ref rb, .int (nI n)])), (rb, .inl (cB, 8192, .inl f)), (rx, .inl (cI, 128, .inl xs)), (ry, .inl (cI, 128, .inl ys)), (rs, .inl (cS, 128, .inr (.inr (.inr (.inr (fun i => some (ad i)))))))] ++ spw ad (pu z.2 k (weE f n nv xs ys z.1 (z.2 k)))) := hD
              refine lv_pop hx hb d_Rd_passWalls_120 rfl ?_
              refine lv_aload_n hx hb d_Rd_passWalls_121 rfl (lv_at hl 1 rfl) ?_
              refine lv_iconst (v := 0) hx hb d_Rd_passWalls_122 (by decide) ?_
              refine lv_sipush (v := 255) hx hb d_Rd_passWalls_123 (by decide) ?_
              refine pz_i (pz_rV (d := 2) (As := [.int 0, .int 255]) (rest := []) X hN (c_Rd_small l D cB cI cS r0 rw rx ry rs rb nv nt ns nw q.1 fw g_16.2 f n 0 255 hn _) k_Rd_small w_236 ⟨by decide, by decide⟩ hK hP hD [0, 1, 2] rfl rfl 0 rfl rfl rfl rfl hl.1 rfl (Nat.le_of_ble_eq_true rfl) d_Rd_passWalls_126 ⟨Nat.zero_le _, Nat.zero_le _⟩) hP hD hS hA [0, 1, 2] rfl [r0, rw, rb] rfl rfl (fun H locs hP hD hS => ?_)
              generalize eg_17 : sm f n g_16.2 0 255 = g_17 at hP hD ⊢
              have hP : va_P D cls ([(r0, .inr (1, [.ref rw, .ref rx, .ref ry, .ref rs, .int nv, .int nt, .int ns, .int nw, .int q.1, .int g_17.2.1, .int g_17.2.2.1, .int g_17.2.2.2, .int fw])), (rw, .inr (3, [.ref rb, .int (nI n)])), (rb, .inl (cB, 8192, .inl f)), (rx, .inl (cI, 128, .inl xs)), (ry, .inl (cI, 128, .inl ys)), (rs, .inl (cS, 128, .inr (.inr (.inr (.inr (fun i => some (ad i)))))))] ++ spw ad (pu z.2 k (weE f n nv xs ys z.1 (z.2 k)))) H := hP
              have hD : va_D A ([(r0, .inr (1, [.ref rw, .ref rx, .ref ry, .ref rs, .int nv, .int nt, .int ns, .int nw, .int q.1, .int g_17.2.1, .int g_17.2.2.1, .int g_17.2.2.2, .int fw])), (rw, .inr (3, [.ref rb, .int (nI n)])), (rb, .inl (cB, 8192, .inl f)), (rx, .inl (cI, 128, .inl xs)), (ry, .inl (cI, 128, .inl ys)), (rs, .inl (cS, 128, .inr (.inr (.inr (.inr (fun i => some (ad i)))))))] ++ spw ad (pu z.2 k (weE f n nv xs ys z.1 (z.2 k)))) := hD
              refine lv_pop hx hb d_Rd_passWalls_129 rfl ?_
              refine lv_iinc (v := nI (k + 1)) (lv' := [(1, .int (nI (k + 1))), (2, .int g_8.1), (0, .ref r0)]) hx hb d_Rd_passWalls_130 hl (k := 2) rfl (nI_1 k) (by decide) rfl (fun ls hl => ?_)
              refine lv_goto (tgt := 10) hx hb d_Rd_passWalls_133 (by decide) ?_
              exact ih7 (k + 1) (g_17.2, (pu z.2 k (weE f n nv xs ys z.1 (z.2 k)))) _ _ _ (by omega) (by rw [he, wlp]; simp only [wst, wl4, wl3, wl2, wl1, eg_6, eg_7, eg_8, eg_14, eg_15, eg_16, eg_17, if_neg c_3, if_neg c_4, if_pos c_5, if_pos c_9]) hP hD hS (lv_sub hl [2, 0] rfl)
  exact lp_7 128 0 (q, sp) _ _ _ (by omega) (rfl) hP hD hS (lv_sub hl [1, 0] rfl)

set_option maxRecDepth 100000 in
set_option maxHeartbeats 4000000 in
/-- Reader.seekMeeting -/
theorem c_Rd_seekMeeting (l : Launch) (D : va_G) (cB cI cS : ClassId) (r0 rw rx ry rs rb : Nat) (nv nt ns nw wa fw : Int32) (q : S3) (f : Nat → Int32) (n : Nat) (xs ys : Nat → Int32) (ad : Nat → Nat) (sp : Nat → E4) (hn : n ≤ 8192) : mV l y_Rd_seekMeeting b_Rd_seekMeeting 3 (none) 4 D cls [(cB, .byte), (cI, .int), (cS, .object "MapLumps$Span")] [.ref r0] ([(r0, .inr (1, [.ref rw, .ref rx, .ref ry, .ref rs, .int nv, .int nt, .int ns, .int nw, .int wa, .int q.1, .int q.2.1, .int q.2.2, .int fw])), (rw, .inr (3, [.ref rb, .int (nI n)])), (rb, .inl (cB, 8192, .inl f)), (rx, .inl (cI, 128, .inl xs)), (ry, .inl (cI, 128, .inl ys)), (rs, .inl (cS, 128, .inr (.inr (.inr (.inr (fun i => some (ad i)))))))] ++ spw ad sp) ([(r0, .inr (1, [.ref rw, .ref rx, .ref ry, .ref rs, .int nv, .int nt, .int ns, .int nw, .int wa, .int ((mk2 sp wa nw 127 1 (q, fw)).1.1), .int ((mk2 sp wa nw 127 1 (q, fw)).1.2.1), .int ((mk2 sp wa nw 127 1 (q, fw)).1.2.2), .int ((mk2 sp wa nw 127 1 (q, fw)).2)])), (rw, .inr (3, [.ref rb, .int (nI n)])), (rb, .inl (cB, 8192, .inl f)), (rx, .inl (cI, 128, .inl xs)), (ry, .inl (cI, 128, .inl ys)), (rs, .inl (cS, 128, .inr (.inr (.inr (.inr (fun i => some (ad i)))))))] ++ spw ad sp) := by
  refine pz_openV (by decide) (Nat.le_of_ble_eq_true rfl) ?_
  intro p e s m below meth c A ls Q X hN hK hP hD hS hA hl fin
  obtain ⟨hx, hb, hml, hown, hts⟩ := id X
  have hl : lv_has ls 3 [(0, .ref r0)] := hl
  refine lv_iconst (v := 1) hx hb d_Rd_seekMeeting_0 (by decide) ?_
  refine lv_istore_n (lv' := [(1, .int 1), (0, .ref r0)]) hx hb d_Rd_seekMeeting_1 rfl hl (by decide) rfl (fun ls hl => ?_)
  have lp_8 : ∀ (j8 : Nat) (k : Nat) (z : SM) (ls : Array Slot) (H : Heap) (locs : List Loc), j8 + k = 128 → mk2 sp wa nw 127 1 (q, fw) = mk2 sp wa nw j8 k z → va_P D cls ([(r0, .inr (1, [.ref rw, .ref rx, .ref ry, .ref rs, .int nv, .int nt, .int ns, .int nw, .int wa, .int z.1.1, .int z.1.2.1, .int z.1.2.2, .int z.2])), (rw, .inr (3, [.ref rb, .int (nI n)])), (rb, .inl (cB, 8192, .inl f)), (rx, .inl (cI, 128, .inl xs)), (ry, .inl (cI, 128, .inl ys)), (rs, .inl (cS, 128, .inr (.inr (.inr (.inr (fun i => some (ad i)))))))] ++ spw ad sp) H → va_D A ([(r0, .inr (1, [.ref rw, .ref rx, .ref ry, .ref rs, .int nv, .int nt, .int ns, .int nw, .int wa, .int z.1.1, .int z.1.2.1, .int z.1.2.2, .int z.2])), (rw, .inr (3, [.ref rb, .int (nI n)])), (rb, .inl (cB, 8192, .inl f)), (rx, .inl (cI, 128, .inl xs)), (ry, .inl (cI, 128, .inl ys)), (rs, .inl (cS, 128, .inr (.inr (.inr (.inr (fun i => some (ad i)))))))] ++ spw ad sp) → va_S A s.heap H locs → lv_has ls 3 [(0, .ref r0), (1, .int (nI k))] → W p l e (rmd 4) s m ([.ref r0] : List Value).toArray below meth c H locs 0 0 Q (F0 m 2 ls []) := by
    intro j8
    induction j8 with
    | zero =>
      intro k z ls H locs hi he hP hD hS hl
      refine lv_iload_n hx hb d_Rd_seekMeeting_2 rfl (lv_at hl 1 rfl) ?_
      refine lv_aload_n hx hb d_Rd_seekMeeting_3 rfl (lv_at hl 0 rfl) ?_
      refine va_get (D := D) (ci := 1) (v := .int nw) (C := R_Rd) (T := T_Rd) (N := 13) hx hb hts i_Rd hown hK hP 0 rfl rfl 7 (by decide) (hts _ w_81) (fun _ h9 => h9) rfl d_Rd_seekMeeting_4 ?_
      refine lv_icmp_ge (tgt := 90) hx hb d_Rd_seekMeeting_7 (by decide) (fun c_1 => ?_) (fun c_1 => ?_)
      · exact fin _ _ _ _ _ d_Rd_seekMeeting_90 hP hS (by rw [he]; simp only [mk2, if_pos c_1])
      · refine lv_iload_n hx hb d_Rd_seekMeeting_10 rfl (lv_at hl 1 rfl) ?_
        refine lv_aload_n hx hb d_Rd_seekMeeting_11 rfl (lv_at hl 0 rfl) ?_
        refine va_get (D := D) (ci := 1) (v := .ref rs) (C := R_Rd) (T := T_Rd) (N := 13) hx hb hts i_Rd hown hK hP 0 rfl rfl 3 (by decide) (hts _ w_77) (fun _ h9 => h9) rfl d_Rd_seekMeeting_12 ?_
        refine va_alen hx hb hK hP 5 2 rfl rfl (v := 128) rfl d_Rd_seekMeeting_15 ?_
        refine lv_icmp_ge (tgt := 90) hx hb d_Rd_seekMeeting_16 (by decide) (fun c_2 => ?_) (fun c_2 => ?_)
        · exact fin _ _ _ _ _ d_Rd_seekMeeting_90 hP hS (by rw [he]; simp only [mk2, if_neg c_1, if_pos c_2])
        · exact (c_2 (show nI 128 ≤ nI k by rw [nI_leI (by omega) (by omega)]; omega)).elim
    | succ j8 ih8 =>
      intro k z ls H locs hi he hP hD hS hl
      refine lv_iload_n hx hb d_Rd_seekMeeting_2 rfl (lv_at hl 1 rfl) ?_
      refine lv_aload_n hx hb d_Rd_seekMeeting_3 rfl (lv_at hl 0 rfl) ?_
      refine va_get (D := D) (ci := 1) (v := .int nw) (C := R_Rd) (T := T_Rd) (N := 13) hx hb hts i_Rd hown hK hP 0 rfl rfl 7 (by decide) (hts _ w_81) (fun _ h9 => h9) rfl d_Rd_seekMeeting_4 ?_
      refine lv_icmp_ge (tgt := 90) hx hb d_Rd_seekMeeting_7 (by decide) (fun c_3 => ?_) (fun c_3 => ?_)
      · exact fin _ _ _ _ _ d_Rd_seekMeeting_90 hP hS (by rw [he]; simp only [mk2, if_pos c_3])
      · refine lv_iload_n hx hb d_Rd_seekMeeting_10 rfl (lv_at hl 1 rfl) ?_
        refine lv_aload_n hx hb d_Rd_seekMeeting_11 rfl (lv_at hl 0 rfl) ?_
        refine va_get (D := D) (ci := 1) (v := .ref rs) (C := R_Rd) (T := T_Rd) (N := 13) hx hb hts i_Rd hown hK hP 0 rfl rfl 3 (by decide) (hts _ w_77) (fun _ h9 => h9) rfl d_Rd_seekMeeting_12 ?_
        refine va_alen hx hb hK hP 5 2 rfl rfl (v := 128) rfl d_Rd_seekMeeting_15 ?_
        refine lv_icmp_ge (tgt := 90) hx hb d_Rd_seekMeeting_16 (by decide) (fun c_4 => ?_) (fun c_4 => ?_)
        · exact absurd c_4 (show ¬ nI 128 ≤ nI k by rw [nI_leI (by omega) (by omega)]; omega)
        · refine lv_aload_n hx hb d_Rd_seekMeeting_19 rfl (lv_at hl 0 rfl) ?_
          refine va_get (D := D) (ci := 1) (v := .int z.1.2.1) (C := R_Rd) (T := T_Rd) (N := 13) hx hb hts i_Rd hown hK hP 0 rfl rfl 10 (by decide) (hts _ w_84) (fun _ h9 => h9) rfl d_Rd_seekMeeting_20 ?_
          refine lv_if_ne (tgt := 90) hx hb d_Rd_seekMeeting_23 (by decide) (fun c_5 => ?_) (fun c_5 => ?_)
          · exact fin _ _ _ _ _ d_Rd_seekMeeting_90 hP hS (by rw [he]; simp only [mk2, if_neg c_3, if_neg c_4, if_neg c_5])
          · refine lv_iconst (v := 0) hx hb d_Rd_seekMeeting_26 (by decide) ?_
            refine lv_istore_n (lv' := [(2, .int 0), (0, .ref r0), (1, .int (nI k))]) hx hb d_Rd_seekMeeting_27 rfl hl (by decide) rfl (fun ls hl => ?_)
            have lp_9 : ∀ (j9 : Nat) (o : Nat) (y : SM) (ls : Array Slot) (H : Heap) (locs : List Loc), j9 + o = k → mk1 sp wa k k 0 z = mk1 sp wa k j9 o y → va_P D cls ([(r0, .inr (1, [.ref rw, .ref rx, .ref ry, .ref rs, .int nv, .int nt, .int ns, .int nw, .int wa, .int y.1.1, .int y.1.2.1, .int y.1.2.2, .int y.2])), (rw, .inr (3, [.ref rb, .int (nI n)])), (rb, .inl (cB, 8192, .inl f)), (rx, .inl (cI, 128, .inl xs)), (ry, .inl (cI, 128, .inl ys)), (rs, .inl (cS, 128, .inr (.inr (.inr (.inr (fun i => some (ad i)))))))] ++ spw ad sp) H → va_D A ([(r0, .inr (1, [.ref rw, .ref rx, .ref ry, .ref rs, .int nv, .int nt, .int ns, .int nw, .int wa, .int y.1.1, .int y.1.2.1, .int y.1.2.2, .int y.2])), (rw, .inr (3, [.ref rb, .int (nI n)])), (rb, .inl (cB, 8192, .inl f)), (rx, .inl (cI, 128, .inl xs)), (ry, .inl (cI, 128, .inl ys)), (rs, .inl (cS, 128, .inr (.inr (.inr (.inr (fun i => some (ad i)))))))] ++ spw ad sp) → va_S A s.heap H locs → lv_has ls 3 [(0, .ref r0), (1, .int (nI k)), (2, .int (nI o))] → W p l e (rmd 4) s m ([.ref r0] : List Value).toArray below meth c H locs 0 0 Q (F0 m 28 ls []) := by
              intro j9
              induction j9 with
              | zero =>
                intro o y ls H locs hi2 he2 hP hD hS hl
                refine lv_iload_n hx hb d_Rd_seekMeeting_28 rfl (lv_at hl 2 rfl) ?_
                refine lv_iload_n hx hb d_Rd_seekMeeting_29 rfl (lv_at hl 1 rfl) ?_
                refine lv_icmp_ge (tgt := 84) hx hb d_Rd_seekMeeting_30 (by decide) (fun c_6 => ?_) (fun c_6 => ?_)
                · refine lv_iinc (v := nI (k + 1)) (lv' := [(1, .int (nI (k + 1))), (0, .ref r0), (2, .int (nI o))]) hx hb d_Rd_seekMeeting_84 hl (k := 1) rfl (nI_1 k) (by decide) rfl (fun ls hl => ?_)
                  refine lv_goto (tgt := 2) hx hb d_Rd_seekMeeting_87 (by decide) ?_
                  exact ih8 (k + 1) (y.1, y.2) _ _ _ (by omega) (by rw [he, mk2]; simp only [if_neg c_3, if_neg c_4, if_pos c_5, if_pos c_6]; exact congrArg (mk2 sp wa nw j8 (k + 1)) (he2.trans (by simp only [mk1, if_neg c_3, if_neg c_4, if_pos c_5, if_pos c_6]))) hP hD hS (lv_sub hl [1, 0] rfl)
                · exact (c_6 (by rw [nI_leI (by omega) (by omega)]; omega)).elim
              | succ j9 ih9 =>
                intro o y ls H locs hi2 he2 hP hD hS hl
                refine lv_iload_n hx hb d_Rd_seekMeeting_28 rfl (lv_at hl 2 rfl) ?_
                refine lv_iload_n hx hb d_Rd_seekMeeting_29 rfl (lv_at hl 1 rfl) ?_
                refine lv_icmp_ge (tgt := 84) hx hb d_Rd_seekMeeting_30 (by decide) (fun c_7 => ?_) (fun c_7 => ?_)
                · exact absurd c_7 (by rw [nI_leI (by omega) (by omega)]; omega)
                · refine lv_aload_n hx hb d_Rd_seekMeeting_33 rfl (lv_at hl 0 rfl) ?_
                  refine va_get (D := D) (ci := 1) (v := .int y.1.2.1) (C := R_Rd) (T := T_Rd) (N := 13) hx hb hts i_Rd hown hK hP 0 rfl rfl 10 (by decide) (hts _ w_84) (fun _ h9 => h9) rfl d_Rd_seekMeeting_34 ?_
                  refine lv_if_ne (tgt := 84) hx hb d_Rd_seekMeeting_37 (by decide) (fun c_8 => ?_) (fun c_8 => ?_)
                  · refine lv_iinc (v := nI (k + 1)) (lv' := [(1, .int (nI (k + 1))), (0, .ref r0), (2, .int (nI o))]) hx hb d_Rd_seekMeeting_84 hl (k := 1) rfl (nI_1 k) (by decide) rfl (fun ls hl => ?_)
                    refine lv_goto (tgt := 2) hx hb d_Rd_seekMeeting_87 (by decide) ?_
                    exact ih8 (k + 1) (y.1, y.2) _ _ _ (by omega) (by rw [he, mk2]; simp only [if_neg c_3, if_neg c_4, if_pos c_5, if_neg c_7, if_neg c_8]; exact congrArg (mk2 sp wa nw j8 (k + 1)) (he2.trans (by simp only [mk1, if_neg c_3, if_neg c_4, if_pos c_5, if_neg c_7, if_neg c_8]))) hP hD hS (lv_sub hl [1, 0] rfl)
                  · refine lv_aload_n hx hb d_Rd_seekMeeting_40 rfl (lv_at hl 0 rfl) ?_
                    refine va_get (D := D) (ci := 1) (v := .ref rs) (C := R_Rd) (T := T_Rd) (N := 13) hx hb hts i_Rd hown hK hP 0 rfl rfl 3 (by decide) (hts _ w_77) (fun _ h9 => h9) rfl d_Rd_seekMeeting_41 ?_
                    refine lv_iload_n hx hb d_Rd_seekMeeting_44 rfl (lv_at hl 1 rfl) ?_
                    refine va_aldq hx hb hK hP 5 2 rfl rfl (in_n (show k < 128 by omega) (by decide)) d_Rd_seekMeeting_45 ?_
                    rw [nI_clamp (show k < 2 ^ 31 by omega)]
                    refine W.eq (g2 := F0 m 46 ls [.ref (ad k)]) rfl ?_
                    refine lv_aload_n hx hb d_Rd_seekMeeting_46 rfl (lv_at hl 0 rfl) ?_
                    refine va_get (D := D) (ci := 1) (v := .ref rs) (C := R_Rd) (T := T_Rd) (N := 13) hx hb hts i_Rd hown hK hP 0 rfl rfl 3 (by decide) (hts _ w_77) (fun _ h9 => h9) rfl d_Rd_seekMeeting_47 ?_
                    refine lv_iload_n hx hb d_Rd_seekMeeting_50 rfl (lv_at hl 2 rfl) ?_
                    refine va_aldq hx hb hK hP 5 2 rfl rfl (in_n (show o < 128 by omega) (by decide)) d_Rd_seekMeeting_51 ?_
                    rw [nI_clamp (show o < 2 ^ 31 by omega)]
                    refine W.eq (g2 := F0 m 52 ls [.ref (ad o), .ref (ad k)]) rfl ?_
                    refine pz_i0 (pz_rV (d := 3) (As := [.ref (ad o)]) (rest := []) X hN (c_Sp_meets l D cB cI cS (ad k) (ad o) (sp k) (sp o) _) k_Sp_meets w_307 ⟨by decide, by decide⟩ hK hP hD [6 + k, 6 + o] (spw_hC2 (L := 6) rfl (show k < 128 by omega) (show o < 128 by omega)) (ndk (by omega)) (6 + k) rfl rfl (spw_get (L := 6) rfl (show k < 128 by omega)) rfl hl.1 rfl (Nat.le_of_ble_eq_true rfl) d_Rd_seekMeeting_52 ⟨Nat.zero_le _, Nat.zero_le _⟩) hP hD hS hA [6 + k, 6 + o] (spw_hC2 (L := 6) rfl (show k < 128 by omega) (show o < 128 by omega)) (fun H locs hP hS => ?_)
                    refine lv_if_eq (tgt := 78) hx hb d_Rd_seekMeeting_55 (by decide) (fun c_9 => ?_) (fun c_9 => ?_)
                    · refine lv_iinc (v := nI (o + 1)) (lv' := [(2, .int (nI (o + 1))), (0, .ref r0), (1, .int (nI k))]) hx hb d_Rd_seekMeeting_78 hl (k := 2) rfl (nI_1 o) (by decide) rfl (fun ls hl => ?_)
                      refine lv_goto (tgt := 28) hx hb d_Rd_seekMeeting_81 (by decide) ?_
                      exact ih9 (o + 1) (y.1, y.2) _ _ _ (by omega) (by rw [he2, mk1]; simp only [if_neg c_3, if_neg c_4, if_pos c_5, if_neg c_7, if_pos c_8, if_pos c_9]) hP hD hS (lv_sub hl [1, 2, 0] rfl)
                    · refine lv_aload_n hx hb d_Rd_seekMeeting_58 rfl (lv_at hl 0 rfl) ?_
                      refine lv_bipush (v := 6) hx hb d_Rd_seekMeeting_59 (by decide) ?_
                      refine lv_aload_n hx hb d_Rd_seekMeeting_61 rfl (lv_at hl 0 rfl) ?_
                      refine va_get (D := D) (ci := 1) (v := .int wa) (C := R_Rd) (T := T_Rd) (N := 13) hx hb hts i_Rd hown hK hP 0 rfl rfl 8 (by decide) (hts _ w_82) (fun _ h9 => h9) rfl d_Rd_seekMeeting_62 ?_
                      refine lv_bipush (v := 14) hx hb d_Rd_seekMeeting_65 (by decide) ?_
                      refine lv_iload_n hx hb d_Rd_seekMeeting_67 rfl (lv_at hl 1 rfl) ?_
                      refine lv_imul hx hb d_Rd_seekMeeting_68 ?_
                      refine lv_iadd hx hb d_Rd_seekMeeting_69 ?_
                      refine pz_v (pz_rV (d := 0) (As := [.int 6, .int (wa + (14 * (nI k)))]) (rest := []) X hN (c_Rd_fail l D cB cI cS r0 rw rx ry rs nv nt ns nw wa y.2 y.1 6 (wa + (14 * (nI k))) _) k_Rd_fail w_232 ⟨by decide, by decide⟩ hK hP hD [0] rfl rfl 0 rfl rfl rfl rfl hl.1 rfl (Nat.le_of_ble_eq_true rfl) d_Rd_seekMeeting_70 ⟨Nat.zero_le _, Nat.zero_le _⟩) hP hD hS hA [0] rfl [r0] rfl rfl (fun H locs hP hD hS => ?_)
                      have hP : va_P D cls ([(r0, .inr (1, [.ref rw, .ref rx, .ref ry, .ref rs, .int nv, .int nt, .int ns, .int nw, .int wa, .int ((fl y.1 6 (wa + (14 * (nI k)))).1), .int ((fl y.1 6 (wa + (14 * (nI k)))).2.1), .int ((fl y.1 6 (wa + (14 * (nI k)))).2.2), .int y.2])), (rw, .inr (3, [.ref rb, .int (nI n)])), (rb, .inl (cB, 8192, .inl f)), (rx, .inl (cI, 128, .inl xs)), (ry, .inl (cI, 128, .inl ys)), (rs, .inl (cS, 128, .inr (.inr (.inr (.inr (fun i => some (ad i)))))))] ++ spw ad sp) H := hP
                      have hD : va_D A ([(r0, .inr (1, [.ref rw, .ref rx, .ref ry, .ref rs, .int nv, .int nt, .int ns, .int nw, .int wa, .int ((fl y.1 6 (wa + (14 * (nI k)))).1), .int ((fl y.1 6 (wa + (14 * (nI k)))).2.1), .int ((fl y.1 6 (wa + (14 * (nI k)))).2.2), .int y.2])), (rw, .inr (3, [.ref rb, .int (nI n)])), (rb, .inl (cB, 8192, .inl f)), (rx, .inl (cI, 128, .inl xs)), (ry, .inl (cI, 128, .inl ys)), (rs, .inl (cS, 128, .inr (.inr (.inr (.inr (fun i => some (ad i)))))))] ++ spw ad sp) := hD
                      refine lv_aload_n hx hb d_Rd_seekMeeting_73 rfl (lv_at hl 0 rfl) ?_
                      refine lv_iload_n hx hb d_Rd_seekMeeting_74 rfl (lv_at hl 1 rfl) ?_
                      refine va_put (D := D) (ci := 1) (v := .int (nI k)) (ty := (.int)) (C := R_Rd) (T := T_Rd) (N := 13) hx hb hts i_Rd ty_Rd tyok_Rd nm_Rd hown hK hP hD hS 0 rfl rfl 12 (by decide) (hts _ w_88) (fun _ h9 => h9) rfl (by decide +kernel) rfl rfl (Nat.le_of_ble_eq_true rfl) d_Rd_seekMeeting_75 (fun H locs hP hD hS => ?_)
                      have hP : va_P D cls ([(r0, .inr (1, [.ref rw, .ref rx, .ref ry, .ref rs, .int nv, .int nt, .int ns, .int nw, .int wa, .int ((fl y.1 6 (wa + (14 * (nI k)))).1), .int ((fl y.1 6 (wa + (14 * (nI k)))).2.1), .int ((fl y.1 6 (wa + (14 * (nI k)))).2.2), .int (nI k)])), (rw, .inr (3, [.ref rb, .int (nI n)])), (rb, .inl (cB, 8192, .inl f)), (rx, .inl (cI, 128, .inl xs)), (ry, .inl (cI, 128, .inl ys)), (rs, .inl (cS, 128, .inr (.inr (.inr (.inr (fun i => some (ad i)))))))] ++ spw ad sp) H := hP
                      have hD : va_D A ([(r0, .inr (1, [.ref rw, .ref rx, .ref ry, .ref rs, .int nv, .int nt, .int ns, .int nw, .int wa, .int ((fl y.1 6 (wa + (14 * (nI k)))).1), .int ((fl y.1 6 (wa + (14 * (nI k)))).2.1), .int ((fl y.1 6 (wa + (14 * (nI k)))).2.2), .int (nI k)])), (rw, .inr (3, [.ref rb, .int (nI n)])), (rb, .inl (cB, 8192, .inl f)), (rx, .inl (cI, 128, .inl xs)), (ry, .inl (cI, 128, .inl ys)), (rs, .inl (cS, 128, .inr (.inr (.inr (.inr (fun i => some (ad i)))))))] ++ spw ad sp) := hD
                      refine lv_iinc (v := nI (o + 1)) (lv' := [(2, .int (nI (o + 1))), (0, .ref r0), (1, .int (nI k))]) hx hb d_Rd_seekMeeting_78 hl (k := 2) rfl (nI_1 o) (by decide) rfl (fun ls hl => ?_)
                      refine lv_goto (tgt := 28) hx hb d_Rd_seekMeeting_81 (by decide) ?_
                      exact ih9 (o + 1) ((fl y.1 6 (wa + (14 * (nI k)))), nI k) _ _ _ (by omega) (by rw [he2, mk1]; simp only [if_neg c_3, if_neg c_4, if_pos c_5, if_neg c_7, if_pos c_8, if_neg c_9]) hP hD hS (lv_sub hl [1, 2, 0] rfl)
            exact lp_9 k 0 z _ _ _ (by omega) (rfl) hP hD hS (lv_sub hl [1, 2, 0] rfl)
  exact lp_8 127 1 (q, fw) _ _ _ (by omega) (rfl) hP hD hS (lv_sub hl [1, 0] rfl)
end
section
/-! the place of a reading is within the row -/
def okq (n : Nat) (q : S3) : Prop := ∃ P : Nat, P ≤ n ∧ q.1 = nI P
theorem okq_fl {n : Nat} {q : S3} (h : okq n q) (a b : Int32) : okq n (fl q a b) := by
  unfold fl
  split
  · exact h
  · exact h
theorem okq_nx {f : Nat → Int32} {n : Nat} {q : S3} (hn : n ≤ 8192) (h : okq n q) : okq n (nx f n q).2 := by
  unfold nx
  split
  · split
    · exact okq_fl h _ _
    · rename_i h2
      obtain ⟨P, hP, e⟩ := h
      rw [e] at h2
      have h3 : P < n := by
        rcases Nat.lt_or_ge P n with q1 | q1
        · exact q1
        · exfalso
          apply h2
          rw [rg, if_neg (nI_pos (by omega)), if_pos (nI_le q1 (by omega))]
      exact ⟨P + 1, h3, by show q.1 + 1 = _; rw [e, nI_1]⟩
  · exact h
theorem okq_jd {n : Nat} {q : S3} (h : okq n q) (v lo hi pl : Int32) : okq n (jd q v lo hi pl).2 := by
  show okq n (jdS q v lo hi pl)
  unfold jdS
  split
  · exact okq_fl h _ _
  · split
    · exact h
    · exact okq_fl h _ _
theorem okq_sm {f : Nat → Int32} {n : Nat} {q : S3} (hn : n ≤ 8192) (h : okq n q) (lo hi : Int32) : okq n (sm f n q lo hi).2 := okq_jd (okq_nx hn h) _ _ _ _
theorem okq_sa {f : Nat → Int32} {n : Nat} {q : S3} (hn : n ≤ 8192) (h : okq n q) (hi : Int32) : okq n (sa f n q hi).2 := by
  unfold sa
  split
  · exact okq_nx hn h
  · exact okq_jd (okq_nx hn h) _ _ _ _
theorem okq_wd {f : Nat → Int32} {n : Nat} {q : S3} (hn : n ≤ 8192) (h : okq n q) (lo hi : Int32) : okq n (wd f n q lo hi).2 := okq_jd (okq_nx hn (okq_nx hn h)) _ _ _ _
theorem okq_ex {f : Nat → Int32} {n : Nat} {q : S3} (hn : n ≤ 8192) (h : okq n q) (a b : Int32) : okq n (ex f n q a b) := by
  unfold ex
  split
  · exact okq_nx hn h
  · exact okq_fl (okq_nx hn h) _ _
theorem okq_hd {f : Nat → Int32} {n : Nat} {q : S3} (hn : n ≤ 8192) (h : okq n q) : okq n (hd4 f n q).2 := okq_sm hn (okq_sm hn (okq_sm hn (okq_sm hn (okq_ex hn (okq_ex hn (okq_ex hn h _ _) _ _) _ _) _ _) _ _) _ _) _ _
theorem okq_vlp {f : Nat → Int32} {n : Nat} {v : Int32} (hn : n ≤ 8192) : ∀ (d k : Nat) (z : SV), okq n z.1 → okq n (vlp f n v d k z).1
  | 0, _, _, h => h
  | d + 1, k, z, h => by
    unfold vlp
    split
    · exact h
    · split
      · refine okq_vlp hn d (k + 1) (vst f n k z) ?_
        unfold vst
        dsimp only
        split
        · exact okq_wd hn (okq_wd hn h _ _) _ _
        · exact okq_fl (okq_wd hn (okq_wd hn h _ _) _ _) _ _
      · exact h
theorem okq_txi {f : Nat → Int32} {n : Nat} (hn : n ≤ 8192) : ∀ (d : Nat) (q : S3), okq n q → okq n (txi f n d q)
  | 0, _, h => h
  | d + 1, q, h => by
    unfold txi
    split
    · exact okq_txi hn d _ (okq_sm hn h _ _)
    · exact h
theorem okq_txl {f : Nat → Int32} {n : Nat} (hn : n ≤ 8192) : ∀ (d : Nat) (q : S3), okq n q → okq n (txl f n d q)
  | 0, _, h => h
  | d + 1, q, h => by
    unfold txl
    split
    · exact okq_txl hn d _ (okq_txi hn _ _ (okq_sm hn (okq_sm hn h _ _) _ _))
    · exact h
theorem okq_scl {f : Nat → Int32} {n : Nat} {t : Int32} (hn : n ≤ 8192) : ∀ (d : Nat) (q : S3), okq n q → okq n (scl f n t d q)
  | 0, _, h => h
  | d + 1, q, h => by
    unfold scl
    split
    · exact okq_scl hn d _ (okq_sm hn (okq_sm hn (okq_sm hn (okq_sa hn (okq_sm hn (okq_wd hn (okq_wd hn h _ _) _ _) _ _) _) _ _) _ _) _ _)
    · exact h
theorem okq_weS {f : Nat → Int32} {n : Nat} {v : Int32} {q : S3} (hn : n ≤ 8192) (h : okq n q) : okq n (weS f n v q) := by
  unfold weS
  split
  · exact okq_fl (okq_sm hn (okq_sm hn h _ _) _ _) _ _
  · exact okq_sm hn (okq_sm hn h _ _) _ _
theorem okq_wt3 {f : Nat → Int32} {n : Nat} {hi : Int32} {q : S3} (hn : n ≤ 8192) (h : okq n q) : okq n (wt3 f n hi q) := okq_sa hn (okq_sa hn (okq_sa hn h _) _) _
theorem okq_wl4 {f : Nat → Int32} {n : Nat} {v t s : Int32} {q : S3} (hn : n ≤ 8192) (h : okq n q) : okq n (wl4 f n v t s q) := okq_sm hn (okq_sm hn (okq_sm hn (okq_sm hn (okq_wt3 hn (okq_wt3 hn (okq_sa hn (okq_sm hn (okq_weS hn h) _ _) _))) _ _) _ _) _ _) _ _
theorem okq_wlp {f : Nat → Int32} {n : Nat} {v t s w : Int32} {xs ys : Nat → Int32} (hn : n ≤ 8192) : ∀ (d k : Nat) (z : SW), okq n z.1 → okq n (wlp f n v t s w xs ys d k z).1
  | 0, _, _, h => h
  | d + 1, k, z, h => by
    unfold wlp
    split
    · exact h
    · split
      · exact okq_wlp hn d (k + 1) (wst f n v t s xs ys k z) (by simp only [wst]; exact okq_wl4 hn h)
      · exact h
theorem okq_stS {f : Nat → Int32} {n : Nat} {s : Int32} {q : S3} (hn : n ≤ 8192) (h : okq n q) : okq n (stS f n s q) := okq_sm hn (okq_sm hn (okq_wd hn (okq_wd hn h _ _) _ _) _ _) _ _
theorem hd2_rng (f : Nat → Int32) (n : Nat) (q : S3) : ∃ a : Nat, a ≤ 16 ∧ (hd2 f n q).1 = nI a := sm_rng f n (hd1 f n q).2 16 (by omega)
theorem hd1_rng (f : Nat → Int32) (n : Nat) (q : S3) : ∃ a : Nat, a ≤ 128 ∧ (hd1 f n q).1 = nI a := sm_rng f n (hdS f n q) 128 (by omega)
theorem hd4_rng (f : Nat → Int32) (n : Nat) (q : S3) : ∃ a : Nat, a ≤ 128 ∧ (hd4 f n q).1 = nI a := sm_rng f n (hd3 f n q).2 128 (by omega)
theorem hd3_rng (f : Nat → Int32) (n : Nat) (q : S3) : ∃ a : Nat, a ≤ 32 ∧ (hd3 f n q).1 = nI a := by
  rcases jd_rng (nx f n (hd2 f n q).2).2 (nx f n (hd2 f n q).2).1 1 32 (hd2 f n q).2.1 with h1 | ⟨h1, h2, h3, -⟩
  · exact ⟨0, Nat.zero_le _, h1⟩
  · have h0 : ¬ (nx f n (hd2 f n q).2).1 < 0 := fun h => h1 (Int32.lt_trans h (by decide))
    obtain ⟨j, hj, ej⟩ := nI_of h0
    refine ⟨j, ?_, h3.trans ej⟩
    rw [ej] at h2
    exact (nI_leI (b := 32) hj (by omega)).mp h2
/-! THE WHOLE READING -/
def jq0 : S3 := (0, 0, -1)
def jv (f : Nat → Int32) (n : Nat) (xs ys : Nat → Int32) : SV := vlp f n (hd1 f n jq0).1 128 0 ((hd4 f n jq0).2, xs, ys)
def jt (f : Nat → Int32) (n : Nat) (xs ys : Nat → Int32) : S3 := txl f n (hd2 f n jq0).1.toNatClampNeg (jv f n xs ys).1
def js (f : Nat → Int32) (n : Nat) (xs ys : Nat → Int32) : S3 := scl f n (hd2 f n jq0).1 (hd3 f n jq0).1.toNatClampNeg (jt f n xs ys)
def jw (f : Nat → Int32) (n : Nat) (xs ys : Nat → Int32) (sp : Nat → E4) : SW := wlp f n (hd1 f n jq0).1 (hd2 f n jq0).1 (hd3 f n jq0).1 (hd4 f n jq0).1 (jv f n xs ys).2.1 (jv f n xs ys).2.2 128 0 (js f n xs ys, sp)
def jst (f : Nat → Int32) (n : Nat) (xs ys : Nat → Int32) (sp : Nat → E4) : S3 := stS f n (hd3 f n jq0).1 (jw f n xs ys sp).1
def jen (f : Nat → Int32) (n : Nat) (xs ys : Nat → Int32) (sp : Nat → E4) : S3 := enS f n (jst f n xs ys sp)
def jm (f : Nat → Int32) (n : Nat) (xs ys : Nat → Int32) (sp : Nat → E4) : SM := mk2 (jw f n xs ys sp).2 (js f n xs ys).1 (hd4 f n jq0).1 127 1 (jen f n xs ys sp, -1)
end
section
set_option maxRecDepth 100000 in
set_option maxHeartbeats 4000000 in
/-- Reader.judge: the whole reading -/
theorem c_Rd_judge (l : Launch) (D : va_G) (cB cI cS : ClassId) (r0 rw rx ry rs rb : Nat) (nv nt ns nw wa fw : Int32) (q : S3) (f : Nat → Int32) (n : Nat) (xs ys : Nat → Int32) (ad : Nat → Nat) (sp : Nat → E4) (hn : n ≤ 8192) : mI l y_Rd_judge b_Rd_judge 1 (some .int) 5 D cls [(cB, .byte), (cI, .int), (cS, .object "MapLumps$Span")] [.ref r0] ([(r0, .inr (1, [.ref rw, .ref rx, .ref ry, .ref rs, .int nv, .int nt, .int ns, .int nw, .int wa, .int q.1, .int q.2.1, .int q.2.2, .int fw])), (rw, .inr (3, [.ref rb, .int (nI n)])), (rb, .inl (cB, 8192, .inl f)), (rx, .inl (cI, 128, .inl xs)), (ry, .inl (cI, 128, .inl ys)), (rs, .inl (cS, 128, .inr (.inr (.inr (.inr (fun i => some (ad i)))))))] ++ spw ad sp) ((jm f n xs ys sp).1.2.1) ([(r0, .inr (1, [.ref rw, .ref rx, .ref ry, .ref rs, .int ((hd1 f n jq0).1), .int ((hd2 f n jq0).1), .int ((hd3 f n jq0).1), .int ((hd4 f n jq0).1), .int ((js f n xs ys).1), .int ((jm f n xs ys sp).1.1), .int ((jm f n xs ys sp).1.2.1), .int ((jm f n xs ys sp).1.2.2), .int ((jm f n xs ys sp).2)])), (rw, .inr (3, [.ref rb, .int (nI n)])), (rb, .inl (cB, 8192, .inl f)), (rx, .inl (cI, 128, .inl ((jv f n xs ys).2.1))), (ry, .inl (cI, 128, .inl ((jv f n xs ys).2.2))), (rs, .inl (cS, 128, .inr (.inr (.inr (.inr (fun i => some (ad i)))))))] ++ spw ad (jw f n xs ys sp).2) := by
  refine pz_openI (by decide) (Nat.le_of_ble_eq_true rfl) ?_
  intro p e s m below meth c A ls Q X hN hK hP hD hS hA hl fin
  obtain ⟨hx, hb, hml, hown, hts⟩ := id X
  have hl : lv_has ls 1 [(0, .ref r0)] := hl
  refine lv_aload_n hx hb d_Rd_judge_0 rfl (lv_at hl 0 rfl) ?_
  refine lv_iconst (v := 0) hx hb d_Rd_judge_1 (by decide) ?_
  refine va_put (D := D) (ci := 1) (v := .int 0) (ty := (.int)) (C := R_Rd) (T := T_Rd) (N := 13) hx hb hts i_Rd ty_Rd tyok_Rd nm_Rd hown hK hP hD hS 0 rfl rfl 9 (by decide) (hts _ w_83) (fun _ h9 => h9) rfl (by decide +kernel) rfl rfl (Nat.le_of_ble_eq_true rfl) d_Rd_judge_2 (fun H locs hP hD hS => ?_)
  have hP : va_P D cls ([(r0, .inr (1, [.ref rw, .ref rx, .ref ry, .ref rs, .int nv, .int nt, .int ns, .int nw, .int wa, .int 0, .int q.2.1, .int q.2.2, .int fw])), (rw, .inr (3, [.ref rb, .int (nI n)])), (rb, .inl (cB, 8192, .inl f)), (rx, .inl (cI, 128, .inl xs)), (ry, .inl (cI, 128, .inl ys)), (rs, .inl (cS, 128, .inr (.inr (.inr (.inr (fun i => some (ad i)))))))] ++ spw ad sp) H := hP
  have hD : va_D A ([(r0, .inr (1, [.ref rw, .ref rx, .ref ry, .ref rs, .int nv, .int nt, .int ns, .int nw, .int wa, .int 0, .int q.2.1, .int q.2.2, .int fw])), (rw, .inr (3, [.ref rb, .int (nI n)])), (rb, .inl (cB, 8192, .inl f)), (rx, .inl (cI, 128, .inl xs)), (ry, .inl (cI, 128, .inl ys)), (rs, .inl (cS, 128, .inr (.inr (.inr (.inr (fun i => some (ad i)))))))] ++ spw ad sp) := hD
  refine lv_aload_n hx hb d_Rd_judge_5 rfl (lv_at hl 0 rfl) ?_
  refine lv_iconst (v := 0) hx hb d_Rd_judge_6 (by decide) ?_
  refine va_put (D := D) (ci := 1) (v := .int 0) (ty := (.int)) (C := R_Rd) (T := T_Rd) (N := 13) hx hb hts i_Rd ty_Rd tyok_Rd nm_Rd hown hK hP hD hS 0 rfl rfl 10 (by decide) (hts _ w_84) (fun _ h9 => h9) rfl (by decide +kernel) rfl rfl (Nat.le_of_ble_eq_true rfl) d_Rd_judge_7 (fun H locs hP hD hS => ?_)
  have hP : va_P D cls ([(r0, .inr (1, [.ref rw, .ref rx, .ref ry, .ref rs, .int nv, .int nt, .int ns, .int nw, .int wa, .int 0, .int 0, .int q.2.2, .int fw])), (rw, .inr (3, [.ref rb, .int (nI n)])), (rb, .inl (cB, 8192, .inl f)), (rx, .inl (cI, 128, .inl xs)), (ry, .inl (cI, 128, .inl ys)), (rs, .inl (cS, 128, .inr (.inr (.inr (.inr (fun i => some (ad i)))))))] ++ spw ad sp) H := hP
  have hD : va_D A ([(r0, .inr (1, [.ref rw, .ref rx, .ref ry, .ref rs, .int nv, .int nt, .int ns, .int nw, .int wa, .int 0, .int 0, .int q.2.2, .int fw])), (rw, .inr (3, [.ref rb, .int (nI n)])), (rb, .inl (cB, 8192, .inl f)), (rx, .inl (cI, 128, .inl xs)), (ry, .inl (cI, 128, .inl ys)), (rs, .inl (cS, 128, .inr (.inr (.inr (.inr (fun i => some (ad i)))))))] ++ spw ad sp) := hD
  refine lv_aload_n hx hb d_Rd_judge_10 rfl (lv_at hl 0 rfl) ?_
  refine lv_iconst (v := (-1)) hx hb d_Rd_judge_11 (by decide) ?_
  refine va_put (D := D) (ci := 1) (v := .int (-1)) (ty := (.int)) (C := R_Rd) (T := T_Rd) (N := 13) hx hb hts i_Rd ty_Rd tyok_Rd nm_Rd hown hK hP hD hS 0 rfl rfl 11 (by decide) (hts _ w_86) (fun _ h9 => h9) rfl (by decide +kernel) rfl rfl (Nat.le_of_ble_eq_true rfl) d_Rd_judge_12 (fun H locs hP hD hS => ?_)
  have hP : va_P D cls ([(r0, .inr (1, [.ref rw, .ref rx, .ref ry, .ref rs, .int nv, .int nt, .int ns, .int nw, .int wa, .int 0, .int 0, .int (-1), .int fw])), (rw, .inr (3, [.ref rb, .int (nI n)])), (rb, .inl (cB, 8192, .inl f)), (rx, .inl (cI, 128, .inl xs)), (ry, .inl (cI, 128, .inl ys)), (rs, .inl (cS, 128, .inr (.inr (.inr (.inr (fun i => some (ad i)))))))] ++ spw ad sp) H := hP
  have hD : va_D A ([(r0, .inr (1, [.ref rw, .ref rx, .ref ry, .ref rs, .int nv, .int nt, .int ns, .int nw, .int wa, .int 0, .int 0, .int (-1), .int fw])), (rw, .inr (3, [.ref rb, .int (nI n)])), (rb, .inl (cB, 8192, .inl f)), (rx, .inl (cI, 128, .inl xs)), (ry, .inl (cI, 128, .inl ys)), (rs, .inl (cS, 128, .inr (.inr (.inr (.inr (fun i => some (ad i)))))))] ++ spw ad sp) := hD
  refine lv_aload_n hx hb d_Rd_judge_15 rfl (lv_at hl 0 rfl) ?_
  refine lv_iconst (v := (-1)) hx hb d_Rd_judge_16 (by decide) ?_
  refine va_put (D := D) (ci := 1) (v := .int (-1)) (ty := (.int)) (C := R_Rd) (T := T_Rd) (N := 13) hx hb hts i_Rd ty_Rd tyok_Rd nm_Rd hown hK hP hD hS 0 rfl rfl 12 (by decide) (hts _ w_88) (fun _ h9 => h9) rfl (by decide +kernel) rfl rfl (Nat.le_of_ble_eq_true rfl) d_Rd_judge_17 (fun H locs hP hD hS => ?_)
  have hP : va_P D cls ([(r0, .inr (1, [.ref rw, .ref rx, .ref ry, .ref rs, .int nv, .int nt, .int ns, .int nw, .int wa, .int 0, .int 0, .int (-1), .int (-1)])), (rw, .inr (3, [.ref rb, .int (nI n)])), (rb, .inl (cB, 8192, .inl f)), (rx, .inl (cI, 128, .inl xs)), (ry, .inl (cI, 128, .inl ys)), (rs, .inl (cS, 128, .inr (.inr (.inr (.inr (fun i => some (ad i)))))))] ++ spw ad sp) H := hP
  have hD : va_D A ([(r0, .inr (1, [.ref rw, .ref rx, .ref ry, .ref rs, .int nv, .int nt, .int ns, .int nw, .int wa, .int 0, .int 0, .int (-1), .int (-1)])), (rw, .inr (3, [.ref rb, .int (nI n)])), (rb, .inl (cB, 8192, .inl f)), (rx, .inl (cI, 128, .inl xs)), (ry, .inl (cI, 128, .inl ys)), (rs, .inl (cS, 128, .inr (.inr (.inr (.inr (fun i => some (ad i)))))))] ++ spw ad sp) := hD
  refine lv_aload_n hx hb d_Rd_judge_20 rfl (lv_at hl 0 rfl) ?_
  refine pz_v (pz_rV (d := 3) (As := []) (rest := []) X hN (c_Rd_passHead l D cB cI cS r0 rw rx ry rs rb nv nt ns nw wa (-1) jq0 f n hn _) k_Rd_passHead w_216 ⟨by decide, by decide⟩ hK hP hD [0, 1, 2] rfl rfl 0 rfl rfl rfl rfl hl.1 rfl (Nat.le_of_ble_eq_true rfl) d_Rd_judge_21 ⟨Nat.zero_le _, Nat.zero_le _⟩) hP hD hS hA [0, 1, 2] rfl [r0, rw, rb] rfl rfl (fun H locs hP hD hS => ?_)
  have hP : va_P D cls ([(r0, .inr (1, [.ref rw, .ref rx, .ref ry, .ref rs, .int ((hd1 f n jq0).1), .int ((hd2 f n jq0).1), .int ((hd3 f n jq0).1), .int ((hd4 f n jq0).1), .int wa, .int (((hd4 f n jq0).2).1), .int (((hd4 f n jq0).2).2.1), .int (((hd4 f n jq0).2).2.2), .int (-1)])), (rw, .inr (3, [.ref rb, .int (nI n)])), (rb, .inl (cB, 8192, .inl f)), (rx, .inl (cI, 128, .inl xs)), (ry, .inl (cI, 128, .inl ys)), (rs, .inl (cS, 128, .inr (.inr (.inr (.inr (fun i => some (ad i)))))))] ++ spw ad sp) H := hP
  have hD : va_D A ([(r0, .inr (1, [.ref rw, .ref rx, .ref ry, .ref rs, .int ((hd1 f n jq0).1), .int ((hd2 f n jq0).1), .int ((hd3 f n jq0).1), .int ((hd4 f n jq0).1), .int wa, .int (((hd4 f n jq0).2).1), .int (((hd4 f n jq0).2).2.1), .int (((hd4 f n jq0).2).2.2), .int (-1)])), (rw, .inr (3, [.ref rb, .int (nI n)])), (rb, .inl (cB, 8192, .inl f)), (rx, .inl (cI, 128, .inl xs)), (ry, .inl (cI, 128, .inl ys)), (rs, .inl (cS, 128, .inr (.inr (.inr (.inr (fun i => some (ad i)))))))] ++ spw ad sp) := hD
  obtain ⟨T, hT, eT⟩ := hd2_rng f n jq0
  obtain ⟨U, hU, eU⟩ := hd3_rng f n jq0
  have ok0 : okq n (hd4 f n jq0).2 := okq_hd hn ⟨0, Nat.zero_le _, rfl⟩
  generalize eh1 : hd1 f n jq0 = Z1 at hP hD
  generalize eh2 : hd2 f n jq0 = Z2 at hP hD eT
  generalize eh3 : hd3 f n jq0 = Z3 at hP hD eU
  generalize eh4 : hd4 f n jq0 = Z4 at hP hD ok0
  have hP : va_P D cls ([(r0, .inr (1, [.ref rw, .ref rx, .ref ry, .ref rs, .int Z1.1, .int Z2.1, .int Z3.1, .int Z4.1, .int wa, .int Z4.2.1, .int Z4.2.2.1, .int Z4.2.2.2, .int (-1)])), (rw, .inr (3, [.ref rb, .int (nI n)])), (rb, .inl (cB, 8192, .inl f)), (rx, .inl (cI, 128, .inl xs)), (ry, .inl (cI, 128, .inl ys)), (rs, .inl (cS, 128, .inr (.inr (.inr (.inr (fun i => some (ad i)))))))] ++ spw ad sp) H := hP
  have hD : va_D A ([(r0, .inr (1, [.ref rw, .ref rx, .ref ry, .ref rs, .int Z1.1, .int Z2.1, .int Z3.1, .int Z4.1, .int wa, .int Z4.2.1, .int Z4.2.2.1, .int Z4.2.2.2, .int (-1)])), (rw, .inr (3, [.ref rb, .int (nI n)])), (rb, .inl (cB, 8192, .inl f)), (rx, .inl (cI, 128, .inl xs)), (ry, .inl (cI, 128, .inl ys)), (rs, .inl (cS, 128, .inr (.inr (.inr (.inr (fun i => some (ad i)))))))] ++ spw ad sp) := hD
  rw [eT, eU] at hP hD
  have hP : va_P D cls ([(r0, .inr (1, [.ref rw, .ref rx, .ref ry, .ref rs, .int Z1.1, .int (nI T), .int (nI U), .int Z4.1, .int wa, .int Z4.2.1, .int Z4.2.2.1, .int Z4.2.2.2, .int (-1)])), (rw, .inr (3, [.ref rb, .int (nI n)])), (rb, .inl (cB, 8192, .inl f)), (rx, .inl (cI, 128, .inl xs)), (ry, .inl (cI, 128, .inl ys)), (rs, .inl (cS, 128, .inr (.inr (.inr (.inr (fun i => some (ad i)))))))] ++ spw ad sp) H := hP
  have hD : va_D A ([(r0, .inr (1, [.ref rw, .ref rx, .ref ry, .ref rs, .int Z1.1, .int (nI T), .int (nI U), .int Z4.1, .int wa, .int Z4.2.1, .int Z4.2.2.1, .int Z4.2.2.2, .int (-1)])), (rw, .inr (3, [.ref rb, .int (nI n)])), (rb, .inl (cB, 8192, .inl f)), (rx, .inl (cI, 128, .inl xs)), (ry, .inl (cI, 128, .inl ys)), (rs, .inl (cS, 128, .inr (.inr (.inr (.inr (fun i => some (ad i)))))))] ++ spw ad sp) := hD
  refine lv_aload_n hx hb d_Rd_judge_24 rfl (lv_at hl 0 rfl) ?_
  refine pz_v (pz_rV (d := 3) (As := []) (rest := []) X hN (c_Rd_passVertices l D cB cI cS r0 rw rx ry rs rb Z1.1 (nI T) (nI U) Z4.1 wa (-1) Z4.2 f n xs ys hn _) k_Rd_passVertices w_244 ⟨by decide, by decide⟩ hK hP hD [0, 1, 2, 3, 4] rfl rfl 0 rfl rfl rfl rfl hl.1 rfl (Nat.le_of_ble_eq_true rfl) d_Rd_judge_25 ⟨Nat.zero_le _, Nat.zero_le _⟩) hP hD hS hA [0, 1, 2, 3, 4] rfl [r0, rw, rb, rx, ry] rfl rfl (fun H locs hP hD hS => ?_)
  generalize eg_1 : vlp f n Z1.1 128 0 (Z4.2, xs, ys) = g_1 at hP hD ⊢
  have hP : va_P D cls ([(r0, .inr (1, [.ref rw, .ref rx, .ref ry, .ref rs, .int Z1.1, .int (nI T), .int (nI U), .int Z4.1, .int wa, .int g_1.1.1, .int g_1.1.2.1, .int g_1.1.2.2, .int (-1)])), (rw, .inr (3, [.ref rb, .int (nI n)])), (rb, .inl (cB, 8192, .inl f)), (rx, .inl (cI, 128, .inl g_1.2.1)), (ry, .inl (cI, 128, .inl g_1.2.2)), (rs, .inl (cS, 128, .inr (.inr (.inr (.inr (fun i => some (ad i)))))))] ++ spw ad sp) H := hP
  have hD : va_D A ([(r0, .inr (1, [.ref rw, .ref rx, .ref ry, .ref rs, .int Z1.1, .int (nI T), .int (nI U), .int Z4.1, .int wa, .int g_1.1.1, .int g_1.1.2.1, .int g_1.1.2.2, .int (-1)])), (rw, .inr (3, [.ref rb, .int (nI n)])), (rb, .inl (cB, 8192, .inl f)), (rx, .inl (cI, 128, .inl g_1.2.1)), (ry, .inl (cI, 128, .inl g_1.2.2)), (rs, .inl (cS, 128, .inr (.inr (.inr (.inr (fun i => some (ad i)))))))] ++ spw ad sp) := hD
  have ok_g_1 : okq n g_1.1 := by rw [← eg_1]; exact okq_vlp hn 128 0 (Z4.2, xs, ys) ok0
  refine lv_aload_n hx hb d_Rd_judge_28 rfl (lv_at hl 0 rfl) ?_
  refine pz_v (pz_rV (d := 3) (As := []) (rest := []) X hN (c_Rd_passTextures l D cB cI cS r0 rw rx ry rs rb Z1.1 (nI U) Z4.1 wa (-1) g_1.1 f n T hn hT _) k_Rd_passTextures w_257 ⟨by decide, by decide⟩ hK hP hD [0, 1, 2] rfl rfl 0 rfl rfl rfl rfl hl.1 rfl (Nat.le_of_ble_eq_true rfl) d_Rd_judge_29 ⟨Nat.zero_le _, Nat.zero_le _⟩) hP hD hS hA [0, 1, 2] rfl [r0, rw, rb] rfl rfl (fun H locs hP hD hS => ?_)
  generalize eg_2 : txl f n T g_1.1 = g_2 at hP hD ⊢
  have hP : va_P D cls ([(r0, .inr (1, [.ref rw, .ref rx, .ref ry, .ref rs, .int Z1.1, .int (nI T), .int (nI U), .int Z4.1, .int wa, .int g_2.1, .int g_2.2.1, .int g_2.2.2, .int (-1)])), (rw, .inr (3, [.ref rb, .int (nI n)])), (rb, .inl (cB, 8192, .inl f)), (rx, .inl (cI, 128, .inl g_1.2.1)), (ry, .inl (cI, 128, .inl g_1.2.2)), (rs, .inl (cS, 128, .inr (.inr (.inr (.inr (fun i => some (ad i)))))))] ++ spw ad sp) H := hP
  have hD : va_D A ([(r0, .inr (1, [.ref rw, .ref rx, .ref ry, .ref rs, .int Z1.1, .int (nI T), .int (nI U), .int Z4.1, .int wa, .int g_2.1, .int g_2.2.1, .int g_2.2.2, .int (-1)])), (rw, .inr (3, [.ref rb, .int (nI n)])), (rb, .inl (cB, 8192, .inl f)), (rx, .inl (cI, 128, .inl g_1.2.1)), (ry, .inl (cI, 128, .inl g_1.2.2)), (rs, .inl (cS, 128, .inr (.inr (.inr (.inr (fun i => some (ad i)))))))] ++ spw ad sp) := hD
  have ok_g_2 : okq n g_2 := by rw [← eg_2]; exact okq_txl hn _ _ ok_g_1
  refine lv_aload_n hx hb d_Rd_judge_32 rfl (lv_at hl 0 rfl) ?_
  refine pz_v (pz_rV (d := 3) (As := []) (rest := []) X hN (c_Rd_passSectors l D cB cI cS r0 rw rx ry rs rb Z1.1 (nI T) Z4.1 wa (-1) g_2 f n U hn hU _) k_Rd_passSectors w_261 ⟨by decide, by decide⟩ hK hP hD [0, 1, 2] rfl rfl 0 rfl rfl rfl rfl hl.1 rfl (Nat.le_of_ble_eq_true rfl) d_Rd_judge_33 ⟨Nat.zero_le _, Nat.zero_le _⟩) hP hD hS hA [0, 1, 2] rfl [r0, rw, rb] rfl rfl (fun H locs hP hD hS => ?_)
  generalize eg_3 : scl f n (nI T) U g_2 = g_3 at hP hD ⊢
  have hP : va_P D cls ([(r0, .inr (1, [.ref rw, .ref rx, .ref ry, .ref rs, .int Z1.1, .int (nI T), .int (nI U), .int Z4.1, .int wa, .int g_3.1, .int g_3.2.1, .int g_3.2.2, .int (-1)])), (rw, .inr (3, [.ref rb, .int (nI n)])), (rb, .inl (cB, 8192, .inl f)), (rx, .inl (cI, 128, .inl g_1.2.1)), (ry, .inl (cI, 128, .inl g_1.2.2)), (rs, .inl (cS, 128, .inr (.inr (.inr (.inr (fun i => some (ad i)))))))] ++ spw ad sp) H := hP
  have hD : va_D A ([(r0, .inr (1, [.ref rw, .ref rx, .ref ry, .ref rs, .int Z1.1, .int (nI T), .int (nI U), .int Z4.1, .int wa, .int g_3.1, .int g_3.2.1, .int g_3.2.2, .int (-1)])), (rw, .inr (3, [.ref rb, .int (nI n)])), (rb, .inl (cB, 8192, .inl f)), (rx, .inl (cI, 128, .inl g_1.2.1)), (ry, .inl (cI, 128, .inl g_1.2.2)), (rs, .inl (cS, 128, .inr (.inr (.inr (.inr (fun i => some (ad i)))))))] ++ spw ad sp) := hD
  have ok_g_3 : okq n g_3 := by rw [← eg_3]; exact okq_scl hn _ _ ok_g_2
  refine lv_aload_n hx hb d_Rd_judge_36 rfl (lv_at hl 0 rfl) ?_
  refine pz_v (pz_rV (d := 4) (As := []) (rest := []) X hN (c_Rd_passWalls l D cB cI cS r0 rw rx ry rs rb Z1.1 (nI T) (nI U) Z4.1 wa (-1) g_3 f n g_1.2.1 g_1.2.2 ad sp hn _) k_Rd_passWalls w_269 ⟨by decide, by decide⟩ hK hP hD ([0, 1, 2, 3, 4, 5] ++ pls 6) (spw_hC [0, 1, 2, 3, 4, 5] rfl rfl (by decide)) (by decide +kernel) 0 rfl rfl rfl rfl hl.1 rfl (Nat.le_of_ble_eq_true rfl) d_Rd_judge_37 ⟨Nat.zero_le _, Nat.zero_le _⟩) hP hD hS hA ([0, 1, 2, 3, 4, 5] ++ pls 6) (spw_hC [0, 1, 2, 3, 4, 5] rfl rfl (by decide)) ([r0, rw, rb, rx, ry, rs] ++ (List.range 128).map ad) (spw_adr rfl) (spw_adr rfl) (fun H locs hP hD hS => ?_)
  generalize eg_4 : wlp f n Z1.1 (nI T) (nI U) Z4.1 g_1.2.1 g_1.2.2 128 0 (g_3, sp) = g_4 at hP hD ⊢
  rw [spw_put (L := 6) (X := [(r0, .inr (1, [.ref rw, .ref rx, .ref ry, .ref rs, .int Z1.1, .int (nI T), .int (nI U), .int Z4.1, .int wa, .int g_3.1, .int g_3.2.1, .int g_3.2.2, .int (-1)])), (rw, .inr (3, [.ref rb, .int (nI n)])), (rb, .inl (cB, 8192, .inl f)), (rx, .inl (cI, 128, .inl g_1.2.1)), (ry, .inl (cI, 128, .inl g_1.2.2)), (rs, .inl (cS, 128, .inr (.inr (.inr (.inr (fun i => some (ad i)))))))]) (wx := [(r0, .inr (1, [.ref rw, .ref rx, .ref ry, .ref rs, .int Z1.1, .int (nI T), .int (nI U), .int Z4.1, .int g_3.1, .int g_4.1.1, .int g_4.1.2.1, .int g_4.1.2.2, .int (-1)])), (rw, .inr (3, [.ref rb, .int (nI n)])), (rb, .inl (cB, 8192, .inl f)), (rx, .inl (cI, 128, .inl g_1.2.1)), (ry, .inl (cI, 128, .inl g_1.2.2)), (rs, .inl (cS, 128, .inr (.inr (.inr (.inr (fun i => some (ad i)))))))]) [0, 1, 2, 3, 4, 5] rfl rfl (by decide)] at hP hD
  have hP : va_P D cls ([(r0, .inr (1, [.ref rw, .ref rx, .ref ry, .ref rs, .int Z1.1, .int (nI T), .int (nI U), .int Z4.1, .int g_3.1, .int g_4.1.1, .int g_4.1.2.1, .int g_4.1.2.2, .int (-1)])), (rw, .inr (3, [.ref rb, .int (nI n)])), (rb, .inl (cB, 8192, .inl f)), (rx, .inl (cI, 128, .inl g_1.2.1)), (ry, .inl (cI, 128, .inl g_1.2.2)), (rs, .inl (cS, 128, .inr (.inr (.inr (.inr (fun i => some (ad i)))))))] ++ spw ad g_4.2) H := hP
  have hD : va_D A ([(r0, .inr (1, [.ref rw, .ref rx, .ref ry, .ref rs, .int Z1.1, .int (nI T), .int (nI U), .int Z4.1, .int g_3.1, .int g_4.1.1, .int g_4.1.2.1, .int g_4.1.2.2, .int (-1)])), (rw, .inr (3, [.ref rb, .int (nI n)])), (rb, .inl (cB, 8192, .inl f)), (rx, .inl (cI, 128, .inl g_1.2.1)), (ry, .inl (cI, 128, .inl g_1.2.2)), (rs, .inl (cS, 128, .inr (.inr (.inr (.inr (fun i => some (ad i)))))))] ++ spw ad g_4.2) := hD
  have ok_g_4 : okq n g_4.1 := by rw [← eg_4]; exact okq_wlp hn 128 0 (g_3, sp) ok_g_3
  refine lv_aload_n hx hb d_Rd_judge_40 rfl (lv_at hl 0 rfl) ?_
  refine pz_v (pz_rV (d := 3) (As := []) (rest := []) X hN (c_Rd_passStart l D cB cI cS r0 rw rx ry rs rb Z1.1 (nI T) (nI U) Z4.1 g_3.1 (-1) g_4.1 f n hn _) k_Rd_passStart w_291 ⟨by decide, by decide⟩ hK hP hD [0, 1, 2] rfl rfl 0 rfl rfl rfl rfl hl.1 rfl (Nat.le_of_ble_eq_true rfl) d_Rd_judge_41 ⟨Nat.zero_le _, Nat.zero_le _⟩) hP hD hS hA [0, 1, 2] rfl [r0, rw, rb] rfl rfl (fun H locs hP hD hS => ?_)
  generalize eg_5 : stS f n (nI U) g_4.1 = g_5 at hP hD ⊢
  have hP : va_P D cls ([(r0, .inr (1, [.ref rw, .ref rx, .ref ry, .ref rs, .int Z1.1, .int (nI T), .int (nI U), .int Z4.1, .int g_3.1, .int g_5.1, .int g_5.2.1, .int g_5.2.2, .int (-1)])), (rw, .inr (3, [.ref rb, .int (nI n)])), (rb, .inl (cB, 8192, .inl f)), (rx, .inl (cI, 128, .inl g_1.2.1)), (ry, .inl (cI, 128, .inl g_1.2.2)), (rs, .inl (cS, 128, .inr (.inr (.inr (.inr (fun i => some (ad i)))))))] ++ spw ad g_4.2) H := hP
  have hD : va_D A ([(r0, .inr (1, [.ref rw, .ref rx, .ref ry, .ref rs, .int Z1.1, .int (nI T), .int (nI U), .int Z4.1, .int g_3.1, .int g_5.1, .int g_5.2.1, .int g_5.2.2, .int (-1)])), (rw, .inr (3, [.ref rb, .int (nI n)])), (rb, .inl (cB, 8192, .inl f)), (rx, .inl (cI, 128, .inl g_1.2.1)), (ry, .inl (cI, 128, .inl g_1.2.2)), (rs, .inl (cS, 128, .inr (.inr (.inr (.inr (fun i => some (ad i)))))))] ++ spw ad g_4.2) := hD
  have ok_g_5 : okq n g_5 := by rw [← eg_5]; exact okq_stS hn ok_g_4
  obtain ⟨P, hPn, eP⟩ := ok_g_5
  rw [eP] at hP hD
  have hP : va_P D cls ([(r0, .inr (1, [.ref rw, .ref rx, .ref ry, .ref rs, .int Z1.1, .int (nI T), .int (nI U), .int Z4.1, .int g_3.1, .int (nI P), .int g_5.2.1, .int g_5.2.2, .int (-1)])), (rw, .inr (3, [.ref rb, .int (nI n)])), (rb, .inl (cB, 8192, .inl f)), (rx, .inl (cI, 128, .inl g_1.2.1)), (ry, .inl (cI, 128, .inl g_1.2.2)), (rs, .inl (cS, 128, .inr (.inr (.inr (.inr (fun i => some (ad i)))))))] ++ spw ad g_4.2) H := hP
  have hD : va_D A ([(r0, .inr (1, [.ref rw, .ref rx, .ref ry, .ref rs, .int Z1.1, .int (nI T), .int (nI U), .int Z4.1, .int g_3.1, .int (nI P), .int g_5.2.1, .int g_5.2.2, .int (-1)])), (rw, .inr (3, [.ref rb, .int (nI n)])), (rb, .inl (cB, 8192, .inl f)), (rx, .inl (cI, 128, .inl g_1.2.1)), (ry, .inl (cI, 128, .inl g_1.2.2)), (rs, .inl (cS, 128, .inr (.inr (.inr (.inr (fun i => some (ad i)))))))] ++ spw ad g_4.2) := hD
  refine lv_aload_n hx hb d_Rd_judge_44 rfl (lv_at hl 0 rfl) ?_
  refine pz_v (pz_rV (d := 3) (As := []) (rest := []) X hN (c_Rd_passEnd l D cB cI cS r0 rw rx ry rs rb Z1.1 (nI T) (nI U) Z4.1 g_3.1 (-1) P g_5.2 f n hn hPn _) k_Rd_passEnd w_295 ⟨by decide, by decide⟩ hK hP hD [0, 1, 2] rfl rfl 0 rfl rfl rfl rfl hl.1 rfl (Nat.le_of_ble_eq_true rfl) d_Rd_judge_45 ⟨Nat.zero_le _, Nat.zero_le _⟩) hP hD hS hA [0, 1, 2] rfl [r0, rw, rb] rfl rfl (fun H locs hP hD hS => ?_)
  generalize eg_6 : enS f n (nI P, g_5.2) = g_6 at hP hD ⊢
  have hP : va_P D cls ([(r0, .inr (1, [.ref rw, .ref rx, .ref ry, .ref rs, .int Z1.1, .int (nI T), .int (nI U), .int Z4.1, .int g_3.1, .int g_6.1, .int g_6.2.1, .int g_6.2.2, .int (-1)])), (rw, .inr (3, [.ref rb, .int (nI n)])), (rb, .inl (cB, 8192, .inl f)), (rx, .inl (cI, 128, .inl g_1.2.1)), (ry, .inl (cI, 128, .inl g_1.2.2)), (rs, .inl (cS, 128, .inr (.inr (.inr (.inr (fun i => some (ad i)))))))] ++ spw ad g_4.2) H := hP
  have hD : va_D A ([(r0, .inr (1, [.ref rw, .ref rx, .ref ry, .ref rs, .int Z1.1, .int (nI T), .int (nI U), .int Z4.1, .int g_3.1, .int g_6.1, .int g_6.2.1, .int g_6.2.2, .int (-1)])), (rw, .inr (3, [.ref rb, .int (nI n)])), (rb, .inl (cB, 8192, .inl f)), (rx, .inl (cI, 128, .inl g_1.2.1)), (ry, .inl (cI, 128, .inl g_1.2.2)), (rs, .inl (cS, 128, .inr (.inr (.inr (.inr (fun i => some (ad i)))))))] ++ spw ad g_4.2) := hD
  have eg_6 : enS f n g_5 = g_6 := (congrArg (enS f n) (Prod.ext eP rfl : g_5 = (nI P, g_5.2))).trans eg_6
  refine lv_aload_n hx hb d_Rd_judge_48 rfl (lv_at hl 0 rfl) ?_
  refine pz_v (pz_rV (d := 4) (As := []) (rest := []) X hN (c_Rd_seekMeeting l D cB cI cS r0 rw rx ry rs rb Z1.1 (nI T) (nI U) Z4.1 g_3.1 (-1) g_6 f n g_1.2.1 g_1.2.2 ad g_4.2 hn _) k_Rd_seekMeeting w_303 ⟨by decide, by decide⟩ hK hP hD ([0, 1, 2, 3, 4, 5] ++ pls 6) (spw_hC [0, 1, 2, 3, 4, 5] rfl rfl (by decide)) (by decide +kernel) 0 rfl rfl rfl rfl hl.1 rfl (Nat.le_of_ble_eq_true rfl) d_Rd_judge_49 ⟨Nat.zero_le _, Nat.zero_le _⟩) hP hD hS hA ([0, 1, 2, 3, 4, 5] ++ pls 6) (spw_hC [0, 1, 2, 3, 4, 5] rfl rfl (by decide)) ([r0, rw, rb, rx, ry, rs] ++ (List.range 128).map ad) (spw_adr rfl) (spw_adr rfl) (fun H locs hP hD hS => ?_)
  generalize eg_7 : mk2 g_4.2 g_3.1 Z4.1 127 1 (g_6, (-1)) = g_7 at hP hD ⊢
  rw [spw_put (L := 6) (X := [(r0, .inr (1, [.ref rw, .ref rx, .ref ry, .ref rs, .int Z1.1, .int (nI T), .int (nI U), .int Z4.1, .int g_3.1, .int g_6.1, .int g_6.2.1, .int g_6.2.2, .int (-1)])), (rw, .inr (3, [.ref rb, .int (nI n)])), (rb, .inl (cB, 8192, .inl f)), (rx, .inl (cI, 128, .inl g_1.2.1)), (ry, .inl (cI, 128, .inl g_1.2.2)), (rs, .inl (cS, 128, .inr (.inr (.inr (.inr (fun i => some (ad i)))))))]) (wx := [(r0, .inr (1, [.ref rw, .ref rx, .ref ry, .ref rs, .int Z1.1, .int (nI T), .int (nI U), .int Z4.1, .int g_3.1, .int g_7.1.1, .int g_7.1.2.1, .int g_7.1.2.2, .int g_7.2])), (rw, .inr (3, [.ref rb, .int (nI n)])), (rb, .inl (cB, 8192, .inl f)), (rx, .inl (cI, 128, .inl g_1.2.1)), (ry, .inl (cI, 128, .inl g_1.2.2)), (rs, .inl (cS, 128, .inr (.inr (.inr (.inr (fun i => some (ad i)))))))]) [0, 1, 2, 3, 4, 5] rfl rfl (by decide)] at hP hD
  have hP : va_P D cls ([(r0, .inr (1, [.ref rw, .ref rx, .ref ry, .ref rs, .int Z1.1, .int (nI T), .int (nI U), .int Z4.1, .int g_3.1, .int g_7.1.1, .int g_7.1.2.1, .int g_7.1.2.2, .int g_7.2])), (rw, .inr (3, [.ref rb, .int (nI n)])), (rb, .inl (cB, 8192, .inl f)), (rx, .inl (cI, 128, .inl g_1.2.1)), (ry, .inl (cI, 128, .inl g_1.2.2)), (rs, .inl (cS, 128, .inr (.inr (.inr (.inr (fun i => some (ad i)))))))] ++ spw ad g_4.2) H := hP
  have hD : va_D A ([(r0, .inr (1, [.ref rw, .ref rx, .ref ry, .ref rs, .int Z1.1, .int (nI T), .int (nI U), .int Z4.1, .int g_3.1, .int g_7.1.1, .int g_7.1.2.1, .int g_7.1.2.2, .int g_7.2])), (rw, .inr (3, [.ref rb, .int (nI n)])), (rb, .inl (cB, 8192, .inl f)), (rx, .inl (cI, 128, .inl g_1.2.1)), (ry, .inl (cI, 128, .inl g_1.2.2)), (rs, .inl (cS, 128, .inr (.inr (.inr (.inr (fun i => some (ad i)))))))] ++ spw ad g_4.2) := hD
  refine lv_aload_n hx hb d_Rd_judge_52 rfl (lv_at hl 0 rfl) ?_
  refine va_get (D := D) (ci := 1) (v := .int g_7.1.2.1) (C := R_Rd) (T := T_Rd) (N := 13) hx hb hts i_Rd hown hK hP 0 rfl rfl 10 (by decide) (hts _ w_84) (fun _ h9 => h9) rfl d_Rd_judge_53 ?_
  exact fin _ _ _ _ _ _ d_Rd_judge_56 hP hS (by simp only [jm, jen, jst, jw, js, jt, jv, eh1, eh2, eh3, eh4, eT, eU, nI_clamp (show T < 2 ^ 31 by omega), nI_clamp (show U < 2 ^ 31 by omega), eg_1, eg_2, eg_3, eg_4, eg_5, eg_6, eg_7]) (by simp only [jm, jen, jst, jw, js, jt, jv, eh1, eh2, eh3, eh4, eT, eU, nI_clamp (show T < 2 ^ 31 by omega), nI_clamp (show U < 2 ^ 31 by omega), eg_1, eg_2, eg_3, eg_4, eg_5, eg_6, eg_7])
end
section
/-! THE CLASS's map, as pure functions: f, n its bytes, g where its textures lie -/
def tat (g : Nat → Int32) (k : Int32) : Int32 := if k < 0 then 0 else if 16 ≤ k then 0 else g k.toNatClampNeg
def mwd (f : Nat → Int32) (n : Nat) (g : Nat → Int32) (k : Int32) : Int32 := 1 <<< (rg f n (tat g k) &&& 31)
def mht (f : Nat → Int32) (n : Nat) (g : Nat → Int32) (k : Int32) : Int32 := 1 <<< (rg f n (tat g k + 1) &&& 31)
def mtx (f : Nat → Int32) (n : Nat) (g : Nat → Int32) (k dn ac : Int32) : Int32 := if dn < 0 then -1 else if mht f n g k ≤ dn then -1 else if ac < 0 then -1 else if ac < mwd f n g k then rg f n (((tat g k + 2) + mwd f n g k * dn) + ac) else -1
abbrev SG : Type := Int32 × (Nat → Int32)
def tkS (f : Nat → Int32) (n : Nat) (k : Nat) (z : SG) : SG := (z.1 + (2 + mwd f n (upd z.2 k z.1) (nI k) * mht f n (upd z.2 k z.1) (nI k)), upd z.2 k z.1)
def tkl (f : Nat → Int32) (n : Nat) (tx : Int32) : Nat → Nat → SG → SG
  | 0, _, z => z
  | d + 1, k, z => if tx ≤ nI k then z else tkl f n tx d (k + 1) (tkS f n k z)
def mcn (pr c : Int32) : Int32 := if pr = 0 then -1 else c
end
section
set_option maxRecDepth 100000 in
set_option maxHeartbeats 4000000 in
/-- RoomMap.counted -/
theorem c_Mp_counted (l : Launch) (D : va_G) (cB cI cS : ClassId) (m0 mr mb mt : Nat) (pr mv mx ms mw ma mb_ mc_ : Int32) (f : Nat → Int32) (n : Nat) (g : Nat → Int32) (k : Int32)  : mI l y_Mp_counted b_Mp_counted 2 (some .int) 0 D cls [(cB, .byte), (cI, .int), (cS, .object "MapLumps$Span")] [.ref m0, .int k] ([(m0, .inr (2, [.ref mr, .ref mt, .int pr, .int mv, .int mx, .int ms, .int mw, .int ma, .int mb_, .int mc_])), (mr, .inr (3, [.ref mb, .int (nI n)])), (mb, .inl (cB, 8192, .inl f)), (mt, .inl (cI, 16, .inl g))]) (mcn pr k) ([(m0, .inr (2, [.ref mr, .ref mt, .int pr, .int mv, .int mx, .int ms, .int mw, .int ma, .int mb_, .int mc_])), (mr, .inr (3, [.ref mb, .int (nI n)])), (mb, .inl (cB, 8192, .inl f)), (mt, .inl (cI, 16, .inl g))]) := by
  refine pz_openI (by decide) (Nat.le_of_ble_eq_true rfl) ?_
  intro p e s m below meth c A ls Q X hN hK hP hD hS hA hl fin
  obtain ⟨hx, hb, hml, hown, hts⟩ := id X
  have hl : lv_has ls 2 [(0, .ref m0), (1, .int k)] := hl
  refine lv_aload_n hx hb d_Mp_counted_0 rfl (lv_at hl 0 rfl) ?_
  refine va_get (D := D) (ci := 2) (v := .int pr) (C := R_Mp) (T := T_Mp) (N := 10) hx hb hts i_Mp hown hK hP 0 rfl rfl 2 (by decide) (hts _ w_130) (fun _ h9 => h9) rfl d_Mp_counted_1 ?_
  refine lv_if_eq (tgt := 11) hx hb d_Mp_counted_4 (by decide) (fun c_1 => ?_) (fun c_1 => ?_)
  · refine lv_iconst (v := (-1)) hx hb d_Mp_counted_11 (by decide) ?_
    exact fin _ _ _ _ _ _ d_Mp_counted_12 hP hS (by simp only [mcn, if_pos c_1]) (rfl)
  · refine lv_iload_n hx hb d_Mp_counted_7 rfl (lv_at hl 1 rfl) ?_
    refine lv_goto (tgt := 12) hx hb d_Mp_counted_8 (by decide) ?_
    exact fin _ _ _ _ _ _ d_Mp_counted_12 hP hS (by simp only [mcn, if_neg c_1]) (rfl)

set_option maxRecDepth 100000 in
set_option maxHeartbeats 4000000 in
/-- RoomMap.textureAt -/
theorem c_Mp_textureAt (l : Launch) (D : va_G) (cB cI cS : ClassId) (m0 mr mb mt : Nat) (pr mv mx ms mw ma mb_ mc_ : Int32) (f : Nat → Int32) (n : Nat) (g : Nat → Int32) (k : Int32)  : mI l y_Mp_textureAt b_Mp_textureAt 2 (some .int) 0 D cls [(cB, .byte), (cI, .int), (cS, .object "MapLumps$Span")] [.ref m0, .int k] ([(m0, .inr (2, [.ref mr, .ref mt, .int pr, .int mv, .int mx, .int ms, .int mw, .int ma, .int mb_, .int mc_])), (mr, .inr (3, [.ref mb, .int (nI n)])), (mb, .inl (cB, 8192, .inl f)), (mt, .inl (cI, 16, .inl g))]) (tat g k) ([(m0, .inr (2, [.ref mr, .ref mt, .int pr, .int mv, .int mx, .int ms, .int mw, .int ma, .int mb_, .int mc_])), (mr, .inr (3, [.ref mb, .int (nI n)])), (mb, .inl (cB, 8192, .inl f)), (mt, .inl (cI, 16, .inl g))]) := by
  refine pz_openI (by decide) (Nat.le_of_ble_eq_true rfl) ?_
  intro p e s m below meth c A ls Q X hN hK hP hD hS hA hl fin
  obtain ⟨hx, hb, hml, hown, hts⟩ := id X
  have hl : lv_has ls 2 [(0, .ref m0), (1, .int k)] := hl
  refine lv_iload_n hx hb d_Mp_textureAt_0 rfl (lv_at hl 1 rfl) ?_
  refine lv_if_lt (tgt := 22) hx hb d_Mp_textureAt_1 (by decide) (fun c_1 => ?_) (fun c_1 => ?_)
  · refine lv_iconst (v := 0) hx hb d_Mp_textureAt_22 (by decide) ?_
    exact fin _ _ _ _ _ _ d_Mp_textureAt_23 hP hS (by simp only [tat, if_pos c_1]) (rfl)
  · refine lv_iload_n hx hb d_Mp_textureAt_4 rfl (lv_at hl 1 rfl) ?_
    refine lv_aload_n hx hb d_Mp_textureAt_5 rfl (lv_at hl 0 rfl) ?_
    refine va_get (D := D) (ci := 2) (v := .ref mt) (C := R_Mp) (T := T_Mp) (N := 10) hx hb hts i_Mp hown hK hP 0 rfl rfl 1 (by decide) (hts _ w_129) (fun _ h9 => h9) rfl d_Mp_textureAt_6 ?_
    refine va_alen hx hb hK hP 3 1 rfl rfl (v := 16) rfl d_Mp_textureAt_9 ?_
    refine lv_icmp_ge (tgt := 22) hx hb d_Mp_textureAt_10 (by decide) (fun c_2 => ?_) (fun c_2 => ?_)
    · refine lv_iconst (v := 0) hx hb d_Mp_textureAt_22 (by decide) ?_
      exact fin _ _ _ _ _ _ d_Mp_textureAt_23 hP hS (by simp only [tat, if_neg c_1, if_pos c_2]) (rfl)
    · refine lv_aload_n hx hb d_Mp_textureAt_13 rfl (lv_at hl 0 rfl) ?_
      refine va_get (D := D) (ci := 2) (v := .ref mt) (C := R_Mp) (T := T_Mp) (N := 10) hx hb hts i_Mp hown hK hP 0 rfl rfl 1 (by decide) (hts _ w_129) (fun _ h9 => h9) rfl d_Mp_textureAt_14 ?_
      refine lv_iload_n hx hb d_Mp_textureAt_17 rfl (lv_at hl 1 rfl) ?_
      refine va_iald hx hb hK hP 3 1 rfl rfl (in_a (n := 16) c_1 c_2 (by decide) (by decide)) d_Mp_textureAt_18 ?_
      refine lv_goto (tgt := 23) hx hb d_Mp_textureAt_19 (by decide) ?_
      exact fin _ _ _ _ _ _ d_Mp_textureAt_23 hP hS (by simp only [tat, if_neg c_1, if_neg c_2]) (rfl)

set_option maxRecDepth 100000 in
set_option maxHeartbeats 4000000 in
/-- RoomMap.width -/
theorem c_Mp_width (l : Launch) (D : va_G) (cB cI cS : ClassId) (m0 mr mb mt : Nat) (pr mv mx ms mw ma mb_ mc_ : Int32) (f : Nat → Int32) (n : Nat) (g : Nat → Int32) (k : Int32) (hn : n ≤ 8192) : mI l y_Mp_width b_Mp_width 2 (some .int) 1 D cls [(cB, .byte), (cI, .int), (cS, .object "MapLumps$Span")] [.ref m0, .int k] ([(m0, .inr (2, [.ref mr, .ref mt, .int pr, .int mv, .int mx, .int ms, .int mw, .int ma, .int mb_, .int mc_])), (mr, .inr (3, [.ref mb, .int (nI n)])), (mb, .inl (cB, 8192, .inl f)), (mt, .inl (cI, 16, .inl g))]) (mwd f n g k) ([(m0, .inr (2, [.ref mr, .ref mt, .int pr, .int mv, .int mx, .int ms, .int mw, .int ma, .int mb_, .int mc_])), (mr, .inr (3, [.ref mb, .int (nI n)])), (mb, .inl (cB, 8192, .inl f)), (mt, .inl (cI, 16, .inl g))]) := by
  refine pz_openI (by decide) (Nat.le_of_ble_eq_true rfl) ?_
  intro p e s m below meth c A ls Q X hN hK hP hD hS hA hl fin
  obtain ⟨hx, hb, hml, hown, hts⟩ := id X
  have hl : lv_has ls 2 [(0, .ref m0), (1, .int k)] := hl
  refine lv_iconst (v := 1) hx hb d_Mp_width_0 (by decide) ?_
  refine lv_aload_n hx hb d_Mp_width_1 rfl (lv_at hl 0 rfl) ?_
  refine va_get (D := D) (ci := 2) (v := .ref mr) (C := R_Mp) (T := T_Mp) (N := 10) hx hb hts i_Mp hown hK hP 0 rfl rfl 0 (by decide) (hts _ w_127) (fun _ h9 => h9) rfl d_Mp_width_2 ?_
  refine lv_aload_n hx hb d_Mp_width_5 rfl (lv_at hl 0 rfl) ?_
  refine lv_iload_n hx hb d_Mp_width_6 rfl (lv_at hl 1 rfl) ?_
  refine pz_i0 (pz_rV (d := 0) (As := [.int k]) (rest := [.ref mr, .int 1]) X hN (c_Mp_textureAt l D cB cI cS m0 mr mb mt pr mv mx ms mw ma mb_ mc_ f n g k _) k_Mp_textureAt w_348 ⟨by decide, by decide⟩ hK hP hD [0, 1, 2, 3] rfl rfl 0 rfl rfl rfl rfl hl.1 rfl (Nat.le_of_ble_eq_true rfl) d_Mp_width_7 ⟨Nat.zero_le _, Nat.zero_le _⟩) hP hD hS hA [0, 1, 2, 3] rfl (fun H locs hP hS => ?_)
  refine pz_i0 (pz_rV (d := 0) (As := [.int (tat g k)]) (rest := [.int 1]) X hN (c_Rw_get l D cB cI cS mr mb f n (tat g k) hn _) k_Rw_get w_343 ⟨by decide, by decide⟩ hK hP hD [1, 2] rfl rfl 1 rfl rfl rfl rfl hl.1 rfl (Nat.le_of_ble_eq_true rfl) d_Mp_width_10 ⟨Nat.zero_le _, Nat.zero_le _⟩) hP hD hS hA [1, 2] rfl (fun H locs hP hS => ?_)
  refine lv_ishl hx hb d_Mp_width_13 ?_
  exact fin _ _ _ _ _ _ d_Mp_width_14 hP hS (rfl) (rfl)

set_option maxRecDepth 100000 in
set_option maxHeartbeats 4000000 in
/-- RoomMap.height -/
theorem c_Mp_height (l : Launch) (D : va_G) (cB cI cS : ClassId) (m0 mr mb mt : Nat) (pr mv mx ms mw ma mb_ mc_ : Int32) (f : Nat → Int32) (n : Nat) (g : Nat → Int32) (k : Int32) (hn : n ≤ 8192) : mI l y_Mp_height b_Mp_height 2 (some .int) 1 D cls [(cB, .byte), (cI, .int), (cS, .object "MapLumps$Span")] [.ref m0, .int k] ([(m0, .inr (2, [.ref mr, .ref mt, .int pr, .int mv, .int mx, .int ms, .int mw, .int ma, .int mb_, .int mc_])), (mr, .inr (3, [.ref mb, .int (nI n)])), (mb, .inl (cB, 8192, .inl f)), (mt, .inl (cI, 16, .inl g))]) (mht f n g k) ([(m0, .inr (2, [.ref mr, .ref mt, .int pr, .int mv, .int mx, .int ms, .int mw, .int ma, .int mb_, .int mc_])), (mr, .inr (3, [.ref mb, .int (nI n)])), (mb, .inl (cB, 8192, .inl f)), (mt, .inl (cI, 16, .inl g))]) := by
  refine pz_openI (by decide) (Nat.le_of_ble_eq_true rfl) ?_
  intro p e s m below meth c A ls Q X hN hK hP hD hS hA hl fin
  obtain ⟨hx, hb, hml, hown, hts⟩ := id X
  have hl : lv_has ls 2 [(0, .ref m0), (1, .int k)] := hl
  refine lv_iconst (v := 1) hx hb d_Mp_height_0 (by decide) ?_
  refine lv_aload_n hx hb d_Mp_height_1 rfl (lv_at hl 0 rfl) ?_
  refine va_get (D := D) (ci := 2) (v := .ref mr) (C := R_Mp) (T := T_Mp) (N := 10) hx hb hts i_Mp hown hK hP 0 rfl rfl 0 (by decide) (hts _ w_127) (fun _ h9 => h9) rfl d_Mp_height_2 ?_
  refine lv_aload_n hx hb d_Mp_height_5 rfl (lv_at hl 0 rfl) ?_
  refine lv_iload_n hx hb d_Mp_height_6 rfl (lv_at hl 1 rfl) ?_
  refine pz_i0 (pz_rV (d := 0) (As := [.int k]) (rest := [.ref mr, .int 1]) X hN (c_Mp_textureAt l D cB cI cS m0 mr mb mt pr mv mx ms mw ma mb_ mc_ f n g k _) k_Mp_textureAt w_348 ⟨by decide, by decide⟩ hK hP hD [0, 1, 2, 3] rfl rfl 0 rfl rfl rfl rfl hl.1 rfl (Nat.le_of_ble_eq_true rfl) d_Mp_height_7 ⟨Nat.zero_le _, Nat.zero_le _⟩) hP hD hS hA [0, 1, 2, 3] rfl (fun H locs hP hS => ?_)
  refine lv_iconst (v := 1) hx hb d_Mp_height_10 (by decide) ?_
  refine lv_iadd hx hb d_Mp_height_11 ?_
  refine pz_i0 (pz_rV (d := 0) (As := [.int ((tat g k) + 1)]) (rest := [.int 1]) X hN (c_Rw_get l D cB cI cS mr mb f n ((tat g k) + 1) hn _) k_Rw_get w_343 ⟨by decide, by decide⟩ hK hP hD [1, 2] rfl rfl 1 rfl rfl rfl rfl hl.1 rfl (Nat.le_of_ble_eq_true rfl) d_Mp_height_12 ⟨Nat.zero_le _, Nat.zero_le _⟩) hP hD hS hA [1, 2] rfl (fun H locs hP hS => ?_)
  refine lv_ishl hx hb d_Mp_height_15 ?_
  exact fin _ _ _ _ _ _ d_Mp_height_16 hP hS (rfl) (rfl)

set_option maxRecDepth 100000 in
set_option maxHeartbeats 4000000 in
/-- RoomMap.texel -/
theorem c_Mp_texel (l : Launch) (D : va_G) (cB cI cS : ClassId) (m0 mr mb mt : Nat) (pr mv mx ms mw ma mb_ mc_ : Int32) (f : Nat → Int32) (n : Nat) (g : Nat → Int32) (k dn ac : Int32) (hn : n ≤ 8192) : mI l y_Mp_texel b_Mp_texel 5 (some .int) 2 D cls [(cB, .byte), (cI, .int), (cS, .object "MapLumps$Span")] [.ref m0, .int k, .int dn, .int ac] ([(m0, .inr (2, [.ref mr, .ref mt, .int pr, .int mv, .int mx, .int ms, .int mw, .int ma, .int mb_, .int mc_])), (mr, .inr (3, [.ref mb, .int (nI n)])), (mb, .inl (cB, 8192, .inl f)), (mt, .inl (cI, 16, .inl g))]) (mtx f n g k dn ac) ([(m0, .inr (2, [.ref mr, .ref mt, .int pr, .int mv, .int mx, .int ms, .int mw, .int ma, .int mb_, .int mc_])), (mr, .inr (3, [.ref mb, .int (nI n)])), (mb, .inl (cB, 8192, .inl f)), (mt, .inl (cI, 16, .inl g))]) := by
  refine pz_openI (by decide) (Nat.le_of_ble_eq_true rfl) ?_
  intro p e s m below meth c A ls Q X hN hK hP hD hS hA hl fin
  obtain ⟨hx, hb, hml, hown, hts⟩ := id X
  have hl : lv_has ls 5 [(0, .ref m0), (1, .int k), (2, .int dn), (3, .int ac)] := hl
  refine lv_aload_n hx hb d_Mp_texel_0 rfl (lv_at hl 0 rfl) ?_
  refine lv_iload_n hx hb d_Mp_texel_1 rfl (lv_at hl 1 rfl) ?_
  refine pz_i0 (pz_rV (d := 1) (As := [.int k]) (rest := []) X hN (c_Mp_width l D cB cI cS m0 mr mb mt pr mv mx ms mw ma mb_ mc_ f n g k hn _) k_Mp_width w_344 ⟨by decide, by decide⟩ hK hP hD [0, 1, 2, 3] rfl rfl 0 rfl rfl rfl rfl hl.1 rfl (Nat.le_of_ble_eq_true rfl) d_Mp_texel_2 ⟨Nat.zero_le _, Nat.zero_le _⟩) hP hD hS hA [0, 1, 2, 3] rfl (fun H locs hP hS => ?_)
  refine lv_istore (lv' := [(4, .int (mwd f n g k)), (0, .ref m0), (1, .int k), (2, .int dn), (3, .int ac)]) hx hb d_Mp_texel_5 hl (by decide) rfl (fun ls hl => ?_)
  refine lv_iload_n hx hb d_Mp_texel_7 rfl (lv_at hl 3 rfl) ?_
  refine lv_if_lt (tgt := 30) hx hb d_Mp_texel_8 (by decide) (fun c_1 => ?_) (fun c_1 => ?_)
  · refine lv_iconst (v := (-1)) hx hb d_Mp_texel_30 (by decide) ?_
    exact fin _ _ _ _ _ _ d_Mp_texel_31 hP hS (by simp only [mtx, if_pos c_1]) (rfl)
  · refine lv_iload_n hx hb d_Mp_texel_11 rfl (lv_at hl 3 rfl) ?_
    refine lv_aload_n hx hb d_Mp_texel_12 rfl (lv_at hl 1 rfl) ?_
    refine lv_iload_n hx hb d_Mp_texel_13 rfl (lv_at hl 2 rfl) ?_
    refine pz_i0 (pz_rV (d := 1) (As := [.int k]) (rest := [.int dn]) X hN (c_Mp_height l D cB cI cS m0 mr mb mt pr mv mx ms mw ma mb_ mc_ f n g k hn _) k_Mp_height w_352 ⟨by decide, by decide⟩ hK hP hD [0, 1, 2, 3] rfl rfl 0 rfl rfl rfl rfl hl.1 rfl (Nat.le_of_ble_eq_true rfl) d_Mp_texel_14 ⟨Nat.zero_le _, Nat.zero_le _⟩) hP hD hS hA [0, 1, 2, 3] rfl (fun H locs hP hS => ?_)
    refine lv_icmp_ge (tgt := 30) hx hb d_Mp_texel_17 (by decide) (fun c_2 => ?_) (fun c_2 => ?_)
    · refine lv_iconst (v := (-1)) hx hb d_Mp_texel_30 (by decide) ?_
      exact fin _ _ _ _ _ _ d_Mp_texel_31 hP hS (by simp only [mtx, if_neg c_1, if_pos c_2]) (rfl)
    · refine lv_iload_n hx hb d_Mp_texel_20 rfl (lv_at hl 4 rfl) ?_
      refine lv_if_lt (tgt := 30) hx hb d_Mp_texel_21 (by decide) (fun c_3 => ?_) (fun c_3 => ?_)
      · refine lv_iconst (v := (-1)) hx hb d_Mp_texel_30 (by decide) ?_
        exact fin _ _ _ _ _ _ d_Mp_texel_31 hP hS (by simp only [mtx, if_neg c_1, if_neg c_2, if_pos c_3]) (rfl)
      · refine lv_iload_n hx hb d_Mp_texel_24 rfl (lv_at hl 4 rfl) ?_
        refine lv_iload hx hb d_Mp_texel_25 (lv_at hl 0 rfl) ?_
        refine lv_icmp_lt (tgt := 32) hx hb d_Mp_texel_27 (by decide) (fun c_4 => ?_) (fun c_4 => ?_)
        · refine lv_aload_n hx hb d_Mp_texel_32 rfl (lv_at hl 1 rfl) ?_
          refine va_get (D := D) (ci := 2) (v := .ref mr) (C := R_Mp) (T := T_Mp) (N := 10) hx hb hts i_Mp hown hK hP 0 rfl rfl 0 (by decide) (hts _ w_127) (fun _ h9 => h9) rfl d_Mp_texel_33 ?_
          refine lv_aload_n hx hb d_Mp_texel_36 rfl (lv_at hl 1 rfl) ?_
          refine lv_iload_n hx hb d_Mp_texel_37 rfl (lv_at hl 2 rfl) ?_
          refine pz_i0 (pz_rV (d := 0) (As := [.int k]) (rest := [.ref mr]) X hN (c_Mp_textureAt l D cB cI cS m0 mr mb mt pr mv mx ms mw ma mb_ mc_ f n g k _) k_Mp_textureAt w_348 ⟨by decide, by decide⟩ hK hP hD [0, 1, 2, 3] rfl rfl 0 rfl rfl rfl rfl hl.1 rfl (Nat.le_of_ble_eq_true rfl) d_Mp_texel_38 ⟨Nat.zero_le _, Nat.zero_le _⟩) hP hD hS hA [0, 1, 2, 3] rfl (fun H locs hP hS => ?_)
          refine lv_iconst (v := 2) hx hb d_Mp_texel_41 (by decide) ?_
          refine lv_iadd hx hb d_Mp_texel_42 ?_
          refine lv_iload hx hb d_Mp_texel_43 (lv_at hl 0 rfl) ?_
          refine lv_iload_n hx hb d_Mp_texel_45 rfl (lv_at hl 3 rfl) ?_
          refine lv_imul hx hb d_Mp_texel_46 ?_
          refine lv_iadd hx hb d_Mp_texel_47 ?_
          refine lv_iload_n hx hb d_Mp_texel_48 rfl (lv_at hl 4 rfl) ?_
          refine lv_iadd hx hb d_Mp_texel_49 ?_
          refine pz_i0 (pz_rV (d := 0) (As := [.int ((((tat g k) + 2) + ((mwd f n g k) * dn)) + ac)]) (rest := []) X hN (c_Rw_get l D cB cI cS mr mb f n ((((tat g k) + 2) + ((mwd f n g k) * dn)) + ac) hn _) k_Rw_get w_343 ⟨by decide, by decide⟩ hK hP hD [1, 2] rfl rfl 1 rfl rfl rfl rfl hl.1 rfl (Nat.le_of_ble_eq_true rfl) d_Mp_texel_50 ⟨Nat.zero_le _, Nat.zero_le _⟩) hP hD hS hA [1, 2] rfl (fun H locs hP hS => ?_)
          exact fin _ _ _ _ _ _ d_Mp_texel_53 hP hS (by simp only [mtx, if_neg c_1, if_neg c_2, if_neg c_3, if_pos c_4]) (rfl)
        · refine lv_iconst (v := (-1)) hx hb d_Mp_texel_30 (by decide) ?_
          exact fin _ _ _ _ _ _ d_Mp_texel_31 hP hS (by simp only [mtx, if_neg c_1, if_neg c_2, if_neg c_3, if_neg c_4]) (rfl)

set_option maxRecDepth 100000 in
set_option maxHeartbeats 4000000 in
/-- RoomMap.take -/
theorem c_Mp_take (l : Launch) (D : va_G) (cB cI cS : ClassId) (m0 mr mb mt : Nat) (pr mv mx ms mw ma mb_ mc_ : Int32) (f : Nat → Int32) (n : Nat) (g : Nat → Int32) (h1 hd : Nat) (f2 : Nat → Int32) (n2 : Nat) (hn : n2 ≤ 8192) (hf : sb_Fit f2) : mV l y_Mp_take b_Mp_take 4 (none) 2 D cls [(cB, .byte), (cI, .int), (cS, .object "MapLumps$Span")] [.ref m0, .ref h1] ([(m0, .inr (2, [.ref mr, .ref mt, .int pr, .int mv, .int mx, .int ms, .int mw, .int ma, .int mb_, .int mc_])), (mr, .inr (3, [.ref mb, .int (nI n)])), (mb, .inl (cB, 8192, .inl f)), (mt, .inl (cI, 16, .inl g)), (h1, .inr (3, [.ref hd, .int (nI n2)])), (hd, .inl (cB, 8192, .inl f2))]) ([(m0, .inr (2, [.ref mr, .ref mt, .int 1, .int (rg (va_cpy f2 f 0 0 n2) n2 3), .int (rg (va_cpy f2 f 0 0 n2) n2 4), .int (rg (va_cpy f2 f 0 0 n2) n2 5), .int (rg (va_cpy f2 f 0 0 n2) n2 6), .int ((tkl (va_cpy f2 f 0 0 n2) n2 (rg (va_cpy f2 f 0 0 n2) n2 4) 16 0 (7 + 4 * (rg (va_cpy f2 f 0 0 n2) n2 3), g)).1), .int ((tkl (va_cpy f2 f 0 0 n2) n2 (rg (va_cpy f2 f 0 0 n2) n2 4) 16 0 (7 + 4 * (rg (va_cpy f2 f 0 0 n2) n2 3), g)).1 + 9 * (rg (va_cpy f2 f 0 0 n2) n2 5)), .int (((tkl (va_cpy f2 f 0 0 n2) n2 (rg (va_cpy f2 f 0 0 n2) n2 4) 16 0 (7 + 4 * (rg (va_cpy f2 f 0 0 n2) n2 3), g)).1 + 9 * (rg (va_cpy f2 f 0 0 n2) n2 5)) + 14 * (rg (va_cpy f2 f 0 0 n2) n2 6))])), (mr, .inr (3, [.ref mb, .int (nI n2)])), (mb, .inl (cB, 8192, .inl (va_cpy f2 f 0 0 n2))), (mt, .inl (cI, 16, .inl ((tkl (va_cpy f2 f 0 0 n2) n2 (rg (va_cpy f2 f 0 0 n2) n2 4) 16 0 (7 + 4 * (rg (va_cpy f2 f 0 0 n2) n2 3), g)).2))), (h1, .inr (3, [.ref hd, .int (nI n2)])), (hd, .inl (cB, 8192, .inl f2))]) := by
  refine pz_openV (by decide) (Nat.le_of_ble_eq_true rfl) ?_
  intro p e s m below meth c A ls Q X hN hK hP hD hS hA hl fin
  obtain ⟨hx, hb, hml, hown, hts⟩ := id X
  have hl : lv_has ls 4 [(0, .ref m0), (1, .ref h1)] := hl
  refine lv_aload_n hx hb d_Mp_take_0 rfl (lv_at hl 0 rfl) ?_
  refine va_get (D := D) (ci := 2) (v := .ref mr) (C := R_Mp) (T := T_Mp) (N := 10) hx hb hts i_Mp hown hK hP 0 rfl rfl 0 (by decide) (hts _ w_127) (fun _ h9 => h9) rfl d_Mp_take_1 ?_
  refine lv_aload_n hx hb d_Mp_take_4 rfl (lv_at hl 1 rfl) ?_
  refine pz_v (pz_rV (d := 1) (As := [.ref h1]) (rest := []) X hN (c_Rw_copy l D cB cI cS mr mb h1 hd f f2 n n2 hn hf _) k_Rw_copy w_336 ⟨by decide, by decide⟩ hK hP hD [1, 2, 4, 5] rfl rfl 1 rfl rfl rfl rfl hl.1 rfl (Nat.le_of_ble_eq_true rfl) d_Mp_take_5 ⟨Nat.zero_le _, Nat.zero_le _⟩) hP hD hS hA [1, 2, 4, 5] rfl [mr, mb, h1, hd] rfl rfl (fun H locs hP hD hS => ?_)
  have hP : va_P D cls ([(m0, .inr (2, [.ref mr, .ref mt, .int pr, .int mv, .int mx, .int ms, .int mw, .int ma, .int mb_, .int mc_])), (mr, .inr (3, [.ref mb, .int (nI n2)])), (mb, .inl (cB, 8192, .inl (va_cpy f2 f 0 0 n2))), (mt, .inl (cI, 16, .inl g)), (h1, .inr (3, [.ref hd, .int (nI n2)])), (hd, .inl (cB, 8192, .inl f2))]) H := hP
  have hD : va_D A ([(m0, .inr (2, [.ref mr, .ref mt, .int pr, .int mv, .int mx, .int ms, .int mw, .int ma, .int mb_, .int mc_])), (mr, .inr (3, [.ref mb, .int (nI n2)])), (mb, .inl (cB, 8192, .inl (va_cpy f2 f 0 0 n2))), (mt, .inl (cI, 16, .inl g)), (h1, .inr (3, [.ref hd, .int (nI n2)])), (hd, .inl (cB, 8192, .inl f2))]) := hD
  refine lv_aload_n hx hb d_Mp_take_8 rfl (lv_at hl 0 rfl) ?_
  refine lv_iconst (v := 1) hx hb d_Mp_take_9 (by decide) ?_
  refine va_put (D := D) (ci := 2) (v := .int 1) (ty := (.boolean)) (C := R_Mp) (T := T_Mp) (N := 10) hx hb hts i_Mp ty_Mp tyok_Mp nm_Mp hown hK hP hD hS 0 rfl rfl 2 (by decide) (hts _ w_130) (fun _ h9 => h9) rfl (by decide +kernel) rfl rfl (Nat.le_of_ble_eq_true rfl) d_Mp_take_10 (fun H locs hP hD hS => ?_)
  have hP : va_P D cls ([(m0, .inr (2, [.ref mr, .ref mt, .int 1, .int mv, .int mx, .int ms, .int mw, .int ma, .int mb_, .int mc_])), (mr, .inr (3, [.ref mb, .int (nI n2)])), (mb, .inl (cB, 8192, .inl (va_cpy f2 f 0 0 n2))), (mt, .inl (cI, 16, .inl g)), (h1, .inr (3, [.ref hd, .int (nI n2)])), (hd, .inl (cB, 8192, .inl f2))]) H := hP
  have hD : va_D A ([(m0, .inr (2, [.ref mr, .ref mt, .int 1, .int mv, .int mx, .int ms, .int mw, .int ma, .int mb_, .int mc_])), (mr, .inr (3, [.ref mb, .int (nI n2)])), (mb, .inl (cB, 8192, .inl (va_cpy f2 f 0 0 n2))), (mt, .inl (cI, 16, .inl g)), (h1, .inr (3, [.ref hd, .int (nI n2)])), (hd, .inl (cB, 8192, .inl f2))]) := hD
  refine lv_aload_n hx hb d_Mp_take_13 rfl (lv_at hl 0 rfl) ?_
  refine lv_aload_n hx hb d_Mp_take_14 rfl (lv_at hl 0 rfl) ?_
  refine va_get (D := D) (ci := 2) (v := .ref mr) (C := R_Mp) (T := T_Mp) (N := 10) hx hb hts i_Mp hown hK hP 0 rfl rfl 0 (by decide) (hts _ w_127) (fun _ h9 => h9) rfl d_Mp_take_15 ?_
  refine lv_iconst (v := 3) hx hb d_Mp_take_18 (by decide) ?_
  refine pz_i0 (pz_rV (d := 0) (As := [.int 3]) (rest := [.ref m0]) X hN (c_Rw_get l D cB cI cS mr mb (va_cpy f2 f 0 0 n2) n2 3 hn _) k_Rw_get w_343 ⟨by decide, by decide⟩ hK hP hD [1, 2] rfl rfl 1 rfl rfl rfl rfl hl.1 rfl (Nat.le_of_ble_eq_true rfl) d_Mp_take_19 ⟨Nat.zero_le _, Nat.zero_le _⟩) hP hD hS hA [1, 2] rfl (fun H locs hP hS => ?_)
  refine va_put (D := D) (ci := 2) (v := .int (rg (va_cpy f2 f 0 0 n2) n2 3)) (ty := (.int)) (C := R_Mp) (T := T_Mp) (N := 10) hx hb hts i_Mp ty_Mp tyok_Mp nm_Mp hown hK hP hD hS 0 rfl rfl 3 (by decide) (hts _ w_132) (fun _ h9 => h9) rfl (by decide +kernel) rfl rfl (Nat.le_of_ble_eq_true rfl) d_Mp_take_22 (fun H locs hP hD hS => ?_)
  have hP : va_P D cls ([(m0, .inr (2, [.ref mr, .ref mt, .int 1, .int (rg (va_cpy f2 f 0 0 n2) n2 3), .int mx, .int ms, .int mw, .int ma, .int mb_, .int mc_])), (mr, .inr (3, [.ref mb, .int (nI n2)])), (mb, .inl (cB, 8192, .inl (va_cpy f2 f 0 0 n2))), (mt, .inl (cI, 16, .inl g)), (h1, .inr (3, [.ref hd, .int (nI n2)])), (hd, .inl (cB, 8192, .inl f2))]) H := hP
  have hD : va_D A ([(m0, .inr (2, [.ref mr, .ref mt, .int 1, .int (rg (va_cpy f2 f 0 0 n2) n2 3), .int mx, .int ms, .int mw, .int ma, .int mb_, .int mc_])), (mr, .inr (3, [.ref mb, .int (nI n2)])), (mb, .inl (cB, 8192, .inl (va_cpy f2 f 0 0 n2))), (mt, .inl (cI, 16, .inl g)), (h1, .inr (3, [.ref hd, .int (nI n2)])), (hd, .inl (cB, 8192, .inl f2))]) := hD
  refine lv_aload_n hx hb d_Mp_take_25 rfl (lv_at hl 0 rfl) ?_
  refine lv_aload_n hx hb d_Mp_take_26 rfl (lv_at hl 0 rfl) ?_
  refine va_get (D := D) (ci := 2) (v := .ref mr) (C := R_Mp) (T := T_Mp) (N := 10) hx hb hts i_Mp hown hK hP 0 rfl rfl 0 (by decide) (hts _ w_127) (fun _ h9 => h9) rfl d_Mp_take_27 ?_
  refine lv_iconst (v := 4) hx hb d_Mp_take_30 (by decide) ?_
  refine pz_i0 (pz_rV (d := 0) (As := [.int 4]) (rest := [.ref m0]) X hN (c_Rw_get l D cB cI cS mr mb (va_cpy f2 f 0 0 n2) n2 4 hn _) k_Rw_get w_343 ⟨by decide, by decide⟩ hK hP hD [1, 2] rfl rfl 1 rfl rfl rfl rfl hl.1 rfl (Nat.le_of_ble_eq_true rfl) d_Mp_take_31 ⟨Nat.zero_le _, Nat.zero_le _⟩) hP hD hS hA [1, 2] rfl (fun H locs hP hS => ?_)
  refine va_put (D := D) (ci := 2) (v := .int (rg (va_cpy f2 f 0 0 n2) n2 4)) (ty := (.int)) (C := R_Mp) (T := T_Mp) (N := 10) hx hb hts i_Mp ty_Mp tyok_Mp nm_Mp hown hK hP hD hS 0 rfl rfl 4 (by decide) (hts _ w_134) (fun _ h9 => h9) rfl (by decide +kernel) rfl rfl (Nat.le_of_ble_eq_true rfl) d_Mp_take_34 (fun H locs hP hD hS => ?_)
  have hP : va_P D cls ([(m0, .inr (2, [.ref mr, .ref mt, .int 1, .int (rg (va_cpy f2 f 0 0 n2) n2 3), .int (rg (va_cpy f2 f 0 0 n2) n2 4), .int ms, .int mw, .int ma, .int mb_, .int mc_])), (mr, .inr (3, [.ref mb, .int (nI n2)])), (mb, .inl (cB, 8192, .inl (va_cpy f2 f 0 0 n2))), (mt, .inl (cI, 16, .inl g)), (h1, .inr (3, [.ref hd, .int (nI n2)])), (hd, .inl (cB, 8192, .inl f2))]) H := hP
  have hD : va_D A ([(m0, .inr (2, [.ref mr, .ref mt, .int 1, .int (rg (va_cpy f2 f 0 0 n2) n2 3), .int (rg (va_cpy f2 f 0 0 n2) n2 4), .int ms, .int mw, .int ma, .int mb_, .int mc_])), (mr, .inr (3, [.ref mb, .int (nI n2)])), (mb, .inl (cB, 8192, .inl (va_cpy f2 f 0 0 n2))), (mt, .inl (cI, 16, .inl g)), (h1, .inr (3, [.ref hd, .int (nI n2)])), (hd, .inl (cB, 8192, .inl f2))]) := hD
  refine lv_aload_n hx hb d_Mp_take_37 rfl (lv_at hl 0 rfl) ?_
  refine lv_aload_n hx hb d_Mp_take_38 rfl (lv_at hl 0 rfl) ?_
  refine va_get (D := D) (ci := 2) (v := .ref mr) (C := R_Mp) (T := T_Mp) (N := 10) hx hb hts i_Mp hown hK hP 0 rfl rfl 0 (by decide) (hts _ w_127) (fun _ h9 => h9) rfl d_Mp_take_39 ?_
  refine lv_iconst (v := 5) hx hb d_Mp_take_42 (by decide) ?_
  refine pz_i0 (pz_rV (d := 0) (As := [.int 5]) (rest := [.ref m0]) X hN (c_Rw_get l D cB cI cS mr mb (va_cpy f2 f 0 0 n2) n2 5 hn _) k_Rw_get w_343 ⟨by decide, by decide⟩ hK hP hD [1, 2] rfl rfl 1 rfl rfl rfl rfl hl.1 rfl (Nat.le_of_ble_eq_true rfl) d_Mp_take_43 ⟨Nat.zero_le _, Nat.zero_le _⟩) hP hD hS hA [1, 2] rfl (fun H locs hP hS => ?_)
  refine va_put (D := D) (ci := 2) (v := .int (rg (va_cpy f2 f 0 0 n2) n2 5)) (ty := (.int)) (C := R_Mp) (T := T_Mp) (N := 10) hx hb hts i_Mp ty_Mp tyok_Mp nm_Mp hown hK hP hD hS 0 rfl rfl 5 (by decide) (hts _ w_136) (fun _ h9 => h9) rfl (by decide +kernel) rfl rfl (Nat.le_of_ble_eq_true rfl) d_Mp_take_46 (fun H locs hP hD hS => ?_)
  have hP : va_P D cls ([(m0, .inr (2, [.ref mr, .ref mt, .int 1, .int (rg (va_cpy f2 f 0 0 n2) n2 3), .int (rg (va_cpy f2 f 0 0 n2) n2 4), .int (rg (va_cpy f2 f 0 0 n2) n2 5), .int mw, .int ma, .int mb_, .int mc_])), (mr, .inr (3, [.ref mb, .int (nI n2)])), (mb, .inl (cB, 8192, .inl (va_cpy f2 f 0 0 n2))), (mt, .inl (cI, 16, .inl g)), (h1, .inr (3, [.ref hd, .int (nI n2)])), (hd, .inl (cB, 8192, .inl f2))]) H := hP
  have hD : va_D A ([(m0, .inr (2, [.ref mr, .ref mt, .int 1, .int (rg (va_cpy f2 f 0 0 n2) n2 3), .int (rg (va_cpy f2 f 0 0 n2) n2 4), .int (rg (va_cpy f2 f 0 0 n2) n2 5), .int mw, .int ma, .int mb_, .int mc_])), (mr, .inr (3, [.ref mb, .int (nI n2)])), (mb, .inl (cB, 8192, .inl (va_cpy f2 f 0 0 n2))), (mt, .inl (cI, 16, .inl g)), (h1, .inr (3, [.ref hd, .int (nI n2)])), (hd, .inl (cB, 8192, .inl f2))]) := hD
  refine lv_aload_n hx hb d_Mp_take_49 rfl (lv_at hl 0 rfl) ?_
  refine lv_aload_n hx hb d_Mp_take_50 rfl (lv_at hl 0 rfl) ?_
  refine va_get (D := D) (ci := 2) (v := .ref mr) (C := R_Mp) (T := T_Mp) (N := 10) hx hb hts i_Mp hown hK hP 0 rfl rfl 0 (by decide) (hts _ w_127) (fun _ h9 => h9) rfl d_Mp_take_51 ?_
  refine lv_bipush (v := 6) hx hb d_Mp_take_54 (by decide) ?_
  refine pz_i0 (pz_rV (d := 0) (As := [.int 6]) (rest := [.ref m0]) X hN (c_Rw_get l D cB cI cS mr mb (va_cpy f2 f 0 0 n2) n2 6 hn _) k_Rw_get w_343 ⟨by decide, by decide⟩ hK hP hD [1, 2] rfl rfl 1 rfl rfl rfl rfl hl.1 rfl (Nat.le_of_ble_eq_true rfl) d_Mp_take_56 ⟨Nat.zero_le _, Nat.zero_le _⟩) hP hD hS hA [1, 2] rfl (fun H locs hP hS => ?_)
  refine va_put (D := D) (ci := 2) (v := .int (rg (va_cpy f2 f 0 0 n2) n2 6)) (ty := (.int)) (C := R_Mp) (T := T_Mp) (N := 10) hx hb hts i_Mp ty_Mp tyok_Mp nm_Mp hown hK hP hD hS 0 rfl rfl 6 (by decide) (hts _ w_138) (fun _ h9 => h9) rfl (by decide +kernel) rfl rfl (Nat.le_of_ble_eq_true rfl) d_Mp_take_59 (fun H locs hP hD hS => ?_)
  have hP : va_P D cls ([(m0, .inr (2, [.ref mr, .ref mt, .int 1, .int (rg (va_cpy f2 f 0 0 n2) n2 3), .int (rg (va_cpy f2 f 0 0 n2) n2 4), .int (rg (va_cpy f2 f 0 0 n2) n2 5), .int (rg (va_cpy f2 f 0 0 n2) n2 6), .int ma, .int mb_, .int mc_])), (mr, .inr (3, [.ref mb, .int (nI n2)])), (mb, .inl (cB, 8192, .inl (va_cpy f2 f 0 0 n2))), (mt, .inl (cI, 16, .inl g)), (h1, .inr (3, [.ref hd, .int (nI n2)])), (hd, .inl (cB, 8192, .inl f2))]) H := hP
  have hD : va_D A ([(m0, .inr (2, [.ref mr, .ref mt, .int 1, .int (rg (va_cpy f2 f 0 0 n2) n2 3), .int (rg (va_cpy f2 f 0 0 n2) n2 4), .int (rg (va_cpy f2 f 0 0 n2) n2 5), .int (rg (va_cpy f2 f 0 0 n2) n2 6), .int ma, .int mb_, .int mc_])), (mr, .inr (3, [.ref mb, .int (nI n2)])), (mb, .inl (cB, 8192, .inl (va_cpy f2 f 0 0 n2))), (mt, .inl (cI, 16, .inl g)), (h1, .inr (3, [.ref hd, .int (nI n2)])), (hd, .inl (cB, 8192, .inl f2))]) := hD
  refine lv_bipush (v := 7) hx hb d_Mp_take_62 (by decide) ?_
  refine lv_iconst (v := 4) hx hb d_Mp_take_64 (by decide) ?_
  refine lv_aload_n hx hb d_Mp_take_65 rfl (lv_at hl 0 rfl) ?_
  refine va_get (D := D) (ci := 2) (v := .int (rg (va_cpy f2 f 0 0 n2) n2 3)) (C := R_Mp) (T := T_Mp) (N := 10) hx hb hts i_Mp hown hK hP 0 rfl rfl 3 (by decide) (hts _ w_132) (fun _ h9 => h9) rfl d_Mp_take_66 ?_
  refine lv_imul hx hb d_Mp_take_69 ?_
  refine lv_iadd hx hb d_Mp_take_70 ?_
  refine lv_istore_n (lv' := [(2, .int (7 + (4 * (rg (va_cpy f2 f 0 0 n2) n2 3)))), (0, .ref m0), (1, .ref h1)]) hx hb d_Mp_take_71 rfl hl (by decide) rfl (fun ls hl => ?_)
  refine lv_iconst (v := 0) hx hb d_Mp_take_72 (by decide) ?_
  refine lv_istore_n (lv' := [(3, .int 0), (2, .int (7 + (4 * (rg (va_cpy f2 f 0 0 n2) n2 3)))), (0, .ref m0), (1, .ref h1)]) hx hb d_Mp_take_73 rfl hl (by decide) rfl (fun ls hl => ?_)
  have lp_2 : ∀ (j2 : Nat) (k : Nat) (z : SG) (ls : Array Slot) (H : Heap) (locs : List Loc), j2 + k = 16 → tkl (va_cpy f2 f 0 0 n2) n2 (rg (va_cpy f2 f 0 0 n2) n2 4) 16 0 (7 + 4 * (rg (va_cpy f2 f 0 0 n2) n2 3), g) = tkl (va_cpy f2 f 0 0 n2) n2 (rg (va_cpy f2 f 0 0 n2) n2 4) j2 k z → va_P D cls ([(m0, .inr (2, [.ref mr, .ref mt, .int 1, .int (rg (va_cpy f2 f 0 0 n2) n2 3), .int (rg (va_cpy f2 f 0 0 n2) n2 4), .int (rg (va_cpy f2 f 0 0 n2) n2 5), .int (rg (va_cpy f2 f 0 0 n2) n2 6), .int ma, .int mb_, .int mc_])), (mr, .inr (3, [.ref mb, .int (nI n2)])), (mb, .inl (cB, 8192, .inl (va_cpy f2 f 0 0 n2))), (mt, .inl (cI, 16, .inl z.2)), (h1, .inr (3, [.ref hd, .int (nI n2)])), (hd, .inl (cB, 8192, .inl f2))]) H → va_D A ([(m0, .inr (2, [.ref mr, .ref mt, .int 1, .int (rg (va_cpy f2 f 0 0 n2) n2 3), .int (rg (va_cpy f2 f 0 0 n2) n2 4), .int (rg (va_cpy f2 f 0 0 n2) n2 5), .int (rg (va_cpy f2 f 0 0 n2) n2 6), .int ma, .int mb_, .int mc_])), (mr, .inr (3, [.ref mb, .int (nI n2)])), (mb, .inl (cB, 8192, .inl (va_cpy f2 f 0 0 n2))), (mt, .inl (cI, 16, .inl z.2)), (h1, .inr (3, [.ref hd, .int (nI n2)])), (hd, .inl (cB, 8192, .inl f2))]) → va_S A s.heap H locs → lv_has ls 4 [(0, .ref m0), (1, .ref h1), (2, .int z.1), (3, .int (nI k))] → W p l e (rmd 2) s m ([.ref m0, .ref h1] : List Value).toArray below meth c H locs 0 0 Q (F0 m 74 ls []) := by
    intro j2
    induction j2 with
    | zero =>
      intro k z ls H locs hi he hP hD hS hl
      refine lv_iload_n hx hb d_Mp_take_74 rfl (lv_at hl 3 rfl) ?_
      refine lv_aload_n hx hb d_Mp_take_75 rfl (lv_at hl 0 rfl) ?_
      refine va_get (D := D) (ci := 2) (v := .int (rg (va_cpy f2 f 0 0 n2) n2 4)) (C := R_Mp) (T := T_Mp) (N := 10) hx hb hts i_Mp hown hK hP 0 rfl rfl 4 (by decide) (hts _ w_134) (fun _ h9 => h9) rfl d_Mp_take_76 ?_
      refine lv_icmp_ge (tgt := 120) hx hb d_Mp_take_79 (by decide) (fun c_1 => ?_) (fun c_1 => ?_)
      · refine lv_aload_n hx hb d_Mp_take_120 rfl (lv_at hl 0 rfl) ?_
        refine lv_iload_n hx hb d_Mp_take_121 rfl (lv_at hl 2 rfl) ?_
        refine va_put (D := D) (ci := 2) (v := .int z.1) (ty := (.int)) (C := R_Mp) (T := T_Mp) (N := 10) hx hb hts i_Mp ty_Mp tyok_Mp nm_Mp hown hK hP hD hS 0 rfl rfl 7 (by decide) (hts _ w_140) (fun _ h9 => h9) rfl (by decide +kernel) rfl rfl (Nat.le_of_ble_eq_true rfl) d_Mp_take_122 (fun H locs hP hD hS => ?_)
        have hP : va_P D cls ([(m0, .inr (2, [.ref mr, .ref mt, .int 1, .int (rg (va_cpy f2 f 0 0 n2) n2 3), .int (rg (va_cpy f2 f 0 0 n2) n2 4), .int (rg (va_cpy f2 f 0 0 n2) n2 5), .int (rg (va_cpy f2 f 0 0 n2) n2 6), .int z.1, .int mb_, .int mc_])), (mr, .inr (3, [.ref mb, .int (nI n2)])), (mb, .inl (cB, 8192, .inl (va_cpy f2 f 0 0 n2))), (mt, .inl (cI, 16, .inl z.2)), (h1, .inr (3, [.ref hd, .int (nI n2)])), (hd, .inl (cB, 8192, .inl f2))]) H := hP
        have hD : va_D A ([(m0, .inr (2, [.ref mr, .ref mt, .int 1, .int (rg (va_cpy f2 f 0 0 n2) n2 3), .int (rg (va_cpy f2 f 0 0 n2) n2 4), .int (rg (va_cpy f2 f 0 0 n2) n2 5), .int (rg (va_cpy f2 f 0 0 n2) n2 6), .int z.1, .int mb_, .int mc_])), (mr, .inr (3, [.ref mb, .int (nI n2)])), (mb, .inl (cB, 8192, .inl (va_cpy f2 f 0 0 n2))), (mt, .inl (cI, 16, .inl z.2)), (h1, .inr (3, [.ref hd, .int (nI n2)])), (hd, .inl (cB, 8192, .inl f2))]) := hD
        refine lv_aload_n hx hb d_Mp_take_125 rfl (lv_at hl 0 rfl) ?_
        refine lv_aload_n hx hb d_Mp_take_126 rfl (lv_at hl 0 rfl) ?_
        refine va_get (D := D) (ci := 2) (v := .int z.1) (C := R_Mp) (T := T_Mp) (N := 10) hx hb hts i_Mp hown hK hP 0 rfl rfl 7 (by decide) (hts _ w_140) (fun _ h9 => h9) rfl d_Mp_take_127 ?_
        refine lv_bipush (v := 9) hx hb d_Mp_take_130 (by decide) ?_
        refine lv_aload_n hx hb d_Mp_take_132 rfl (lv_at hl 0 rfl) ?_
        refine va_get (D := D) (ci := 2) (v := .int (rg (va_cpy f2 f 0 0 n2) n2 5)) (C := R_Mp) (T := T_Mp) (N := 10) hx hb hts i_Mp hown hK hP 0 rfl rfl 5 (by decide) (hts _ w_136) (fun _ h9 => h9) rfl d_Mp_take_133 ?_
        refine lv_imul hx hb d_Mp_take_136 ?_
        refine lv_iadd hx hb d_Mp_take_137 ?_
        refine va_put (D := D) (ci := 2) (v := .int (z.1 + (9 * (rg (va_cpy f2 f 0 0 n2) n2 5)))) (ty := (.int)) (C := R_Mp) (T := T_Mp) (N := 10) hx hb hts i_Mp ty_Mp tyok_Mp nm_Mp hown hK hP hD hS 0 rfl rfl 8 (by decide) (hts _ w_142) (fun _ h9 => h9) rfl (by decide +kernel) rfl rfl (Nat.le_of_ble_eq_true rfl) d_Mp_take_138 (fun H locs hP hD hS => ?_)
        have hP : va_P D cls ([(m0, .inr (2, [.ref mr, .ref mt, .int 1, .int (rg (va_cpy f2 f 0 0 n2) n2 3), .int (rg (va_cpy f2 f 0 0 n2) n2 4), .int (rg (va_cpy f2 f 0 0 n2) n2 5), .int (rg (va_cpy f2 f 0 0 n2) n2 6), .int z.1, .int (z.1 + (9 * (rg (va_cpy f2 f 0 0 n2) n2 5))), .int mc_])), (mr, .inr (3, [.ref mb, .int (nI n2)])), (mb, .inl (cB, 8192, .inl (va_cpy f2 f 0 0 n2))), (mt, .inl (cI, 16, .inl z.2)), (h1, .inr (3, [.ref hd, .int (nI n2)])), (hd, .inl (cB, 8192, .inl f2))]) H := hP
        have hD : va_D A ([(m0, .inr (2, [.ref mr, .ref mt, .int 1, .int (rg (va_cpy f2 f 0 0 n2) n2 3), .int (rg (va_cpy f2 f 0 0 n2) n2 4), .int (rg (va_cpy f2 f 0 0 n2) n2 5), .int (rg (va_cpy f2 f 0 0 n2) n2 6), .int z.1, .int (z.1 + (9 * (rg (va_cpy f2 f 0 0 n2) n2 5))), .int mc_])), (mr, .inr (3, [.ref mb, .int (nI n2)])), (mb, .inl (cB, 8192, .inl (va_cpy f2 f 0 0 n2))), (mt, .inl (cI, 16, .inl z.2)), (h1, .inr (3, [.ref hd, .int (nI n2)])), (hd, .inl (cB, 8192, .inl f2))]) := hD
        refine lv_aload_n hx hb d_Mp_take_141 rfl (lv_at hl 0 rfl) ?_
        refine lv_aload_n hx hb d_Mp_take_142 rfl (lv_at hl 0 rfl) ?_
        refine va_get (D := D) (ci := 2) (v := .int (z.1 + (9 * (rg (va_cpy f2 f 0 0 n2) n2 5)))) (C := R_Mp) (T := T_Mp) (N := 10) hx hb hts i_Mp hown hK hP 0 rfl rfl 8 (by decide) (hts _ w_142) (fun _ h9 => h9) rfl d_Mp_take_143 ?_
        refine lv_bipush (v := 14) hx hb d_Mp_take_146 (by decide) ?_
        refine lv_aload_n hx hb d_Mp_take_148 rfl (lv_at hl 0 rfl) ?_
        refine va_get (D := D) (ci := 2) (v := .int (rg (va_cpy f2 f 0 0 n2) n2 6)) (C := R_Mp) (T := T_Mp) (N := 10) hx hb hts i_Mp hown hK hP 0 rfl rfl 6 (by decide) (hts _ w_138) (fun _ h9 => h9) rfl d_Mp_take_149 ?_
        refine lv_imul hx hb d_Mp_take_152 ?_
        refine lv_iadd hx hb d_Mp_take_153 ?_
        refine va_put (D := D) (ci := 2) (v := .int ((z.1 + (9 * (rg (va_cpy f2 f 0 0 n2) n2 5))) + (14 * (rg (va_cpy f2 f 0 0 n2) n2 6)))) (ty := (.int)) (C := R_Mp) (T := T_Mp) (N := 10) hx hb hts i_Mp ty_Mp tyok_Mp nm_Mp hown hK hP hD hS 0 rfl rfl 9 (by decide) (hts _ w_144) (fun _ h9 => h9) rfl (by decide +kernel) rfl rfl (Nat.le_of_ble_eq_true rfl) d_Mp_take_154 (fun H locs hP hD hS => ?_)
        have hP : va_P D cls ([(m0, .inr (2, [.ref mr, .ref mt, .int 1, .int (rg (va_cpy f2 f 0 0 n2) n2 3), .int (rg (va_cpy f2 f 0 0 n2) n2 4), .int (rg (va_cpy f2 f 0 0 n2) n2 5), .int (rg (va_cpy f2 f 0 0 n2) n2 6), .int z.1, .int (z.1 + (9 * (rg (va_cpy f2 f 0 0 n2) n2 5))), .int ((z.1 + (9 * (rg (va_cpy f2 f 0 0 n2) n2 5))) + (14 * (rg (va_cpy f2 f 0 0 n2) n2 6)))])), (mr, .inr (3, [.ref mb, .int (nI n2)])), (mb, .inl (cB, 8192, .inl (va_cpy f2 f 0 0 n2))), (mt, .inl (cI, 16, .inl z.2)), (h1, .inr (3, [.ref hd, .int (nI n2)])), (hd, .inl (cB, 8192, .inl f2))]) H := hP
        have hD : va_D A ([(m0, .inr (2, [.ref mr, .ref mt, .int 1, .int (rg (va_cpy f2 f 0 0 n2) n2 3), .int (rg (va_cpy f2 f 0 0 n2) n2 4), .int (rg (va_cpy f2 f 0 0 n2) n2 5), .int (rg (va_cpy f2 f 0 0 n2) n2 6), .int z.1, .int (z.1 + (9 * (rg (va_cpy f2 f 0 0 n2) n2 5))), .int ((z.1 + (9 * (rg (va_cpy f2 f 0 0 n2) n2 5))) + (14 * (rg (va_cpy f2 f 0 0 n2) n2 6)))])), (mr, .inr (3, [.ref mb, .int (nI n2)])), (mb, .inl (cB, 8192, .inl (va_cpy f2 f 0 0 n2))), (mt, .inl (cI, 16, .inl z.2)), (h1, .inr (3, [.ref hd, .int (nI n2)])), (hd, .inl (cB, 8192, .inl f2))]) := hD
        exact fin _ _ _ _ _ d_Mp_take_157 hP hS (by rw [he]; simp only [tkl, if_pos c_1])
      · refine lv_iload_n hx hb d_Mp_take_82 rfl (lv_at hl 3 rfl) ?_
        refine lv_aload_n hx hb d_Mp_take_83 rfl (lv_at hl 0 rfl) ?_
        refine va_get (D := D) (ci := 2) (v := .ref mt) (C := R_Mp) (T := T_Mp) (N := 10) hx hb hts i_Mp hown hK hP 0 rfl rfl 1 (by decide) (hts _ w_129) (fun _ h9 => h9) rfl d_Mp_take_84 ?_
        refine va_alen hx hb hK hP 3 1 rfl rfl (v := 16) rfl d_Mp_take_87 ?_
        refine lv_icmp_ge (tgt := 120) hx hb d_Mp_take_88 (by decide) (fun c_2 => ?_) (fun c_2 => ?_)
        · refine lv_aload_n hx hb d_Mp_take_120 rfl (lv_at hl 0 rfl) ?_
          refine lv_iload_n hx hb d_Mp_take_121 rfl (lv_at hl 2 rfl) ?_
          refine va_put (D := D) (ci := 2) (v := .int z.1) (ty := (.int)) (C := R_Mp) (T := T_Mp) (N := 10) hx hb hts i_Mp ty_Mp tyok_Mp nm_Mp hown hK hP hD hS 0 rfl rfl 7 (by decide) (hts _ w_140) (fun _ h9 => h9) rfl (by decide +kernel) rfl rfl (Nat.le_of_ble_eq_true rfl) d_Mp_take_122 (fun H locs hP hD hS => ?_)
          have hP : va_P D cls ([(m0, .inr (2, [.ref mr, .ref mt, .int 1, .int (rg (va_cpy f2 f 0 0 n2) n2 3), .int (rg (va_cpy f2 f 0 0 n2) n2 4), .int (rg (va_cpy f2 f 0 0 n2) n2 5), .int (rg (va_cpy f2 f 0 0 n2) n2 6), .int z.1, .int mb_, .int mc_])), (mr, .inr (3, [.ref mb, .int (nI n2)])), (mb, .inl (cB, 8192, .inl (va_cpy f2 f 0 0 n2))), (mt, .inl (cI, 16, .inl z.2)), (h1, .inr (3, [.ref hd, .int (nI n2)])), (hd, .inl (cB, 8192, .inl f2))]) H := hP
          have hD : va_D A ([(m0, .inr (2, [.ref mr, .ref mt, .int 1, .int (rg (va_cpy f2 f 0 0 n2) n2 3), .int (rg (va_cpy f2 f 0 0 n2) n2 4), .int (rg (va_cpy f2 f 0 0 n2) n2 5), .int (rg (va_cpy f2 f 0 0 n2) n2 6), .int z.1, .int mb_, .int mc_])), (mr, .inr (3, [.ref mb, .int (nI n2)])), (mb, .inl (cB, 8192, .inl (va_cpy f2 f 0 0 n2))), (mt, .inl (cI, 16, .inl z.2)), (h1, .inr (3, [.ref hd, .int (nI n2)])), (hd, .inl (cB, 8192, .inl f2))]) := hD
          refine lv_aload_n hx hb d_Mp_take_125 rfl (lv_at hl 0 rfl) ?_
          refine lv_aload_n hx hb d_Mp_take_126 rfl (lv_at hl 0 rfl) ?_
          refine va_get (D := D) (ci := 2) (v := .int z.1) (C := R_Mp) (T := T_Mp) (N := 10) hx hb hts i_Mp hown hK hP 0 rfl rfl 7 (by decide) (hts _ w_140) (fun _ h9 => h9) rfl d_Mp_take_127 ?_
          refine lv_bipush (v := 9) hx hb d_Mp_take_130 (by decide) ?_
          refine lv_aload_n hx hb d_Mp_take_132 rfl (lv_at hl 0 rfl) ?_
          refine va_get (D := D) (ci := 2) (v := .int (rg (va_cpy f2 f 0 0 n2) n2 5)) (C := R_Mp) (T := T_Mp) (N := 10) hx hb hts i_Mp hown hK hP 0 rfl rfl 5 (by decide) (hts _ w_136) (fun _ h9 => h9) rfl d_Mp_take_133 ?_
          refine lv_imul hx hb d_Mp_take_136 ?_
          refine lv_iadd hx hb d_Mp_take_137 ?_
          refine va_put (D := D) (ci := 2) (v := .int (z.1 + (9 * (rg (va_cpy f2 f 0 0 n2) n2 5)))) (ty := (.int)) (C := R_Mp) (T := T_Mp) (N := 10) hx hb hts i_Mp ty_Mp tyok_Mp nm_Mp hown hK hP hD hS 0 rfl rfl 8 (by decide) (hts _ w_142) (fun _ h9 => h9) rfl (by decide +kernel) rfl rfl (Nat.le_of_ble_eq_true rfl) d_Mp_take_138 (fun H locs hP hD hS => ?_)
          have hP : va_P D cls ([(m0, .inr (2, [.ref mr, .ref mt, .int 1, .int (rg (va_cpy f2 f 0 0 n2) n2 3), .int (rg (va_cpy f2 f 0 0 n2) n2 4), .int (rg (va_cpy f2 f 0 0 n2) n2 5), .int (rg (va_cpy f2 f 0 0 n2) n2 6), .int z.1, .int (z.1 + (9 * (rg (va_cpy f2 f 0 0 n2) n2 5))), .int mc_])), (mr, .inr (3, [.ref mb, .int (nI n2)])), (mb, .inl (cB, 8192, .inl (va_cpy f2 f 0 0 n2))), (mt, .inl (cI, 16, .inl z.2)), (h1, .inr (3, [.ref hd, .int (nI n2)])), (hd, .inl (cB, 8192, .inl f2))]) H := hP
          have hD : va_D A ([(m0, .inr (2, [.ref mr, .ref mt, .int 1, .int (rg (va_cpy f2 f 0 0 n2) n2 3), .int (rg (va_cpy f2 f 0 0 n2) n2 4), .int (rg (va_cpy f2 f 0 0 n2) n2 5), .int (rg (va_cpy f2 f 0 0 n2) n2 6), .int z.1, .int (z.1 + (9 * (rg (va_cpy f2 f 0 0 n2) n2 5))), .int mc_])), (mr, .inr (3, [.ref mb, .int (nI n2)])), (mb, .inl (cB, 8192, .inl (va_cpy f2 f 0 0 n2))), (mt, .inl (cI, 16, .inl z.2)), (h1, .inr (3, [.ref hd, .int (nI n2)])), (hd, .inl (cB, 8192, .inl f2))]) := hD
          refine lv_aload_n hx hb d_Mp_take_141 rfl (lv_at hl 0 rfl) ?_
          refine lv_aload_n hx hb d_Mp_take_142 rfl (lv_at hl 0 rfl) ?_
          refine va_get (D := D) (ci := 2) (v := .int (z.1 + (9 * (rg (va_cpy f2 f 0 0 n2) n2 5)))) (C := R_Mp) (T := T_Mp) (N := 10) hx hb hts i_Mp hown hK hP 0 rfl rfl 8 (by decide) (hts _ w_142) (fun _ h9 => h9) rfl d_Mp_take_143 ?_
          refine lv_bipush (v := 14) hx hb d_Mp_take_146 (by decide) ?_
          refine lv_aload_n hx hb d_Mp_take_148 rfl (lv_at hl 0 rfl) ?_
          refine va_get (D := D) (ci := 2) (v := .int (rg (va_cpy f2 f 0 0 n2) n2 6)) (C := R_Mp) (T := T_Mp) (N := 10) hx hb hts i_Mp hown hK hP 0 rfl rfl 6 (by decide) (hts _ w_138) (fun _ h9 => h9) rfl d_Mp_take_149 ?_
          refine lv_imul hx hb d_Mp_take_152 ?_
          refine lv_iadd hx hb d_Mp_take_153 ?_
          refine va_put (D := D) (ci := 2) (v := .int ((z.1 + (9 * (rg (va_cpy f2 f 0 0 n2) n2 5))) + (14 * (rg (va_cpy f2 f 0 0 n2) n2 6)))) (ty := (.int)) (C := R_Mp) (T := T_Mp) (N := 10) hx hb hts i_Mp ty_Mp tyok_Mp nm_Mp hown hK hP hD hS 0 rfl rfl 9 (by decide) (hts _ w_144) (fun _ h9 => h9) rfl (by decide +kernel) rfl rfl (Nat.le_of_ble_eq_true rfl) d_Mp_take_154 (fun H locs hP hD hS => ?_)
          have hP : va_P D cls ([(m0, .inr (2, [.ref mr, .ref mt, .int 1, .int (rg (va_cpy f2 f 0 0 n2) n2 3), .int (rg (va_cpy f2 f 0 0 n2) n2 4), .int (rg (va_cpy f2 f 0 0 n2) n2 5), .int (rg (va_cpy f2 f 0 0 n2) n2 6), .int z.1, .int (z.1 + (9 * (rg (va_cpy f2 f 0 0 n2) n2 5))), .int ((z.1 + (9 * (rg (va_cpy f2 f 0 0 n2) n2 5))) + (14 * (rg (va_cpy f2 f 0 0 n2) n2 6)))])), (mr, .inr (3, [.ref mb, .int (nI n2)])), (mb, .inl (cB, 8192, .inl (va_cpy f2 f 0 0 n2))), (mt, .inl (cI, 16, .inl z.2)), (h1, .inr (3, [.ref hd, .int (nI n2)])), (hd, .inl (cB, 8192, .inl f2))]) H := hP
          have hD : va_D A ([(m0, .inr (2, [.ref mr, .ref mt, .int 1, .int (rg (va_cpy f2 f 0 0 n2) n2 3), .int (rg (va_cpy f2 f 0 0 n2) n2 4), .int (rg (va_cpy f2 f 0 0 n2) n2 5), .int (rg (va_cpy f2 f 0 0 n2) n2 6), .int z.1, .int (z.1 + (9 * (rg (va_cpy f2 f 0 0 n2) n2 5))), .int ((z.1 + (9 * (rg (va_cpy f2 f 0 0 n2) n2 5))) + (14 * (rg (va_cpy f2 f 0 0 n2) n2 6)))])), (mr, .inr (3, [.ref mb, .int (nI n2)])), (mb, .inl (cB, 8192, .inl (va_cpy f2 f 0 0 n2))), (mt, .inl (cI, 16, .inl z.2)), (h1, .inr (3, [.ref hd, .int (nI n2)])), (hd, .inl (cB, 8192, .inl f2))]) := hD
          exact fin _ _ _ _ _ d_Mp_take_157 hP hS (by rw [he]; simp only [tkl, if_neg c_1, if_pos c_2])
        · exact (c_2 (show nI 16 ≤ nI k by rw [nI_leI (by omega) (by omega)]; omega)).elim
    | succ j2 ih2 =>
      intro k z ls H locs hi he hP hD hS hl
      refine lv_iload_n hx hb d_Mp_take_74 rfl (lv_at hl 3 rfl) ?_
      refine lv_aload_n hx hb d_Mp_take_75 rfl (lv_at hl 0 rfl) ?_
      refine va_get (D := D) (ci := 2) (v := .int (rg (va_cpy f2 f 0 0 n2) n2 4)) (C := R_Mp) (T := T_Mp) (N := 10) hx hb hts i_Mp hown hK hP 0 rfl rfl 4 (by decide) (hts _ w_134) (fun _ h9 => h9) rfl d_Mp_take_76 ?_
      refine lv_icmp_ge (tgt := 120) hx hb d_Mp_take_79 (by decide) (fun c_3 => ?_) (fun c_3 => ?_)
      · refine lv_aload_n hx hb d_Mp_take_120 rfl (lv_at hl 0 rfl) ?_
        refine lv_iload_n hx hb d_Mp_take_121 rfl (lv_at hl 2 rfl) ?_
        refine va_put (D := D) (ci := 2) (v := .int z.1) (ty := (.int)) (C := R_Mp) (T := T_Mp) (N := 10) hx hb hts i_Mp ty_Mp tyok_Mp nm_Mp hown hK hP hD hS 0 rfl rfl 7 (by decide) (hts _ w_140) (fun _ h9 => h9) rfl (by decide +kernel) rfl rfl (Nat.le_of_ble_eq_true rfl) d_Mp_take_122 (fun H locs hP hD hS => ?_)
        have hP : va_P D cls ([(m0, .inr (2, [.ref mr, .ref mt, .int 1, .int (rg (va_cpy f2 f 0 0 n2) n2 3), .int (rg (va_cpy f2 f 0 0 n2) n2 4), .int (rg (va_cpy f2 f 0 0 n2) n2 5), .int (rg (va_cpy f2 f 0 0 n2) n2 6), .int z.1, .int mb_, .int mc_])), (mr, .inr (3, [.ref mb, .int (nI n2)])), (mb, .inl (cB, 8192, .inl (va_cpy f2 f 0 0 n2))), (mt, .inl (cI, 16, .inl z.2)), (h1, .inr (3, [.ref hd, .int (nI n2)])), (hd, .inl (cB, 8192, .inl f2))]) H := hP
        have hD : va_D A ([(m0, .inr (2, [.ref mr, .ref mt, .int 1, .int (rg (va_cpy f2 f 0 0 n2) n2 3), .int (rg (va_cpy f2 f 0 0 n2) n2 4), .int (rg (va_cpy f2 f 0 0 n2) n2 5), .int (rg (va_cpy f2 f 0 0 n2) n2 6), .int z.1, .int mb_, .int mc_])), (mr, .inr (3, [.ref mb, .int (nI n2)])), (mb, .inl (cB, 8192, .inl (va_cpy f2 f 0 0 n2))), (mt, .inl (cI, 16, .inl z.2)), (h1, .inr (3, [.ref hd, .int (nI n2)])), (hd, .inl (cB, 8192, .inl f2))]) := hD
        refine lv_aload_n hx hb d_Mp_take_125 rfl (lv_at hl 0 rfl) ?_
        refine lv_aload_n hx hb d_Mp_take_126 rfl (lv_at hl 0 rfl) ?_
        refine va_get (D := D) (ci := 2) (v := .int z.1) (C := R_Mp) (T := T_Mp) (N := 10) hx hb hts i_Mp hown hK hP 0 rfl rfl 7 (by decide) (hts _ w_140) (fun _ h9 => h9) rfl d_Mp_take_127 ?_
        refine lv_bipush (v := 9) hx hb d_Mp_take_130 (by decide) ?_
        refine lv_aload_n hx hb d_Mp_take_132 rfl (lv_at hl 0 rfl) ?_
        refine va_get (D := D) (ci := 2) (v := .int (rg (va_cpy f2 f 0 0 n2) n2 5)) (C := R_Mp) (T := T_Mp) (N := 10) hx hb hts i_Mp hown hK hP 0 rfl rfl 5 (by decide) (hts _ w_136) (fun _ h9 => h9) rfl d_Mp_take_133 ?_
        refine lv_imul hx hb d_Mp_take_136 ?_
        refine lv_iadd hx hb d_Mp_take_137 ?_
        refine va_put (D := D) (ci := 2) (v := .int (z.1 + (9 * (rg (va_cpy f2 f 0 0 n2) n2 5)))) (ty := (.int)) (C := R_Mp) (T := T_Mp) (N := 10) hx hb hts i_Mp ty_Mp tyok_Mp nm_Mp hown hK hP hD hS 0 rfl rfl 8 (by decide) (hts _ w_142) (fun _ h9 => h9) rfl (by decide +kernel) rfl rfl (Nat.le_of_ble_eq_true rfl) d_Mp_take_138 (fun H locs hP hD hS => ?_)
        have hP : va_P D cls ([(m0, .inr (2, [.ref mr, .ref mt, .int 1, .int (rg (va_cpy f2 f 0 0 n2) n2 3), .int (rg (va_cpy f2 f 0 0 n2) n2 4), .int (rg (va_cpy f2 f 0 0 n2) n2 5), .int (rg (va_cpy f2 f 0 0 n2) n2 6), .int z.1, .int (z.1 + (9 * (rg (va_cpy f2 f 0 0 n2) n2 5))), .int mc_])), (mr, .inr (3, [.ref mb, .int (nI n2)])), (mb, .inl (cB, 8192, .inl (va_cpy f2 f 0 0 n2))), (mt, .inl (cI, 16, .inl z.2)), (h1, .inr (3, [.ref hd, .int (nI n2)])), (hd, .inl (cB, 8192, .inl f2))]) H := hP
        have hD : va_D A ([(m0, .inr (2, [.ref mr, .ref mt, .int 1, .int (rg (va_cpy f2 f 0 0 n2) n2 3), .int (rg (va_cpy f2 f 0 0 n2) n2 4), .int (rg (va_cpy f2 f 0 0 n2) n2 5), .int (rg (va_cpy f2 f 0 0 n2) n2 6), .int z.1, .int (z.1 + (9 * (rg (va_cpy f2 f 0 0 n2) n2 5))), .int mc_])), (mr, .inr (3, [.ref mb, .int (nI n2)])), (mb, .inl (cB, 8192, .inl (va_cpy f2 f 0 0 n2))), (mt, .inl (cI, 16, .inl z.2)), (h1, .inr (3, [.ref hd, .int (nI n2)])), (hd, .inl (cB, 8192, .inl f2))]) := hD
        refine lv_aload_n hx hb d_Mp_take_141 rfl (lv_at hl 0 rfl) ?_
        refine lv_aload_n hx hb d_Mp_take_142 rfl (lv_at hl 0 rfl) ?_
        refine va_get (D := D) (ci := 2) (v := .int (z.1 + (9 * (rg (va_cpy f2 f 0 0 n2) n2 5)))) (C := R_Mp) (T := T_Mp) (N := 10) hx hb hts i_Mp hown hK hP 0 rfl rfl 8 (by decide) (hts _ w_142) (fun _ h9 => h9) rfl d_Mp_take_143 ?_
        refine lv_bipush (v := 14) hx hb d_Mp_take_146 (by decide) ?_
        refine lv_aload_n hx hb d_Mp_take_148 rfl (lv_at hl 0 rfl) ?_
        refine va_get (D := D) (ci := 2) (v := .int (rg (va_cpy f2 f 0 0 n2) n2 6)) (C := R_Mp) (T := T_Mp) (N := 10) hx hb hts i_Mp hown hK hP 0 rfl rfl 6 (by decide) (hts _ w_138) (fun _ h9 => h9) rfl d_Mp_take_149 ?_
        refine lv_imul hx hb d_Mp_take_152 ?_
        refine lv_iadd hx hb d_Mp_take_153 ?_
        refine va_put (D := D) (ci := 2) (v := .int ((z.1 + (9 * (rg (va_cpy f2 f 0 0 n2) n2 5))) + (14 * (rg (va_cpy f2 f 0 0 n2) n2 6)))) (ty := (.int)) (C := R_Mp) (T := T_Mp) (N := 10) hx hb hts i_Mp ty_Mp tyok_Mp nm_Mp hown hK hP hD hS 0 rfl rfl 9 (by decide) (hts _ w_144) (fun _ h9 => h9) rfl (by decide +kernel) rfl rfl (Nat.le_of_ble_eq_true rfl) d_Mp_take_154 (fun H locs hP hD hS => ?_)
        have hP : va_P D cls ([(m0, .inr (2, [.ref mr, .ref mt, .int 1, .int (rg (va_cpy f2 f 0 0 n2) n2 3), .int (rg (va_cpy f2 f 0 0 n2) n2 4), .int (rg (va_cpy f2 f 0 0 n2) n2 5), .int (rg (va_cpy f2 f 0 0 n2) n2 6), .int z.1, .int (z.1 + (9 * (rg (va_cpy f2 f 0 0 n2) n2 5))), .int ((z.1 + (9 * (rg (va_cpy f2 f 0 0 n2) n2 5))) + (14 * (rg (va_cpy f2 f 0 0 n2) n2 6)))])), (mr, .inr (3, [.ref mb, .int (nI n2)])), (mb, .inl (cB, 8192, .inl (va_cpy f2 f 0 0 n2))), (mt, .inl (cI, 16, .inl z.2)), (h1, .inr (3, [.ref hd, .int (nI n2)])), (hd, .inl (cB, 8192, .inl f2))]) H := hP
        have hD : va_D A ([(m0, .inr (2, [.ref mr, .ref mt, .int 1, .int (rg (va_cpy f2 f 0 0 n2) n2 3), .int (rg (va_cpy f2 f 0 0 n2) n2 4), .int (rg (va_cpy f2 f 0 0 n2) n2 5), .int (rg (va_cpy f2 f 0 0 n2) n2 6), .int z.1, .int (z.1 + (9 * (rg (va_cpy f2 f 0 0 n2) n2 5))), .int ((z.1 + (9 * (rg (va_cpy f2 f 0 0 n2) n2 5))) + (14 * (rg (va_cpy f2 f 0 0 n2) n2 6)))])), (mr, .inr (3, [.ref mb, .int (nI n2)])), (mb, .inl (cB, 8192, .inl (va_cpy f2 f 0 0 n2))), (mt, .inl (cI, 16, .inl z.2)), (h1, .inr (3, [.ref hd, .int (nI n2)])), (hd, .inl (cB, 8192, .inl f2))]) := hD
        exact fin _ _ _ _ _ d_Mp_take_157 hP hS (by rw [he]; simp only [tkl, if_pos c_3])
      · refine lv_iload_n hx hb d_Mp_take_82 rfl (lv_at hl 3 rfl) ?_
        refine lv_aload_n hx hb d_Mp_take_83 rfl (lv_at hl 0 rfl) ?_
        refine va_get (D := D) (ci := 2) (v := .ref mt) (C := R_Mp) (T := T_Mp) (N := 10) hx hb hts i_Mp hown hK hP 0 rfl rfl 1 (by decide) (hts _ w_129) (fun _ h9 => h9) rfl d_Mp_take_84 ?_
        refine va_alen hx hb hK hP 3 1 rfl rfl (v := 16) rfl d_Mp_take_87 ?_
        refine lv_icmp_ge (tgt := 120) hx hb d_Mp_take_88 (by decide) (fun c_4 => ?_) (fun c_4 => ?_)
        · exact absurd c_4 (show ¬ nI 16 ≤ nI k by rw [nI_leI (by omega) (by omega)]; omega)
        · refine lv_aload_n hx hb d_Mp_take_91 rfl (lv_at hl 0 rfl) ?_
          refine va_get (D := D) (ci := 2) (v := .ref mt) (C := R_Mp) (T := T_Mp) (N := 10) hx hb hts i_Mp hown hK hP 0 rfl rfl 1 (by decide) (hts _ w_129) (fun _ h9 => h9) rfl d_Mp_take_92 ?_
          refine lv_iload_n hx hb d_Mp_take_95 rfl (lv_at hl 3 rfl) ?_
          refine lv_iload_n hx hb d_Mp_take_96 rfl (lv_at hl 2 rfl) ?_
          refine va_iast hx hb hK hP hD hS 3 1 rfl rfl (in_n (by omega) (by decide)) d_Mp_take_97 (fun H locs hP hD hS => ?_)
          rw [nI_clamp (show k < 2 ^ 31 by omega)] at hP hD
          have hP : va_P D cls ([(m0, .inr (2, [.ref mr, .ref mt, .int 1, .int (rg (va_cpy f2 f 0 0 n2) n2 3), .int (rg (va_cpy f2 f 0 0 n2) n2 4), .int (rg (va_cpy f2 f 0 0 n2) n2 5), .int (rg (va_cpy f2 f 0 0 n2) n2 6), .int ma, .int mb_, .int mc_])), (mr, .inr (3, [.ref mb, .int (nI n2)])), (mb, .inl (cB, 8192, .inl (va_cpy f2 f 0 0 n2))), (mt, .inl (cI, 16, .inl (upd z.2 k z.1))), (h1, .inr (3, [.ref hd, .int (nI n2)])), (hd, .inl (cB, 8192, .inl f2))]) H := hP
          have hD : va_D A ([(m0, .inr (2, [.ref mr, .ref mt, .int 1, .int (rg (va_cpy f2 f 0 0 n2) n2 3), .int (rg (va_cpy f2 f 0 0 n2) n2 4), .int (rg (va_cpy f2 f 0 0 n2) n2 5), .int (rg (va_cpy f2 f 0 0 n2) n2 6), .int ma, .int mb_, .int mc_])), (mr, .inr (3, [.ref mb, .int (nI n2)])), (mb, .inl (cB, 8192, .inl (va_cpy f2 f 0 0 n2))), (mt, .inl (cI, 16, .inl (upd z.2 k z.1))), (h1, .inr (3, [.ref hd, .int (nI n2)])), (hd, .inl (cB, 8192, .inl f2))]) := hD
          refine lv_iload_n hx hb d_Mp_take_98 rfl (lv_at hl 2 rfl) ?_
          refine lv_iconst (v := 2) hx hb d_Mp_take_99 (by decide) ?_
          refine lv_aload_n hx hb d_Mp_take_100 rfl (lv_at hl 0 rfl) ?_
          refine lv_iload_n hx hb d_Mp_take_101 rfl (lv_at hl 3 rfl) ?_
          refine pz_i0 (pz_rV (d := 1) (As := [.int (nI k)]) (rest := [.int 2, .int z.1]) X hN (c_Mp_width l D cB cI cS m0 mr mb mt 1 (rg (va_cpy f2 f 0 0 n2) n2 3) (rg (va_cpy f2 f 0 0 n2) n2 4) (rg (va_cpy f2 f 0 0 n2) n2 5) (rg (va_cpy f2 f 0 0 n2) n2 6) ma mb_ mc_ (va_cpy f2 f 0 0 n2) n2 (upd z.2 k z.1) (nI k) hn _) k_Mp_width w_344 ⟨by decide, by decide⟩ hK hP hD [0, 1, 2, 3] rfl rfl 0 rfl rfl rfl rfl hl.1 rfl (Nat.le_of_ble_eq_true rfl) d_Mp_take_102 ⟨Nat.zero_le _, Nat.zero_le _⟩) hP hD hS hA [0, 1, 2, 3] rfl (fun H locs hP hS => ?_)
          refine lv_aload_n hx hb d_Mp_take_105 rfl (lv_at hl 0 rfl) ?_
          refine lv_iload_n hx hb d_Mp_take_106 rfl (lv_at hl 3 rfl) ?_
          refine pz_i0 (pz_rV (d := 1) (As := [.int (nI k)]) (rest := [.int (mwd (va_cpy f2 f 0 0 n2) n2 (upd z.2 k z.1) (nI k)), .int 2, .int z.1]) X hN (c_Mp_height l D cB cI cS m0 mr mb mt 1 (rg (va_cpy f2 f 0 0 n2) n2 3) (rg (va_cpy f2 f 0 0 n2) n2 4) (rg (va_cpy f2 f 0 0 n2) n2 5) (rg (va_cpy f2 f 0 0 n2) n2 6) ma mb_ mc_ (va_cpy f2 f 0 0 n2) n2 (upd z.2 k z.1) (nI k) hn _) k_Mp_height w_352 ⟨by decide, by decide⟩ hK hP hD [0, 1, 2, 3] rfl rfl 0 rfl rfl rfl rfl hl.1 rfl (Nat.le_of_ble_eq_true rfl) d_Mp_take_107 ⟨Nat.zero_le _, Nat.zero_le _⟩) hP hD hS hA [0, 1, 2, 3] rfl (fun H locs hP hS => ?_)
          refine lv_imul hx hb d_Mp_take_110 ?_
          refine lv_iadd hx hb d_Mp_take_111 ?_
          refine lv_iadd hx hb d_Mp_take_112 ?_
          refine lv_istore_n (lv' := [(2, .int (z.1 + (2 + ((mwd (va_cpy f2 f 0 0 n2) n2 (upd z.2 k z.1) (nI k)) * (mht (va_cpy f2 f 0 0 n2) n2 (upd z.2 k z.1) (nI k)))))), (0, .ref m0), (1, .ref h1), (3, .int (nI k))]) hx hb d_Mp_take_113 rfl hl (by decide) rfl (fun ls hl => ?_)
          refine lv_iinc (v := nI (k + 1)) (lv' := [(3, .int (nI (k + 1))), (2, .int (z.1 + (2 + ((mwd (va_cpy f2 f 0 0 n2) n2 (upd z.2 k z.1) (nI k)) * (mht (va_cpy f2 f 0 0 n2) n2 (upd z.2 k z.1) (nI k)))))), (0, .ref m0), (1, .ref h1)]) hx hb d_Mp_take_114 hl (k := 3) rfl (nI_1 k) (by decide) rfl (fun ls hl => ?_)
          refine lv_goto (tgt := 74) hx hb d_Mp_take_117 (by decide) ?_
          exact ih2 (k + 1) (z.1 + (2 + ((mwd (va_cpy f2 f 0 0 n2) n2 (upd z.2 k z.1) (nI k)) * (mht (va_cpy f2 f 0 0 n2) n2 (upd z.2 k z.1) (nI k)))), upd z.2 k z.1) _ _ _ (by omega) (by rw [he, tkl]; simp only [tkS, if_neg c_3, if_neg c_4]) hP hD hS (lv_sub hl [2, 3, 1, 0] rfl)
  exact lp_2 16 0 (7 + 4 * (rg (va_cpy f2 f 0 0 n2) n2 3), g) _ _ _ (by omega) (rfl) hP hD hS (lv_sub hl [2, 3, 1, 0] rfl)
end
