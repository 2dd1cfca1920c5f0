theorem k_Lu_give : pzM y_Lu_give b_Lu_give 5 ((Option.some Jvm.ClassFile.FieldType.boolean)) 2 := ⟨w_181, w_182, w_1, w_183, by decide, by decide, by decide +kernel⟩
theorem k_Lu_cut : pzM y_Lu_cut b_Lu_cut 2 ((Option.some Jvm.ClassFile.FieldType.boolean)) 1 := ⟨w_193, w_194, w_1, w_195, by decide, by decide, by decide +kernel⟩
theorem k_Lu_poke : pzM y_Lu_poke b_Lu_poke 3 ((Option.some Jvm.ClassFile.FieldType.boolean)) 2 := ⟨w_201, w_202, w_1, w_203, by decide, by decide, by decide +kernel⟩
theorem k_Lu_read : pzM y_Lu_read b_Lu_read 2 ((Option.some Jvm.ClassFile.FieldType.int)) 0 := ⟨w_209, w_210, w_1, w_211, by decide, by decide, by decide +kernel⟩
theorem k_Lu_write : pzM y_Lu_write b_Lu_write 1 ((Option.some Jvm.ClassFile.FieldType.int)) 0 := ⟨w_357, w_358, w_1, w_359, by decide, by decide, by decide +kernel⟩
theorem k_Lu_check : pzM y_Lu_check b_Lu_check 3 ((Option.some Jvm.ClassFile.FieldType.boolean)) 0 := ⟨w_362, w_363, w_1, w_364, by decide, by decide, by decide +kernel⟩
theorem k_Lu_byteAt : pzM y_Lu_byteAt b_Lu_byteAt 3 ((Option.some Jvm.ClassFile.FieldType.int)) 2 := ⟨w_367, w_368, w_1, w_369, by decide, by decide, by decide +kernel⟩
theorem k_Lu_vertex : pzM y_Lu_vertex b_Lu_vertex 3 ((Option.some Jvm.ClassFile.FieldType.int)) 2 := ⟨w_372, w_373, w_1, w_374, by decide, by decide, by decide +kernel⟩
theorem k_Lu_texture : pzM y_Lu_texture b_Lu_texture 3 ((Option.some Jvm.ClassFile.FieldType.int)) 2 := ⟨w_383, w_384, w_1, w_385, by decide, by decide, by decide +kernel⟩
theorem k_Lu_sector : pzM y_Lu_sector b_Lu_sector 4 ((Option.some Jvm.ClassFile.FieldType.int)) 2 := ⟨w_393, w_394, w_1, w_395, by decide, by decide, by decide +kernel⟩
theorem k_Lu_wall : pzM y_Lu_wall b_Lu_wall 4 ((Option.some Jvm.ClassFile.FieldType.int)) 2 := ⟨w_397, w_398, w_1, w_399, by decide, by decide, by decide +kernel⟩
theorem k_Lu_start : pzM y_Lu_start b_Lu_start 2 ((Option.some Jvm.ClassFile.FieldType.int)) 1 := ⟨w_401, w_402, w_1, w_403, by decide, by decide, by decide +kernel⟩
theorem k_Lu_look : pzM y_Lu_look b_Lu_look 2 ((Option.some Jvm.ClassFile.FieldType.int)) 1 := ⟨w_405, w_406, w_1, w_407, by decide, by decide, by decide +kernel⟩
theorem k_Mo_give : pzM y_Mo_give b_Mo_give 5 ((Option.some Jvm.ClassFile.FieldType.boolean)) 2 := ⟨w_459, w_460, w_6, w_461, by decide, by decide, by decide +kernel⟩
theorem k_Mo_cut : pzM y_Mo_cut b_Mo_cut 2 ((Option.some Jvm.ClassFile.FieldType.boolean)) 1 := ⟨w_463, w_464, w_6, w_465, by decide, by decide, by decide +kernel⟩
theorem k_Mo_poke : pzM y_Mo_poke b_Mo_poke 3 ((Option.some Jvm.ClassFile.FieldType.boolean)) 2 := ⟨w_467, w_468, w_6, w_469, by decide, by decide, by decide +kernel⟩
theorem k_Mo_check : pzM y_Mo_check b_Mo_check 2 ((Option.some Jvm.ClassFile.FieldType.boolean)) 0 := ⟨w_471, w_472, w_6, w_473, by decide, by decide, by decide +kernel⟩
theorem k_Mo_wrong : pzM y_Mo_wrong b_Mo_wrong 3 ((Option.none : Option Jvm.ClassFile.FieldType)) 2 := ⟨w_492, gw_sel (q := (y_Mo_wrong, 13)) (by decide +kernel), w_6, w_493, by decide, by decide, by decide +kernel⟩
theorem k_Mo_add : pzM y_Mo_add b_Mo_add 2 ((Option.none : Option Jvm.ClassFile.FieldType)) 1 := ⟨w_476, gw_sel (q := (y_Mo_add, 13)) (by decide +kernel), w_6, w_477, by decide, by decide, by decide +kernel⟩
theorem k_Mo_next : pzM y_Mo_next b_Mo_next 4 ((Option.some Jvm.ClassFile.FieldType.int)) 2 := ⟨w_488, gw_sel (q := (y_Mo_next, 13)) (by decide +kernel), w_6, w_489, by decide, by decide, by decide +kernel⟩
theorem k_Mo_nextOr : pzM y_Mo_nextOr b_Mo_nextOr 3 ((Option.some Jvm.ClassFile.FieldType.int)) 1 := ⟨w_516, gw_sel (q := (y_Mo_nextOr, 13)) (by decide +kernel), w_6, w_517, by decide, by decide, by decide +kernel⟩
theorem k_Mo_nextTwo : pzM y_Mo_nextTwo b_Mo_nextTwo 5 ((Option.some Jvm.ClassFile.FieldType.int)) 2 := ⟨w_500, gw_sel (q := (y_Mo_nextTwo, 13)) (by decide +kernel), w_6, w_501, by decide, by decide, by decide +kernel⟩
theorem k_Mo_pair : pzS y_Mo_pair b_Mo_pair 3 ((Option.some Jvm.ClassFile.FieldType.int)) 2 := ⟨w_504, w_6, w_505, by decide, by decide, by decide +kernel⟩
theorem k_Mo_readVertex : pzM y_Mo_readVertex b_Mo_readVertex 6 ((Option.none : Option Jvm.ClassFile.FieldType)) 1 := ⟨w_496, gw_sel (q := (y_Mo_readVertex, 13)) (by decide +kernel), w_6, w_497, by decide, by decide, by decide +kernel⟩
theorem k_Mo_readTexture : pzM y_Mo_readTexture b_Mo_readTexture 5 ((Option.none : Option Jvm.ClassFile.FieldType)) 0 := ⟨w_508, gw_sel (q := (y_Mo_readTexture, 13)) (by decide +kernel), w_6, w_509, by decide, by decide, by decide +kernel⟩
theorem k_Mo_readSector : pzM y_Mo_readSector b_Mo_readSector 10 ((Option.none : Option Jvm.ClassFile.FieldType)) 1 := ⟨w_512, gw_sel (q := (y_Mo_readSector, 13)) (by decide +kernel), w_6, w_513, by decide, by decide, by decide +kernel⟩
theorem k_Mo_readWall : pzM y_Mo_readWall b_Mo_readWall 12 ((Option.none : Option Jvm.ClassFile.FieldType)) 3 := ⟨w_520, gw_sel (q := (y_Mo_readWall, 13)) (by decide +kernel), w_6, w_521, by decide, by decide, by decide +kernel⟩
theorem k_Mo_readAll : pzM y_Mo_readAll b_Mo_readAll 14 ((Option.none : Option Jvm.ClassFile.FieldType)) 0 := ⟨w_484, gw_sel (q := (y_Mo_readAll, 13)) (by decide +kernel), w_6, w_485, by decide, by decide, by decide +kernel⟩
theorem k_Mo_readCheck : pzM y_Mo_readCheck b_Mo_readCheck 4 ((Option.none : Option Jvm.ClassFile.FieldType)) 1 := ⟨w_524, gw_sel (q := (y_Mo_readCheck, 13)) (by decide +kernel), w_6, w_525, by decide, by decide, by decide +kernel⟩
theorem k_Mo_vertexOf : pzM y_Mo_vertexOf b_Mo_vertexOf 3 ((Option.some Jvm.ClassFile.FieldType.int)) 2 := ⟨w_532, gw_sel (q := (y_Mo_vertexOf, 13)) (by decide +kernel), w_6, w_533, by decide, by decide, by decide +kernel⟩
theorem k_Mo_cross : pzS y_Mo_cross b_Mo_cross 8 ((Option.some Jvm.ClassFile.FieldType.long)) 4 := ⟨w_539, w_6, w_540, by decide, by decide, by decide +kernel⟩
theorem k_Mo_side : pzM y_Mo_side b_Mo_side 13 ((Option.some Jvm.ClassFile.FieldType.int)) 2 := ⟨w_536, gw_sel (q := (y_Mo_side, 13)) (by decide +kernel), w_6, w_537, by decide, by decide, by decide +kernel⟩
theorem k_Mo_lies : pzM y_Mo_lies b_Mo_lies 11 ((Option.some Jvm.ClassFile.FieldType.boolean)) 2 := ⟨w_543, gw_sel (q := (y_Mo_lies, 13)) (by decide +kernel), w_6, w_544, by decide, by decide, by decide +kernel⟩
theorem k_Mo_touch : pzM y_Mo_touch b_Mo_touch 9 ((Option.some Jvm.ClassFile.FieldType.boolean)) 2 := ⟨w_528, gw_sel (q := (y_Mo_touch, 13)) (by decide +kernel), w_6, w_529, by decide, by decide, by decide +kernel⟩
theorem k_Mo_read : pzM y_Mo_read b_Mo_read 2 ((Option.some Jvm.ClassFile.FieldType.int)) 0 := ⟨w_479, w_480, w_6, w_481, by decide, by decide, by decide +kernel⟩
theorem k_Mo_write : pzM y_Mo_write b_Mo_write 2 ((Option.some Jvm.ClassFile.FieldType.int)) 0 := ⟨w_546, w_547, w_6, w_548, by decide, by decide, by decide +kernel⟩
theorem k_Mo_byteAt : pzM y_Mo_byteAt b_Mo_byteAt 3 ((Option.some Jvm.ClassFile.FieldType.int)) 2 := ⟨w_550, w_551, w_6, w_552, by decide, by decide, by decide +kernel⟩
theorem k_Mo_many : pzM y_Mo_many b_Mo_many 2 ((Option.some Jvm.ClassFile.FieldType.int)) 1 := ⟨w_563, gw_sel (q := (y_Mo_many, 13)) (by decide +kernel), w_6, w_564, by decide, by decide, by decide +kernel⟩
theorem k_Mo_textureAt : pzM y_Mo_textureAt b_Mo_textureAt 4 ((Option.some Jvm.ClassFile.FieldType.int)) 1 := ⟨w_572, gw_sel (q := (y_Mo_textureAt, 13)) (by decide +kernel), w_6, w_573, by decide, by decide, by decide +kernel⟩
theorem k_Mo_sectorAt : pzM y_Mo_sectorAt b_Mo_sectorAt 2 ((Option.some Jvm.ClassFile.FieldType.int)) 1 := ⟨w_580, gw_sel (q := (y_Mo_sectorAt, 13)) (by decide +kernel), w_6, w_581, by decide, by decide, by decide +kernel⟩
theorem k_Mo_wallAt : pzM y_Mo_wallAt b_Mo_wallAt 2 ((Option.some Jvm.ClassFile.FieldType.int)) 1 := ⟨w_588, gw_sel (q := (y_Mo_wallAt, 13)) (by decide +kernel), w_6, w_589, by decide, by decide, by decide +kernel⟩
theorem k_Mo_has : pzM y_Mo_has b_Mo_has 3 ((Option.some Jvm.ClassFile.FieldType.boolean)) 2 := ⟨w_559, gw_sel (q := (y_Mo_has, 13)) (by decide +kernel), w_6, w_560, by decide, by decide, by decide +kernel⟩
theorem k_Mo_vertex : pzM y_Mo_vertex b_Mo_vertex 3 ((Option.some Jvm.ClassFile.FieldType.int)) 2 := ⟨w_554, w_555, w_6, w_556, by decide, by decide, by decide +kernel⟩
theorem k_Mo_texture : pzM y_Mo_texture b_Mo_texture 8 ((Option.some Jvm.ClassFile.FieldType.int)) 2 := ⟨w_567, w_568, w_6, w_569, by decide, by decide, by decide +kernel⟩
theorem k_Mo_sector : pzM y_Mo_sector b_Mo_sector 4 ((Option.some Jvm.ClassFile.FieldType.int)) 2 := ⟨w_575, w_576, w_6, w_577, by decide, by decide, by decide +kernel⟩
theorem k_Mo_wall : pzM y_Mo_wall b_Mo_wall 4 ((Option.some Jvm.ClassFile.FieldType.int)) 2 := ⟨w_583, w_584, w_6, w_585, by decide, by decide, by decide +kernel⟩
theorem k_Mo_start : pzM y_Mo_start b_Mo_start 3 ((Option.some Jvm.ClassFile.FieldType.int)) 1 := ⟨w_591, w_592, w_6, w_593, by decide, by decide, by decide +kernel⟩
theorem k_Mo_look : pzM y_Mo_look b_Mo_look 2 ((Option.some Jvm.ClassFile.FieldType.int)) 1 := ⟨w_595, w_596, w_6, w_597, by decide, by decide, by decide +kernel⟩
theorem k_Rd_judge : pzM y_Rd_judge b_Rd_judge 1 ((Option.some Jvm.ClassFile.FieldType.int)) 0 := ⟨w_213, w_214, w_2, w_215, by decide, by decide, by decide +kernel⟩
theorem k_Rd_passHead : pzM y_Rd_passHead b_Rd_passHead 1 ((Option.none : Option Jvm.ClassFile.FieldType)) 0 := ⟨w_218, gw_sel (q := (y_Rd_passHead, 13)) (by decide +kernel), w_2, w_219, by decide, by decide, by decide +kernel⟩
theorem k_Rd_passVertices : pzM y_Rd_passVertices b_Rd_passVertices 3 ((Option.none : Option Jvm.ClassFile.FieldType)) 0 := ⟨w_246, gw_sel (q := (y_Rd_passVertices, 13)) (by decide +kernel), w_2, w_247, by decide, by decide, by decide +kernel⟩
theorem k_Rd_isTaken : pzM y_Rd_isTaken b_Rd_isTaken 3 ((Option.some Jvm.ClassFile.FieldType.boolean)) 1 := ⟨w_255, gw_sel (q := (y_Rd_isTaken, 13)) (by decide +kernel), w_2, w_256, by decide, by decide, by decide +kernel⟩
theorem k_Rd_passTextures : pzM y_Rd_passTextures b_Rd_passTextures 5 ((Option.none : Option Jvm.ClassFile.FieldType)) 0 := ⟨w_259, gw_sel (q := (y_Rd_passTextures, 13)) (by decide +kernel), w_2, w_260, by decide, by decide, by decide +kernel⟩
theorem k_Rd_passSectors : pzM y_Rd_passSectors b_Rd_passSectors 3 ((Option.none : Option Jvm.ClassFile.FieldType)) 0 := ⟨w_263, gw_sel (q := (y_Rd_passSectors, 13)) (by decide +kernel), w_2, w_264, by decide, by decide, by decide +kernel⟩
theorem k_Rd_passWalls : pzM y_Rd_passWalls b_Rd_passWalls 3 ((Option.none : Option Jvm.ClassFile.FieldType)) 0 := ⟨w_271, gw_sel (q := (y_Rd_passWalls, 13)) (by decide +kernel), w_2, w_272, by decide, by decide, by decide +kernel⟩
theorem k_Rd_passWallEnds : pzM y_Rd_passWallEnds b_Rd_passWallEnds 5 ((Option.none : Option Jvm.ClassFile.FieldType)) 1 := ⟨w_275, gw_sel (q := (y_Rd_passWallEnds, 13)) (by decide +kernel), w_2, w_276, by decide, by decide, by decide +kernel⟩
theorem k_Rd_passWallTextures : pzM y_Rd_passWallTextures b_Rd_passWallTextures 3 ((Option.none : Option Jvm.ClassFile.FieldType)) 1 := ⟨w_289, gw_sel (q := (y_Rd_passWallTextures, 13)) (by decide +kernel), w_2, w_290, by decide, by decide, by decide +kernel⟩
theorem k_Rd_passStart : pzM y_Rd_passStart b_Rd_passStart 1 ((Option.none : Option Jvm.ClassFile.FieldType)) 0 := ⟨w_293, gw_sel (q := (y_Rd_passStart, 13)) (by decide +kernel), w_2, w_294, by decide, by decide, by decide +kernel⟩
theorem k_Rd_passEnd : pzM y_Rd_passEnd b_Rd_passEnd 2 ((Option.none : Option Jvm.ClassFile.FieldType)) 0 := ⟨w_297, gw_sel (q := (y_Rd_passEnd, 13)) (by decide +kernel), w_2, w_298, by decide, by decide, by decide +kernel⟩
theorem k_Rd_seekMeeting : pzM y_Rd_seekMeeting b_Rd_seekMeeting 3 ((Option.none : Option Jvm.ClassFile.FieldType)) 0 := ⟨w_305, gw_sel (q := (y_Rd_seekMeeting, 13)) (by decide +kernel), w_2, w_306, by decide, by decide, by decide +kernel⟩
theorem k_Rd_next : pzM y_Rd_next b_Rd_next 2 ((Option.some Jvm.ClassFile.FieldType.int)) 0 := ⟨w_226, gw_sel (q := (y_Rd_next, 13)) (by decide +kernel), w_2, w_227, by decide, by decide, by decide +kernel⟩
theorem k_Rd_expect : pzM y_Rd_expect b_Rd_expect 4 ((Option.none : Option Jvm.ClassFile.FieldType)) 2 := ⟨w_222, gw_sel (q := (y_Rd_expect, 13)) (by decide +kernel), w_2, w_223, by decide, by decide, by decide +kernel⟩
theorem k_Rd_small : pzM y_Rd_small b_Rd_small 4 ((Option.some Jvm.ClassFile.FieldType.int)) 2 := ⟨w_238, gw_sel (q := (y_Rd_small, 13)) (by decide +kernel), w_2, w_239, by decide, by decide, by decide +kernel⟩
theorem k_Rd_smallOrAbsent : pzM y_Rd_smallOrAbsent b_Rd_smallOrAbsent 4 ((Option.some Jvm.ClassFile.FieldType.int)) 1 := ⟨w_267, gw_sel (q := (y_Rd_smallOrAbsent, 13)) (by decide +kernel), w_2, w_268, by decide, by decide, by decide +kernel⟩
theorem k_Rd_wide : pzM y_Rd_wide b_Rd_wide 6 ((Option.some Jvm.ClassFile.FieldType.int)) 2 := ⟨w_250, gw_sel (q := (y_Rd_wide, 13)) (by decide +kernel), w_2, w_251, by decide, by decide, by decide +kernel⟩
theorem k_Rd_judged : pzM y_Rd_judged b_Rd_judged 5 ((Option.some Jvm.ClassFile.FieldType.int)) 4 := ⟨w_242, gw_sel (q := (y_Rd_judged, 13)) (by decide +kernel), w_2, w_243, by decide, by decide, by decide +kernel⟩
theorem k_Rd_fail : pzM y_Rd_fail b_Rd_fail 3 ((Option.none : Option Jvm.ClassFile.FieldType)) 2 := ⟨w_234, gw_sel (q := (y_Rd_fail, 13)) (by decide +kernel), w_2, w_235, by decide, by decide, by decide +kernel⟩
theorem k_Mp_take : pzM y_Mp_take b_Mp_take 4 ((Option.none : Option Jvm.ClassFile.FieldType)) 1 := ⟨w_333, w_334, w_5, w_335, by decide, by decide, by decide +kernel⟩
theorem k_Mp_counted : pzM y_Mp_counted b_Mp_counted 2 ((Option.some Jvm.ClassFile.FieldType.int)) 1 := ⟨w_409, w_410, w_5, w_411, by decide, by decide, by decide +kernel⟩
theorem k_Mp_width : pzM y_Mp_width b_Mp_width 2 ((Option.some Jvm.ClassFile.FieldType.int)) 1 := ⟨w_345, w_346, w_5, w_347, by decide, by decide, by decide +kernel⟩
theorem k_Mp_height : pzM y_Mp_height b_Mp_height 2 ((Option.some Jvm.ClassFile.FieldType.int)) 1 := ⟨w_353, w_354, w_5, w_355, by decide, by decide, by decide +kernel⟩
theorem k_Mp_texel : pzM y_Mp_texel b_Mp_texel 5 ((Option.some Jvm.ClassFile.FieldType.int)) 3 := ⟨w_389, w_390, w_5, w_391, by decide, by decide, by decide +kernel⟩
theorem k_Mp_textureAt : pzM y_Mp_textureAt b_Mp_textureAt 2 ((Option.some Jvm.ClassFile.FieldType.int)) 1 := ⟨w_350, gw_sel (q := (y_Mp_textureAt, 10)) (by decide +kernel), w_5, w_351, by decide, by decide, by decide +kernel⟩
theorem k_Rw_free : pzM y_Rw_free b_Rw_free 1 ((Option.some Jvm.ClassFile.FieldType.int)) 0 := ⟨w_185, w_186, w_3, w_187, by decide, by decide, by decide +kernel⟩
theorem k_Rw_get : pzM y_Rw_get b_Rw_get 2 ((Option.some Jvm.ClassFile.FieldType.int)) 1 := ⟨w_229, w_230, w_3, w_231, by decide, by decide, by decide +kernel⟩
theorem k_Rw_put : pzM y_Rw_put b_Rw_put 3 ((Option.some Jvm.ClassFile.FieldType.boolean)) 2 := ⟨w_205, w_206, w_3, w_207, by decide, by decide, by decide +kernel⟩
theorem k_Rw_append : pzM y_Rw_append b_Rw_append 2 ((Option.none : Option Jvm.ClassFile.FieldType)) 1 := ⟨w_189, w_190, w_3, w_191, by decide, by decide, by decide +kernel⟩
theorem k_Rw_shorten : pzM y_Rw_shorten b_Rw_shorten 2 ((Option.some Jvm.ClassFile.FieldType.boolean)) 1 := ⟨w_197, w_198, w_3, w_199, by decide, by decide, by decide +kernel⟩
theorem k_Rw_copy : pzM y_Rw_copy b_Rw_copy 2 ((Option.none : Option Jvm.ClassFile.FieldType)) 1 := ⟨w_337, w_338, w_3, w_339, by decide, by decide, by decide +kernel⟩
theorem k_Rw_signed : pzM y_Rw_signed b_Rw_signed 3 ((Option.some Jvm.ClassFile.FieldType.int)) 1 := ⟨w_377, w_378, w_3, w_379, by decide, by decide, by decide +kernel⟩
theorem k_Rw_sums : pzM y_Rw_sums b_Rw_sums 5 ((Option.some Jvm.ClassFile.FieldType.int)) 1 := ⟨w_300, w_301, w_3, w_302, by decide, by decide, by decide +kernel⟩
theorem k_Sp_lay : pzM y_Sp_lay b_Sp_lay 5 ((Option.none : Option Jvm.ClassFile.FieldType)) 4 := ⟨w_278, w_279, w_4, w_280, by decide, by decide, by decide +kernel⟩
theorem k_Sp_meets : pzM y_Sp_meets b_Sp_meets 2 ((Option.some Jvm.ClassFile.FieldType.boolean)) 1 := ⟨w_308, w_309, w_4, w_310, by decide, by decide, by decide +kernel⟩
theorem k_Sp_boxesApart : pzM y_Sp_boxesApart b_Sp_boxesApart 2 ((Option.some Jvm.ClassFile.FieldType.boolean)) 1 := ⟨w_313, gw_sel (q := (y_Sp_boxesApart, 8)) (by decide +kernel), w_4, w_314, by decide, by decide, by decide +kernel⟩
theorem k_Sp_lineParts : pzM y_Sp_lineParts b_Sp_lineParts 2 ((Option.some Jvm.ClassFile.FieldType.boolean)) 1 := ⟨w_323, gw_sel (q := (y_Sp_lineParts, 8)) (by decide +kernel), w_4, w_324, by decide, by decide, by decide +kernel⟩
theorem k_Sp_side : pzM y_Sp_side b_Sp_side 3 ((Option.some Jvm.ClassFile.FieldType.int)) 2 := ⟨w_327, gw_sel (q := (y_Sp_side, 8)) (by decide +kernel), w_4, w_328, by decide, by decide, by decide +kernel⟩
theorem k_Sp_sameWay : pzS y_Sp_sameWay b_Sp_sameWay 8 ((Option.some Jvm.ClassFile.FieldType.boolean)) 6 := ⟨w_316, w_4, w_317, by decide, by decide, by decide +kernel⟩
theorem k_Sp_turn : pzS y_Sp_turn b_Sp_turn 6 ((Option.some Jvm.ClassFile.FieldType.long)) 6 := ⟨w_319, w_4, w_320, by decide, by decide, by decide +kernel⟩
theorem k_Jl_signum : pzS y_Jl_signum b_Jl_signum 2 ((Option.some Jvm.ClassFile.FieldType.int)) 1 := ⟨w_330, w_8, w_331, by decide, by decide, by decide +kernel⟩
