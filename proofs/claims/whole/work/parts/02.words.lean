theorem w_0 : (Jvm.Cond.initialized "MapLumpsLaw") ∈ gw := gw_in1 0 rfl rfl
theorem w_1 : (Jvm.Cond.initialized "MapLumps") ∈ gw := gw_in1 1 rfl rfl
theorem w_2 : (Jvm.Cond.initialized "MapLumps$Reader") ∈ gw := gw_in1 2 rfl rfl
theorem w_3 : (Jvm.Cond.initialized "MapLumps$Row") ∈ gw := gw_in1 3 rfl rfl
theorem w_4 : (Jvm.Cond.initialized "MapLumps$Span") ∈ gw := gw_in1 4 rfl rfl
theorem w_5 : (Jvm.Cond.initialized "MapLumps$RoomMap") ∈ gw := gw_in1 5 rfl rfl
theorem w_6 : (Jvm.Cond.initialized "MapLumpsModel") ∈ gw := gw_in1 6 rfl rfl
theorem w_7 : (Jvm.Cond.initialized "java/lang/Math") ∈ gw := gw_in1 7 rfl rfl
theorem w_8 : (Jvm.Cond.initialized "java/lang/Long") ∈ gw := gw_in1 8 rfl rfl
theorem w_9 : (Jvm.Cond.initialized "java/lang/System") ∈ gw := gw_in1 9 rfl rfl
theorem w_10 : (Jvm.Cond.classLink "MapLumpsLaw" (7 : Nat) "MapLumps") ∈ gw := gw_in1 10 rfl rfl
theorem w_11 : (Jvm.Cond.instantiable "MapLumps" (4 : Nat)) ∈ gw := gw_in1 11 rfl rfl
theorem w_12 : (Jvm.Cond.methodLink "MapLumpsLaw" (9 : Nat) ({ cls := "MapLumps", name := "<init>", desc := "()V" } : Jvm.MethodName)) ∈ gw := gw_in1 12 rfl rfl
theorem w_13 : (Jvm.Cond.instanceMethod ({ cls := "MapLumps", name := "<init>", desc := "()V" } : Jvm.MethodName)) ∈ gw := gw_in1 13 rfl rfl
theorem w_14 : (Jvm.Cond.code ({ cls := "MapLumps", name := "<init>", desc := "()V" } : Jvm.MethodName) prog_1_method_1_code (1 : Nat) (Option.none : Option Jvm.ClassFile.FieldType)) ∈ gw := gw_in1 14 rfl rfl
theorem w_15 : (Jvm.Cond.methodLink "MapLumps" (1 : Nat) ({ cls := "java/lang/Object", name := "<init>", desc := "()V" } : Jvm.MethodName)) ∈ gw := gw_in1 15 rfl rfl
theorem w_16 : (Jvm.Cond.instanceMethod ({ cls := "java/lang/Object", name := "<init>", desc := "()V" } : Jvm.MethodName)) ∈ gw := gw_in1 16 rfl rfl
theorem w_17 : (Jvm.Cond.code ({ cls := "java/lang/Object", name := "<init>", desc := "()V" } : Jvm.MethodName) object_method_1_code (1 : Nat) (Option.none : Option Jvm.ClassFile.FieldType)) ∈ gw := gw_in1 17 rfl rfl
theorem w_18 : (Jvm.Cond.classLink "MapLumps" (7 : Nat) "MapLumps$Reader") ∈ gw := gw_in1 18 rfl rfl
theorem w_19 : (Jvm.Cond.instantiable "MapLumps$Reader" (13 : Nat)) ∈ gw := gw_in1 19 rfl rfl
theorem w_20 : (Jvm.Cond.methodLink "MapLumps" (9 : Nat) ({ cls := "MapLumps$Reader", name := "<init>", desc := "()V" } : Jvm.MethodName)) ∈ gw := gw_in1 20 rfl rfl
theorem w_21 : (Jvm.Cond.instanceMethod ({ cls := "MapLumps$Reader", name := "<init>", desc := "()V" } : Jvm.MethodName)) ∈ gw := gw_in1 21 rfl rfl
theorem w_22 : (Jvm.Cond.code ({ cls := "MapLumps$Reader", name := "<init>", desc := "()V" } : Jvm.MethodName) prog_2_method_1_code (2 : Nat) (Option.none : Option Jvm.ClassFile.FieldType)) ∈ gw := gw_in1 22 rfl rfl
theorem w_23 : (Jvm.Cond.methodLink "MapLumps$Reader" (3 : Nat) ({ cls := "java/lang/Object", name := "<init>", desc := "()V" } : Jvm.MethodName)) ∈ gw := gw_in1 23 rfl rfl
theorem w_24 : (Jvm.Cond.classLink "MapLumps$Reader" (9 : Nat) "MapLumps$Row") ∈ gw := gw_in1 24 rfl rfl
theorem w_25 : (Jvm.Cond.instantiable "MapLumps$Row" (2 : Nat)) ∈ gw := gw_in1 25 rfl rfl
theorem w_27 : (Jvm.Cond.instanceMethod ({ cls := "MapLumps$Row", name := "<init>", desc := "()V" } : Jvm.MethodName)) ∈ gw := gw_in1 27 rfl rfl
theorem w_28 : (Jvm.Cond.code ({ cls := "MapLumps$Row", name := "<init>", desc := "()V" } : Jvm.MethodName) prog_4_method_1_code (1 : Nat) (Option.none : Option Jvm.ClassFile.FieldType)) ∈ gw := gw_in1 28 rfl rfl
theorem w_29 : (Jvm.Cond.methodLink "MapLumps$Row" (3 : Nat) ({ cls := "java/lang/Object", name := "<init>", desc := "()V" } : Jvm.MethodName)) ∈ gw := gw_in1 29 rfl rfl
theorem w_30 : (Jvm.Cond.fieldLink "MapLumps$Row" (9 : Nat) "MapLumps$Row" "cells" "[B") ∈ gw := gw_in1 30 rfl rfl
theorem w_31 : (Jvm.Cond.fieldLink "MapLumps$Row" (15 : Nat) "MapLumps$Row" "size" "I") ∈ gw := gw_in1 31 rfl rfl
theorem w_34 : (Jvm.Cond.laysFinal "MapLumps$Row" "MapLumps$Row" "cells" "[B") ∈ gw := gw_in1 34 rfl rfl
theorem w_36 : (Jvm.Cond.lays "MapLumps$Row" "MapLumps$Row" "size" "I") ∈ gw := gw_in1 36 rfl rfl
theorem w_39 : (Jvm.Cond.arrayClass Jvm.ClassFile.FieldType.byte) ∈ gw := gw_in1 39 rfl rfl
theorem w_40 : (Jvm.Cond.classLink "MapLumps$Reader" (25 : Nat) "MapLumps$Span") ∈ gw := gw_in1 40 rfl rfl
theorem w_42 : (Jvm.Cond.instantiable "MapLumps$Span" (8 : Nat)) ∈ gw := gw_in1 42 rfl rfl
theorem w_44 : (Jvm.Cond.instanceMethod ({ cls := "MapLumps$Span", name := "<init>", desc := "()V" } : Jvm.MethodName)) ∈ gw := gw_in1 44 rfl rfl
theorem w_45 : (Jvm.Cond.code ({ cls := "MapLumps$Span", name := "<init>", desc := "()V" } : Jvm.MethodName) prog_5_method_1_code (1 : Nat) (Option.none : Option Jvm.ClassFile.FieldType)) ∈ gw := gw_in1 45 rfl rfl
theorem w_46 : (Jvm.Cond.methodLink "MapLumps$Span" (1 : Nat) ({ cls := "java/lang/Object", name := "<init>", desc := "()V" } : Jvm.MethodName)) ∈ gw := gw_in1 46 rfl rfl
theorem w_47 : (Jvm.Cond.fieldLink "MapLumps$Span" (7 : Nat) "MapLumps$Span" "ax" "I") ∈ gw := gw_in1 47 rfl rfl
theorem w_48 : (Jvm.Cond.fieldLink "MapLumps$Span" (13 : Nat) "MapLumps$Span" "ay" "I") ∈ gw := gw_in1 48 rfl rfl
theorem w_49 : (Jvm.Cond.fieldLink "MapLumps$Span" (16 : Nat) "MapLumps$Span" "bx" "I") ∈ gw := gw_in1 49 rfl rfl
theorem w_50 : (Jvm.Cond.fieldLink "MapLumps$Span" (19 : Nat) "MapLumps$Span" "by" "I") ∈ gw := gw_in1 50 rfl rfl
theorem w_51 : (Jvm.Cond.fieldLink "MapLumps$Span" (28 : Nat) "MapLumps$Span" "left" "I") ∈ gw := gw_in1 51 rfl rfl
theorem w_52 : (Jvm.Cond.fieldLink "MapLumps$Span" (34 : Nat) "MapLumps$Span" "right" "I") ∈ gw := gw_in1 52 rfl rfl
theorem w_53 : (Jvm.Cond.fieldLink "MapLumps$Span" (37 : Nat) "MapLumps$Span" "bottom" "I") ∈ gw := gw_in1 53 rfl rfl
theorem w_54 : (Jvm.Cond.fieldLink "MapLumps$Span" (40 : Nat) "MapLumps$Span" "top" "I") ∈ gw := gw_in1 54 rfl rfl
theorem w_55 : (Jvm.Cond.lays "MapLumps$Span" "MapLumps$Span" "ax" "I") ∈ gw := gw_in1 55 rfl rfl
theorem w_57 : (Jvm.Cond.lays "MapLumps$Span" "MapLumps$Span" "ay" "I") ∈ gw := gw_in1 57 rfl rfl
theorem w_59 : (Jvm.Cond.lays "MapLumps$Span" "MapLumps$Span" "bx" "I") ∈ gw := gw_in1 59 rfl rfl
theorem w_61 : (Jvm.Cond.lays "MapLumps$Span" "MapLumps$Span" "by" "I") ∈ gw := gw_in1 61 rfl rfl
theorem w_63 : (Jvm.Cond.lays "MapLumps$Span" "MapLumps$Span" "left" "I") ∈ gw := gw_in1 63 rfl rfl
theorem w_65 : (Jvm.Cond.lays "MapLumps$Span" "MapLumps$Span" "right" "I") ∈ gw := gw_in1 65 rfl rfl
theorem w_67 : (Jvm.Cond.lays "MapLumps$Span" "MapLumps$Span" "bottom" "I") ∈ gw := gw_in1 67 rfl rfl
theorem w_69 : (Jvm.Cond.lays "MapLumps$Span" "MapLumps$Span" "top" "I") ∈ gw := gw_in1 69 rfl rfl
theorem w_72 : (Jvm.Cond.arrayClass Jvm.ClassFile.FieldType.int) ∈ gw := gw_in1 72 rfl rfl
theorem w_73 : (Jvm.Cond.fieldLink "MapLumps$Reader" (12 : Nat) "MapLumps$Reader" "source" "LMapLumps$Row;") ∈ gw := gw_in1 73 rfl rfl
theorem w_75 : (Jvm.Cond.fieldLink "MapLumps$Reader" (18 : Nat) "MapLumps$Reader" "xs" "[I") ∈ gw := gw_in1 75 rfl rfl
theorem w_76 : (Jvm.Cond.fieldLink "MapLumps$Reader" (22 : Nat) "MapLumps$Reader" "ys" "[I") ∈ gw := gw_in1 76 rfl rfl
theorem w_77 : (Jvm.Cond.fieldLink "MapLumps$Reader" (27 : Nat) "MapLumps$Reader" "spans" "[LMapLumps$Span;") ∈ gw := gw_in1 77 rfl rfl
theorem w_78 : (Jvm.Cond.fieldLink "MapLumps$Reader" (77 : Nat) "MapLumps$Reader" "vertices" "I") ∈ gw := gw_in1 78 rfl rfl
theorem w_79 : (Jvm.Cond.fieldLink "MapLumps$Reader" (80 : Nat) "MapLumps$Reader" "textures" "I") ∈ gw := gw_in1 79 rfl rfl
theorem w_80 : (Jvm.Cond.fieldLink "MapLumps$Reader" (83 : Nat) "MapLumps$Reader" "sectors" "I") ∈ gw := gw_in1 80 rfl rfl
theorem w_81 : (Jvm.Cond.fieldLink "MapLumps$Reader" (86 : Nat) "MapLumps$Reader" "walls" "I") ∈ gw := gw_in1 81 rfl rfl
theorem w_82 : (Jvm.Cond.fieldLink "MapLumps$Reader" (103 : Nat) "MapLumps$Reader" "wallsAt" "I") ∈ gw := gw_in1 82 rfl rfl
theorem w_83 : (Jvm.Cond.fieldLink "MapLumps$Reader" (39 : Nat) "MapLumps$Reader" "place" "I") ∈ gw := gw_in1 83 rfl rfl
theorem w_84 : (Jvm.Cond.fieldLink "MapLumps$Reader" (42 : Nat) "MapLumps$Reader" "fault" "I") ∈ gw := gw_in1 84 rfl rfl
theorem w_86 : (Jvm.Cond.fieldLink "MapLumps$Reader" (31 : Nat) "MapLumps$Reader" "faultPlace" "I") ∈ gw := gw_in1 86 rfl rfl
theorem w_88 : (Jvm.Cond.fieldLink "MapLumps$Reader" (35 : Nat) "MapLumps$Reader" "faultWall" "I") ∈ gw := gw_in1 88 rfl rfl
theorem w_90 : (Jvm.Cond.laysFinal "MapLumps$Reader" "MapLumps$Reader" "source" "LMapLumps$Row;") ∈ gw := gw_in1 90 rfl rfl
theorem w_92 : (Jvm.Cond.laysFinal "MapLumps$Reader" "MapLumps$Reader" "xs" "[I") ∈ gw := gw_in1 92 rfl rfl
theorem w_94 : (Jvm.Cond.laysFinal "MapLumps$Reader" "MapLumps$Reader" "ys" "[I") ∈ gw := gw_in1 94 rfl rfl
theorem w_96 : (Jvm.Cond.laysFinal "MapLumps$Reader" "MapLumps$Reader" "spans" "[LMapLumps$Span;") ∈ gw := gw_in1 96 rfl rfl
theorem w_98 : (Jvm.Cond.lays "MapLumps$Reader" "MapLumps$Reader" "vertices" "I") ∈ gw := gw_in1 98 rfl rfl
theorem w_100 : (Jvm.Cond.lays "MapLumps$Reader" "MapLumps$Reader" "textures" "I") ∈ gw := gw_in1 100 rfl rfl
theorem w_102 : (Jvm.Cond.lays "MapLumps$Reader" "MapLumps$Reader" "sectors" "I") ∈ gw := gw_in1 102 rfl rfl
theorem w_104 : (Jvm.Cond.lays "MapLumps$Reader" "MapLumps$Reader" "walls" "I") ∈ gw := gw_in1 104 rfl rfl
theorem w_106 : (Jvm.Cond.lays "MapLumps$Reader" "MapLumps$Reader" "wallsAt" "I") ∈ gw := gw_in1 106 rfl rfl
theorem w_108 : (Jvm.Cond.lays "MapLumps$Reader" "MapLumps$Reader" "place" "I") ∈ gw := gw_in1 108 rfl rfl
theorem w_110 : (Jvm.Cond.lays "MapLumps$Reader" "MapLumps$Reader" "fault" "I") ∈ gw := gw_in1 110 rfl rfl
theorem w_112 : (Jvm.Cond.lays "MapLumps$Reader" "MapLumps$Reader" "faultPlace" "I") ∈ gw := gw_in1 112 rfl rfl
theorem w_114 : (Jvm.Cond.lays "MapLumps$Reader" "MapLumps$Reader" "faultWall" "I") ∈ gw := gw_in1 114 rfl rfl
theorem w_117 : (Jvm.Cond.classLink "MapLumps" (23 : Nat) "MapLumps$Row") ∈ gw := gw_in1 117 rfl rfl
theorem w_119 : (Jvm.Cond.classLink "MapLumps" (29 : Nat) "MapLumps$RoomMap") ∈ gw := gw_in1 119 rfl rfl
theorem w_120 : (Jvm.Cond.instantiable "MapLumps$RoomMap" (10 : Nat)) ∈ gw := gw_in1 120 rfl rfl
theorem w_122 : (Jvm.Cond.instanceMethod ({ cls := "MapLumps$RoomMap", name := "<init>", desc := "()V" } : Jvm.MethodName)) ∈ gw := gw_in1 122 rfl rfl
theorem w_123 : (Jvm.Cond.code ({ cls := "MapLumps$RoomMap", name := "<init>", desc := "()V" } : Jvm.MethodName) prog_3_method_1_code (1 : Nat) (Option.none : Option Jvm.ClassFile.FieldType)) ∈ gw := gw_in1 123 rfl rfl
theorem w_124 : (Jvm.Cond.methodLink "MapLumps$RoomMap" (3 : Nat) ({ cls := "java/lang/Object", name := "<init>", desc := "()V" } : Jvm.MethodName)) ∈ gw := gw_in1 124 rfl rfl
theorem w_125 : (Jvm.Cond.classLink "MapLumps$RoomMap" (9 : Nat) "MapLumps$Row") ∈ gw := gw_in1 125 rfl rfl
theorem w_127 : (Jvm.Cond.fieldLink "MapLumps$RoomMap" (12 : Nat) "MapLumps$RoomMap" "row" "LMapLumps$Row;") ∈ gw := gw_in1 127 rfl rfl
theorem w_129 : (Jvm.Cond.fieldLink "MapLumps$RoomMap" (18 : Nat) "MapLumps$RoomMap" "texturesAt" "[I") ∈ gw := gw_in1 129 rfl rfl
theorem w_130 : (Jvm.Cond.fieldLink "MapLumps$RoomMap" (26 : Nat) "MapLumps$RoomMap" "present" "Z") ∈ gw := gw_in1 130 rfl rfl
theorem w_132 : (Jvm.Cond.fieldLink "MapLumps$RoomMap" (34 : Nat) "MapLumps$RoomMap" "vertices" "I") ∈ gw := gw_in1 132 rfl rfl
theorem w_134 : (Jvm.Cond.fieldLink "MapLumps$RoomMap" (38 : Nat) "MapLumps$RoomMap" "textures" "I") ∈ gw := gw_in1 134 rfl rfl
theorem w_136 : (Jvm.Cond.fieldLink "MapLumps$RoomMap" (41 : Nat) "MapLumps$RoomMap" "sectors" "I") ∈ gw := gw_in1 136 rfl rfl
theorem w_138 : (Jvm.Cond.fieldLink "MapLumps$RoomMap" (44 : Nat) "MapLumps$RoomMap" "walls" "I") ∈ gw := gw_in1 138 rfl rfl
theorem w_140 : (Jvm.Cond.fieldLink "MapLumps$RoomMap" (53 : Nat) "MapLumps$RoomMap" "sectorsAt" "I") ∈ gw := gw_in1 140 rfl rfl
theorem w_142 : (Jvm.Cond.fieldLink "MapLumps$RoomMap" (56 : Nat) "MapLumps$RoomMap" "wallsAt" "I") ∈ gw := gw_in1 142 rfl rfl
theorem w_144 : (Jvm.Cond.fieldLink "MapLumps$RoomMap" (59 : Nat) "MapLumps$RoomMap" "startAt" "I") ∈ gw := gw_in1 144 rfl rfl
theorem w_146 : (Jvm.Cond.laysFinal "MapLumps$RoomMap" "MapLumps$RoomMap" "row" "LMapLumps$Row;") ∈ gw := gw_in1 146 rfl rfl
theorem w_148 : (Jvm.Cond.laysFinal "MapLumps$RoomMap" "MapLumps$RoomMap" "texturesAt" "[I") ∈ gw := gw_in1 148 rfl rfl
theorem w_150 : (Jvm.Cond.lays "MapLumps$RoomMap" "MapLumps$RoomMap" "present" "Z") ∈ gw := gw_in1 150 rfl rfl
theorem w_152 : (Jvm.Cond.lays "MapLumps$RoomMap" "MapLumps$RoomMap" "vertices" "I") ∈ gw := gw_in1 152 rfl rfl
theorem w_154 : (Jvm.Cond.lays "MapLumps$RoomMap" "MapLumps$RoomMap" "textures" "I") ∈ gw := gw_in1 154 rfl rfl
theorem w_156 : (Jvm.Cond.lays "MapLumps$RoomMap" "MapLumps$RoomMap" "sectors" "I") ∈ gw := gw_in1 156 rfl rfl
theorem w_158 : (Jvm.Cond.lays "MapLumps$RoomMap" "MapLumps$RoomMap" "walls" "I") ∈ gw := gw_in1 158 rfl rfl
theorem w_160 : (Jvm.Cond.lays "MapLumps$RoomMap" "MapLumps$RoomMap" "sectorsAt" "I") ∈ gw := gw_in1 160 rfl rfl
theorem w_162 : (Jvm.Cond.lays "MapLumps$RoomMap" "MapLumps$RoomMap" "wallsAt" "I") ∈ gw := gw_in1 162 rfl rfl
theorem w_164 : (Jvm.Cond.lays "MapLumps$RoomMap" "MapLumps$RoomMap" "startAt" "I") ∈ gw := gw_in1 164 rfl rfl
theorem w_167 : (Jvm.Cond.fieldLink "MapLumps" (10 : Nat) "MapLumps" "reader" "LMapLumps$Reader;") ∈ gw := gw_in1 167 rfl rfl
theorem w_168 : (Jvm.Cond.fieldLink "MapLumps" (20 : Nat) "MapLumps" "input" "LMapLumps$Row;") ∈ gw := gw_in1 168 rfl rfl
theorem w_169 : (Jvm.Cond.fieldLink "MapLumps" (26 : Nat) "MapLumps" "output" "LMapLumps$Row;") ∈ gw := gw_in1 169 rfl rfl
theorem w_170 : (Jvm.Cond.fieldLink "MapLumps" (32 : Nat) "MapLumps" "map" "LMapLumps$RoomMap;") ∈ gw := gw_in1 170 rfl rfl
theorem w_171 : (Jvm.Cond.laysFinal "MapLumps" "MapLumps" "reader" "LMapLumps$Reader;") ∈ gw := gw_in1 171 rfl rfl
theorem w_173 : (Jvm.Cond.laysFinal "MapLumps" "MapLumps" "input" "LMapLumps$Row;") ∈ gw := gw_in1 173 rfl rfl
theorem w_175 : (Jvm.Cond.laysFinal "MapLumps" "MapLumps" "output" "LMapLumps$Row;") ∈ gw := gw_in1 175 rfl rfl
theorem w_177 : (Jvm.Cond.laysFinal "MapLumps" "MapLumps" "map" "LMapLumps$RoomMap;") ∈ gw := gw_in1 177 rfl rfl
theorem w_180 : (Jvm.Cond.methodLink "MapLumpsLaw" (15 : Nat) ({ cls := "MapLumps", name := "give", desc := "(JI)Z" } : Jvm.MethodName)) ∈ gw := gw_in1 180 rfl rfl
theorem w_181 : (Jvm.Cond.instanceMethod ({ cls := "MapLumps", name := "give", desc := "(JI)Z" } : Jvm.MethodName)) ∈ gw := gw_in1 181 rfl rfl
theorem w_182 : (Jvm.Cond.selects "MapLumps" ({ cls := "MapLumps", name := "give", desc := "(JI)Z" } : Jvm.MethodName) ({ cls := "MapLumps", name := "give", desc := "(JI)Z" } : Jvm.MethodName)) ∈ gw := gw_in1 182 rfl rfl
theorem w_183 : (Jvm.Cond.code ({ cls := "MapLumps", name := "give", desc := "(JI)Z" } : Jvm.MethodName) prog_1_method_2_code (5 : Nat) (Option.some Jvm.ClassFile.FieldType.boolean)) ∈ gw := gw_in1 183 rfl rfl
theorem w_184 : (Jvm.Cond.methodLink "MapLumps" (36 : Nat) ({ cls := "MapLumps$Row", name := "free", desc := "()I" } : Jvm.MethodName)) ∈ gw := gw_in1 184 rfl rfl
theorem w_185 : (Jvm.Cond.instanceMethod ({ cls := "MapLumps$Row", name := "free", desc := "()I" } : Jvm.MethodName)) ∈ gw := gw_in1 185 rfl rfl
theorem w_186 : (Jvm.Cond.selects "MapLumps$Row" ({ cls := "MapLumps$Row", name := "free", desc := "()I" } : Jvm.MethodName) ({ cls := "MapLumps$Row", name := "free", desc := "()I" } : Jvm.MethodName)) ∈ gw := gw_in1 186 rfl rfl
theorem w_187 : (Jvm.Cond.code ({ cls := "MapLumps$Row", name := "free", desc := "()I" } : Jvm.MethodName) prog_4_method_2_code (1 : Nat) (Option.some Jvm.ClassFile.FieldType.int)) ∈ gw := gw_in1 187 rfl rfl
theorem w_188 : (Jvm.Cond.methodLink "MapLumps" (40 : Nat) ({ cls := "MapLumps$Row", name := "append", desc := "(I)V" } : Jvm.MethodName)) ∈ gw := gw_in1 188 rfl rfl
theorem w_189 : (Jvm.Cond.instanceMethod ({ cls := "MapLumps$Row", name := "append", desc := "(I)V" } : Jvm.MethodName)) ∈ gw := gw_in1 189 rfl rfl
theorem w_190 : (Jvm.Cond.selects "MapLumps$Row" ({ cls := "MapLumps$Row", name := "append", desc := "(I)V" } : Jvm.MethodName) ({ cls := "MapLumps$Row", name := "append", desc := "(I)V" } : Jvm.MethodName)) ∈ gw := gw_in1 190 rfl rfl
theorem w_191 : (Jvm.Cond.code ({ cls := "MapLumps$Row", name := "append", desc := "(I)V" } : Jvm.MethodName) prog_4_method_5_code (2 : Nat) (Option.none : Option Jvm.ClassFile.FieldType)) ∈ gw := gw_in1 191 rfl rfl
theorem w_192 : (Jvm.Cond.methodLink "MapLumpsLaw" (20 : Nat) ({ cls := "MapLumps", name := "cut", desc := "(I)Z" } : Jvm.MethodName)) ∈ gw := gw_in1 192 rfl rfl
theorem w_193 : (Jvm.Cond.instanceMethod ({ cls := "MapLumps", name := "cut", desc := "(I)Z" } : Jvm.MethodName)) ∈ gw := gw_in1 193 rfl rfl
theorem w_194 : (Jvm.Cond.selects "MapLumps" ({ cls := "MapLumps", name := "cut", desc := "(I)Z" } : Jvm.MethodName) ({ cls := "MapLumps", name := "cut", desc := "(I)Z" } : Jvm.MethodName)) ∈ gw := gw_in1 194 rfl rfl
theorem w_195 : (Jvm.Cond.code ({ cls := "MapLumps", name := "cut", desc := "(I)Z" } : Jvm.MethodName) prog_1_method_3_code (2 : Nat) (Option.some Jvm.ClassFile.FieldType.boolean)) ∈ gw := gw_in1 195 rfl rfl
theorem w_196 : (Jvm.Cond.methodLink "MapLumps" (44 : Nat) ({ cls := "MapLumps$Row", name := "shorten", desc := "(I)Z" } : Jvm.MethodName)) ∈ gw := gw_in1 196 rfl rfl
theorem w_197 : (Jvm.Cond.instanceMethod ({ cls := "MapLumps$Row", name := "shorten", desc := "(I)Z" } : Jvm.MethodName)) ∈ gw := gw_in1 197 rfl rfl
theorem w_198 : (Jvm.Cond.selects "MapLumps$Row" ({ cls := "MapLumps$Row", name := "shorten", desc := "(I)Z" } : Jvm.MethodName) ({ cls := "MapLumps$Row", name := "shorten", desc := "(I)Z" } : Jvm.MethodName)) ∈ gw := gw_in1 198 rfl rfl
theorem w_199 : (Jvm.Cond.code ({ cls := "MapLumps$Row", name := "shorten", desc := "(I)Z" } : Jvm.MethodName) prog_4_method_6_code (2 : Nat) (Option.some Jvm.ClassFile.FieldType.boolean)) ∈ gw := gw_in1 199 rfl rfl
theorem w_200 : (Jvm.Cond.methodLink "MapLumpsLaw" (25 : Nat) ({ cls := "MapLumps", name := "poke", desc := "(II)Z" } : Jvm.MethodName)) ∈ gw := gw_in1 200 rfl rfl
theorem w_201 : (Jvm.Cond.instanceMethod ({ cls := "MapLumps", name := "poke", desc := "(II)Z" } : Jvm.MethodName)) ∈ gw := gw_in1 201 rfl rfl
theorem w_202 : (Jvm.Cond.selects "MapLumps" ({ cls := "MapLumps", name := "poke", desc := "(II)Z" } : Jvm.MethodName) ({ cls := "MapLumps", name := "poke", desc := "(II)Z" } : Jvm.MethodName)) ∈ gw := gw_in1 202 rfl rfl
theorem w_203 : (Jvm.Cond.code ({ cls := "MapLumps", name := "poke", desc := "(II)Z" } : Jvm.MethodName) prog_1_method_4_code (3 : Nat) (Option.some Jvm.ClassFile.FieldType.boolean)) ∈ gw := gw_in1 203 rfl rfl
theorem w_204 : (Jvm.Cond.methodLink "MapLumps" (48 : Nat) ({ cls := "MapLumps$Row", name := "put", desc := "(II)Z" } : Jvm.MethodName)) ∈ gw := gw_in1 204 rfl rfl
theorem w_205 : (Jvm.Cond.instanceMethod ({ cls := "MapLumps$Row", name := "put", desc := "(II)Z" } : Jvm.MethodName)) ∈ gw := gw_in1 205 rfl rfl
theorem w_206 : (Jvm.Cond.selects "MapLumps$Row" ({ cls := "MapLumps$Row", name := "put", desc := "(II)Z" } : Jvm.MethodName) ({ cls := "MapLumps$Row", name := "put", desc := "(II)Z" } : Jvm.MethodName)) ∈ gw := gw_in1 206 rfl rfl
theorem w_207 : (Jvm.Cond.code ({ cls := "MapLumps$Row", name := "put", desc := "(II)Z" } : Jvm.MethodName) prog_4_method_4_code (3 : Nat) (Option.some Jvm.ClassFile.FieldType.boolean)) ∈ gw := gw_in1 207 rfl rfl
theorem w_208 : (Jvm.Cond.methodLink "MapLumpsLaw" (30 : Nat) ({ cls := "MapLumps", name := "read", desc := "()I" } : Jvm.MethodName)) ∈ gw := gw_in1 208 rfl rfl
theorem w_209 : (Jvm.Cond.instanceMethod ({ cls := "MapLumps", name := "read", desc := "()I" } : Jvm.MethodName)) ∈ gw := gw_in1 209 rfl rfl
theorem w_210 : (Jvm.Cond.selects "MapLumps" ({ cls := "MapLumps", name := "read", desc := "()I" } : Jvm.MethodName) ({ cls := "MapLumps", name := "read", desc := "()I" } : Jvm.MethodName)) ∈ gw := gw_in1 210 rfl rfl
theorem w_211 : (Jvm.Cond.code ({ cls := "MapLumps", name := "read", desc := "()I" } : Jvm.MethodName) prog_1_method_5_code (2 : Nat) (Option.some Jvm.ClassFile.FieldType.int)) ∈ gw := gw_in1 211 rfl rfl
theorem w_212 : (Jvm.Cond.methodLink "MapLumps" (52 : Nat) ({ cls := "MapLumps$Reader", name := "judge", desc := "()I" } : Jvm.MethodName)) ∈ gw := gw_in1 212 rfl rfl
theorem w_213 : (Jvm.Cond.instanceMethod ({ cls := "MapLumps$Reader", name := "judge", desc := "()I" } : Jvm.MethodName)) ∈ gw := gw_in1 213 rfl rfl
theorem w_214 : (Jvm.Cond.selects "MapLumps$Reader" ({ cls := "MapLumps$Reader", name := "judge", desc := "()I" } : Jvm.MethodName) ({ cls := "MapLumps$Reader", name := "judge", desc := "()I" } : Jvm.MethodName)) ∈ gw := gw_in1 214 rfl rfl
theorem w_215 : (Jvm.Cond.code ({ cls := "MapLumps$Reader", name := "judge", desc := "()I" } : Jvm.MethodName) prog_2_method_2_code (1 : Nat) (Option.some Jvm.ClassFile.FieldType.int)) ∈ gw := gw_in1 215 rfl rfl
theorem w_216 : (Jvm.Cond.methodLink "MapLumps$Reader" (45 : Nat) ({ cls := "MapLumps$Reader", name := "passHead", desc := "()V" } : Jvm.MethodName)) ∈ gw := gw_in1 216 rfl rfl
theorem w_218 : (Jvm.Cond.instanceMethod ({ cls := "MapLumps$Reader", name := "passHead", desc := "()V" } : Jvm.MethodName)) ∈ gw := gw_in1 218 rfl rfl
theorem w_219 : (Jvm.Cond.code ({ cls := "MapLumps$Reader", name := "passHead", desc := "()V" } : Jvm.MethodName) prog_2_method_3_code (1 : Nat) (Option.none : Option Jvm.ClassFile.FieldType)) ∈ gw := gw_in1 219 rfl rfl
theorem w_220 : (Jvm.Cond.methodLink "MapLumps$Reader" (69 : Nat) ({ cls := "MapLumps$Reader", name := "expect", desc := "(II)V" } : Jvm.MethodName)) ∈ gw := gw_in1 220 rfl rfl
theorem w_222 : (Jvm.Cond.instanceMethod ({ cls := "MapLumps$Reader", name := "expect", desc := "(II)V" } : Jvm.MethodName)) ∈ gw := gw_in1 222 rfl rfl
theorem w_223 : (Jvm.Cond.code ({ cls := "MapLumps$Reader", name := "expect", desc := "(II)V" } : Jvm.MethodName) prog_2_method_15_code (4 : Nat) (Option.none : Option Jvm.ClassFile.FieldType)) ∈ gw := gw_in1 223 rfl rfl
theorem w_224 : (Jvm.Cond.methodLink "MapLumps$Reader" (131 : Nat) ({ cls := "MapLumps$Reader", name := "next", desc := "()I" } : Jvm.MethodName)) ∈ gw := gw_in1 224 rfl rfl
theorem w_226 : (Jvm.Cond.instanceMethod ({ cls := "MapLumps$Reader", name := "next", desc := "()I" } : Jvm.MethodName)) ∈ gw := gw_in1 226 rfl rfl
theorem w_227 : (Jvm.Cond.code ({ cls := "MapLumps$Reader", name := "next", desc := "()I" } : Jvm.MethodName) prog_2_method_14_code (2 : Nat) (Option.some Jvm.ClassFile.FieldType.int)) ∈ gw := gw_in1 227 rfl rfl
theorem w_228 : (Jvm.Cond.methodLink "MapLumps$Reader" (128 : Nat) ({ cls := "MapLumps$Row", name := "get", desc := "(I)I" } : Jvm.MethodName)) ∈ gw := gw_in1 228 rfl rfl
theorem w_229 : (Jvm.Cond.instanceMethod ({ cls := "MapLumps$Row", name := "get", desc := "(I)I" } : Jvm.MethodName)) ∈ gw := gw_in1 229 rfl rfl
theorem w_230 : (Jvm.Cond.selects "MapLumps$Row" ({ cls := "MapLumps$Row", name := "get", desc := "(I)I" } : Jvm.MethodName) ({ cls := "MapLumps$Row", name := "get", desc := "(I)I" } : Jvm.MethodName)) ∈ gw := gw_in1 230 rfl rfl
theorem w_231 : (Jvm.Cond.code ({ cls := "MapLumps$Row", name := "get", desc := "(I)I" } : Jvm.MethodName) prog_4_method_3_code (2 : Nat) (Option.some Jvm.ClassFile.FieldType.int)) ∈ gw := gw_in1 231 rfl rfl
theorem w_232 : (Jvm.Cond.methodLink "MapLumps$Reader" (96 : Nat) ({ cls := "MapLumps$Reader", name := "fail", desc := "(II)V" } : Jvm.MethodName)) ∈ gw := gw_in1 232 rfl rfl
theorem w_234 : (Jvm.Cond.instanceMethod ({ cls := "MapLumps$Reader", name := "fail", desc := "(II)V" } : Jvm.MethodName)) ∈ gw := gw_in1 234 rfl rfl
theorem w_235 : (Jvm.Cond.code ({ cls := "MapLumps$Reader", name := "fail", desc := "(II)V" } : Jvm.MethodName) prog_2_method_20_code (3 : Nat) (Option.none : Option Jvm.ClassFile.FieldType)) ∈ gw := gw_in1 235 rfl rfl
theorem w_236 : (Jvm.Cond.methodLink "MapLumps$Reader" (73 : Nat) ({ cls := "MapLumps$Reader", name := "small", desc := "(II)I" } : Jvm.MethodName)) ∈ gw := gw_in1 236 rfl rfl
theorem w_238 : (Jvm.Cond.instanceMethod ({ cls := "MapLumps$Reader", name := "small", desc := "(II)I" } : Jvm.MethodName)) ∈ gw := gw_in1 238 rfl rfl
theorem w_239 : (Jvm.Cond.code ({ cls := "MapLumps$Reader", name := "small", desc := "(II)I" } : Jvm.MethodName) prog_2_method_16_code (4 : Nat) (Option.some Jvm.ClassFile.FieldType.int)) ∈ gw := gw_in1 239 rfl rfl
theorem w_240 : (Jvm.Cond.methodLink "MapLumps$Reader" (135 : Nat) ({ cls := "MapLumps$Reader", name := "judged", desc := "(IIII)I" } : Jvm.MethodName)) ∈ gw := gw_in2 0 rfl rfl
theorem w_242 : (Jvm.Cond.instanceMethod ({ cls := "MapLumps$Reader", name := "judged", desc := "(IIII)I" } : Jvm.MethodName)) ∈ gw := gw_in2 2 rfl rfl
theorem w_243 : (Jvm.Cond.code ({ cls := "MapLumps$Reader", name := "judged", desc := "(IIII)I" } : Jvm.MethodName) prog_2_method_19_code (5 : Nat) (Option.some Jvm.ClassFile.FieldType.int)) ∈ gw := gw_in2 3 rfl rfl
theorem w_244 : (Jvm.Cond.methodLink "MapLumps$Reader" (48 : Nat) ({ cls := "MapLumps$Reader", name := "passVertices", desc := "()V" } : Jvm.MethodName)) ∈ gw := gw_in2 4 rfl rfl
theorem w_246 : (Jvm.Cond.instanceMethod ({ cls := "MapLumps$Reader", name := "passVertices", desc := "()V" } : Jvm.MethodName)) ∈ gw := gw_in2 6 rfl rfl
theorem w_247 : (Jvm.Cond.code ({ cls := "MapLumps$Reader", name := "passVertices", desc := "()V" } : Jvm.MethodName) prog_2_method_4_code (3 : Nat) (Option.none : Option Jvm.ClassFile.FieldType)) ∈ gw := gw_in2 7 rfl rfl
theorem w_248 : (Jvm.Cond.methodLink "MapLumps$Reader" (89 : Nat) ({ cls := "MapLumps$Reader", name := "wide", desc := "(II)I" } : Jvm.MethodName)) ∈ gw := gw_in2 8 rfl rfl
theorem w_250 : (Jvm.Cond.instanceMethod ({ cls := "MapLumps$Reader", name := "wide", desc := "(II)I" } : Jvm.MethodName)) ∈ gw := gw_in2 10 rfl rfl
theorem w_251 : (Jvm.Cond.code ({ cls := "MapLumps$Reader", name := "wide", desc := "(II)I" } : Jvm.MethodName) prog_2_method_18_code (6 : Nat) (Option.some Jvm.ClassFile.FieldType.int)) ∈ gw := gw_in2 11 rfl rfl
theorem w_252 : (Jvm.Cond.constant "MapLumps$Reader" (139 : Nat) (65536 : Int32)) ∈ gw := gw_in2 12 rfl rfl
theorem w_253 : (Jvm.Cond.methodLink "MapLumps$Reader" (92 : Nat) ({ cls := "MapLumps$Reader", name := "isTaken", desc := "(I)Z" } : Jvm.MethodName)) ∈ gw := gw_in2 13 rfl rfl
theorem w_255 : (Jvm.Cond.instanceMethod ({ cls := "MapLumps$Reader", name := "isTaken", desc := "(I)Z" } : Jvm.MethodName)) ∈ gw := gw_in2 15 rfl rfl
theorem w_256 : (Jvm.Cond.code ({ cls := "MapLumps$Reader", name := "isTaken", desc := "(I)Z" } : Jvm.MethodName) prog_2_method_5_code (3 : Nat) (Option.some Jvm.ClassFile.FieldType.boolean)) ∈ gw := gw_in2 16 rfl rfl
theorem w_257 : (Jvm.Cond.methodLink "MapLumps$Reader" (51 : Nat) ({ cls := "MapLumps$Reader", name := "passTextures", desc := "()V" } : Jvm.MethodName)) ∈ gw := gw_in2 17 rfl rfl
theorem w_259 : (Jvm.Cond.instanceMethod ({ cls := "MapLumps$Reader", name := "passTextures", desc := "()V" } : Jvm.MethodName)) ∈ gw := gw_in2 19 rfl rfl
theorem w_260 : (Jvm.Cond.code ({ cls := "MapLumps$Reader", name := "passTextures", desc := "()V" } : Jvm.MethodName) prog_2_method_6_code (5 : Nat) (Option.none : Option Jvm.ClassFile.FieldType)) ∈ gw := gw_in2 20 rfl rfl
theorem w_261 : (Jvm.Cond.methodLink "MapLumps$Reader" (54 : Nat) ({ cls := "MapLumps$Reader", name := "passSectors", desc := "()V" } : Jvm.MethodName)) ∈ gw := gw_in2 21 rfl rfl
theorem w_263 : (Jvm.Cond.instanceMethod ({ cls := "MapLumps$Reader", name := "passSectors", desc := "()V" } : Jvm.MethodName)) ∈ gw := gw_in2 23 rfl rfl
theorem w_264 : (Jvm.Cond.code ({ cls := "MapLumps$Reader", name := "passSectors", desc := "()V" } : Jvm.MethodName) prog_2_method_7_code (3 : Nat) (Option.none : Option Jvm.ClassFile.FieldType)) ∈ gw := gw_in2 24 rfl rfl
theorem w_265 : (Jvm.Cond.methodLink "MapLumps$Reader" (99 : Nat) ({ cls := "MapLumps$Reader", name := "smallOrAbsent", desc := "(I)I" } : Jvm.MethodName)) ∈ gw := gw_in2 25 rfl rfl
theorem w_267 : (Jvm.Cond.instanceMethod ({ cls := "MapLumps$Reader", name := "smallOrAbsent", desc := "(I)I" } : Jvm.MethodName)) ∈ gw := gw_in2 27 rfl rfl
theorem w_268 : (Jvm.Cond.code ({ cls := "MapLumps$Reader", name := "smallOrAbsent", desc := "(I)I" } : Jvm.MethodName) prog_2_method_17_code (4 : Nat) (Option.some Jvm.ClassFile.FieldType.int)) ∈ gw := gw_in2 28 rfl rfl
theorem w_269 : (Jvm.Cond.methodLink "MapLumps$Reader" (57 : Nat) ({ cls := "MapLumps$Reader", name := "passWalls", desc := "()V" } : Jvm.MethodName)) ∈ gw := gw_in2 29 rfl rfl
theorem w_271 : (Jvm.Cond.instanceMethod ({ cls := "MapLumps$Reader", name := "passWalls", desc := "()V" } : Jvm.MethodName)) ∈ gw := gw_in2 31 rfl rfl
theorem w_272 : (Jvm.Cond.code ({ cls := "MapLumps$Reader", name := "passWalls", desc := "()V" } : Jvm.MethodName) prog_2_method_8_code (3 : Nat) (Option.none : Option Jvm.ClassFile.FieldType)) ∈ gw := gw_in2 32 rfl rfl
theorem w_273 : (Jvm.Cond.methodLink "MapLumps$Reader" (106 : Nat) ({ cls := "MapLumps$Reader", name := "passWallEnds", desc := "(LMapLumps$Span;)V" } : Jvm.MethodName)) ∈ gw := gw_in2 33 rfl rfl
theorem w_275 : (Jvm.Cond.instanceMethod ({ cls := "MapLumps$Reader", name := "passWallEnds", desc := "(LMapLumps$Span;)V" } : Jvm.MethodName)) ∈ gw := gw_in2 35 rfl rfl
theorem w_276 : (Jvm.Cond.code ({ cls := "MapLumps$Reader", name := "passWallEnds", desc := "(LMapLumps$Span;)V" } : Jvm.MethodName) prog_2_method_9_code (5 : Nat) (Option.none : Option Jvm.ClassFile.FieldType)) ∈ gw := gw_in2 36 rfl rfl
theorem w_277 : (Jvm.Cond.methodLink "MapLumps$Reader" (114 : Nat) ({ cls := "MapLumps$Span", name := "lay", desc := "(IIII)V" } : Jvm.MethodName)) ∈ gw := gw_in2 37 rfl rfl
theorem w_278 : (Jvm.Cond.instanceMethod ({ cls := "MapLumps$Span", name := "lay", desc := "(IIII)V" } : Jvm.MethodName)) ∈ gw := gw_in2 38 rfl rfl
theorem w_279 : (Jvm.Cond.selects "MapLumps$Span" ({ cls := "MapLumps$Span", name := "lay", desc := "(IIII)V" } : Jvm.MethodName) ({ cls := "MapLumps$Span", name := "lay", desc := "(IIII)V" } : Jvm.MethodName)) ∈ gw := gw_in2 39 rfl rfl
theorem w_280 : (Jvm.Cond.code ({ cls := "MapLumps$Span", name := "lay", desc := "(IIII)V" } : Jvm.MethodName) prog_5_method_2_code (5 : Nat) (Option.none : Option Jvm.ClassFile.FieldType)) ∈ gw := gw_in2 40 rfl rfl
theorem w_281 : (Jvm.Cond.methodLink "MapLumps$Span" (22 : Nat) ({ cls := "java/lang/Math", name := "min", desc := "(II)I" } : Jvm.MethodName)) ∈ gw := gw_in2 41 rfl rfl
theorem w_282 : (Jvm.Cond.static ({ cls := "java/lang/Math", name := "min", desc := "(II)I" } : Jvm.MethodName)) ∈ gw := gw_in2 42 rfl rfl
theorem w_283 : (Jvm.Cond.code ({ cls := "java/lang/Math", name := "min", desc := "(II)I" } : Jvm.MethodName) prog_9_method_69_code (2 : Nat) (Option.some Jvm.ClassFile.FieldType.int)) ∈ gw := gw_in2 43 rfl rfl
theorem w_284 : (Jvm.Cond.methodLink "MapLumps$Span" (31 : Nat) ({ cls := "java/lang/Math", name := "max", desc := "(II)I" } : Jvm.MethodName)) ∈ gw := gw_in2 44 rfl rfl
theorem w_285 : (Jvm.Cond.static ({ cls := "java/lang/Math", name := "max", desc := "(II)I" } : Jvm.MethodName)) ∈ gw := gw_in2 45 rfl rfl
theorem w_286 : (Jvm.Cond.code ({ cls := "java/lang/Math", name := "max", desc := "(II)I" } : Jvm.MethodName) prog_9_method_65_code (2 : Nat) (Option.some Jvm.ClassFile.FieldType.int)) ∈ gw := gw_in2 46 rfl rfl
theorem w_287 : (Jvm.Cond.methodLink "MapLumps$Reader" (110 : Nat) ({ cls := "MapLumps$Reader", name := "passWallTextures", desc := "(I)V" } : Jvm.MethodName)) ∈ gw := gw_in2 47 rfl rfl
theorem w_289 : (Jvm.Cond.instanceMethod ({ cls := "MapLumps$Reader", name := "passWallTextures", desc := "(I)V" } : Jvm.MethodName)) ∈ gw := gw_in2 49 rfl rfl
theorem w_290 : (Jvm.Cond.code ({ cls := "MapLumps$Reader", name := "passWallTextures", desc := "(I)V" } : Jvm.MethodName) prog_2_method_10_code (3 : Nat) (Option.none : Option Jvm.ClassFile.FieldType)) ∈ gw := gw_in2 50 rfl rfl
theorem w_291 : (Jvm.Cond.methodLink "MapLumps$Reader" (60 : Nat) ({ cls := "MapLumps$Reader", name := "passStart", desc := "()V" } : Jvm.MethodName)) ∈ gw := gw_in2 51 rfl rfl
theorem w_293 : (Jvm.Cond.instanceMethod ({ cls := "MapLumps$Reader", name := "passStart", desc := "()V" } : Jvm.MethodName)) ∈ gw := gw_in2 53 rfl rfl
theorem w_294 : (Jvm.Cond.code ({ cls := "MapLumps$Reader", name := "passStart", desc := "()V" } : Jvm.MethodName) prog_2_method_11_code (1 : Nat) (Option.none : Option Jvm.ClassFile.FieldType)) ∈ gw := gw_in2 54 rfl rfl
theorem w_295 : (Jvm.Cond.methodLink "MapLumps$Reader" (63 : Nat) ({ cls := "MapLumps$Reader", name := "passEnd", desc := "()V" } : Jvm.MethodName)) ∈ gw := gw_in2 55 rfl rfl
theorem w_297 : (Jvm.Cond.instanceMethod ({ cls := "MapLumps$Reader", name := "passEnd", desc := "()V" } : Jvm.MethodName)) ∈ gw := gw_in2 57 rfl rfl
theorem w_298 : (Jvm.Cond.code ({ cls := "MapLumps$Reader", name := "passEnd", desc := "()V" } : Jvm.MethodName) prog_2_method_12_code (2 : Nat) (Option.none : Option Jvm.ClassFile.FieldType)) ∈ gw := gw_in2 58 rfl rfl
theorem w_299 : (Jvm.Cond.methodLink "MapLumps$Reader" (118 : Nat) ({ cls := "MapLumps$Row", name := "sums", desc := "(I)I" } : Jvm.MethodName)) ∈ gw := gw_in2 59 rfl rfl
theorem w_300 : (Jvm.Cond.instanceMethod ({ cls := "MapLumps$Row", name := "sums", desc := "(I)I" } : Jvm.MethodName)) ∈ gw := gw_in2 60 rfl rfl
theorem w_301 : (Jvm.Cond.selects "MapLumps$Row" ({ cls := "MapLumps$Row", name := "sums", desc := "(I)I" } : Jvm.MethodName) ({ cls := "MapLumps$Row", name := "sums", desc := "(I)I" } : Jvm.MethodName)) ∈ gw := gw_in2 61 rfl rfl
theorem w_302 : (Jvm.Cond.code ({ cls := "MapLumps$Row", name := "sums", desc := "(I)I" } : Jvm.MethodName) prog_4_method_9_code (5 : Nat) (Option.some Jvm.ClassFile.FieldType.int)) ∈ gw := gw_in2 62 rfl rfl
theorem w_303 : (Jvm.Cond.methodLink "MapLumps$Reader" (66 : Nat) ({ cls := "MapLumps$Reader", name := "seekMeeting", desc := "()V" } : Jvm.MethodName)) ∈ gw := gw_in2 63 rfl rfl
theorem w_305 : (Jvm.Cond.instanceMethod ({ cls := "MapLumps$Reader", name := "seekMeeting", desc := "()V" } : Jvm.MethodName)) ∈ gw := gw_in2 65 rfl rfl
theorem w_306 : (Jvm.Cond.code ({ cls := "MapLumps$Reader", name := "seekMeeting", desc := "()V" } : Jvm.MethodName) prog_2_method_13_code (3 : Nat) (Option.none : Option Jvm.ClassFile.FieldType)) ∈ gw := gw_in2 66 rfl rfl
theorem w_307 : (Jvm.Cond.methodLink "MapLumps$Reader" (124 : Nat) ({ cls := "MapLumps$Span", name := "meets", desc := "(LMapLumps$Span;)Z" } : Jvm.MethodName)) ∈ gw := gw_in2 67 rfl rfl
theorem w_308 : (Jvm.Cond.instanceMethod ({ cls := "MapLumps$Span", name := "meets", desc := "(LMapLumps$Span;)Z" } : Jvm.MethodName)) ∈ gw := gw_in2 68 rfl rfl
theorem w_309 : (Jvm.Cond.selects "MapLumps$Span" ({ cls := "MapLumps$Span", name := "meets", desc := "(LMapLumps$Span;)Z" } : Jvm.MethodName) ({ cls := "MapLumps$Span", name := "meets", desc := "(LMapLumps$Span;)Z" } : Jvm.MethodName)) ∈ gw := gw_in2 69 rfl rfl
theorem w_310 : (Jvm.Cond.code ({ cls := "MapLumps$Span", name := "meets", desc := "(LMapLumps$Span;)Z" } : Jvm.MethodName) prog_5_method_3_code (2 : Nat) (Option.some Jvm.ClassFile.FieldType.boolean)) ∈ gw := gw_in2 70 rfl rfl
theorem w_311 : (Jvm.Cond.methodLink "MapLumps$Span" (43 : Nat) ({ cls := "MapLumps$Span", name := "boxesApart", desc := "(LMapLumps$Span;)Z" } : Jvm.MethodName)) ∈ gw := gw_in2 71 rfl rfl
theorem w_313 : (Jvm.Cond.instanceMethod ({ cls := "MapLumps$Span", name := "boxesApart", desc := "(LMapLumps$Span;)Z" } : Jvm.MethodName)) ∈ gw := gw_in2 73 rfl rfl
theorem w_314 : (Jvm.Cond.code ({ cls := "MapLumps$Span", name := "boxesApart", desc := "(LMapLumps$Span;)Z" } : Jvm.MethodName) prog_5_method_4_code (2 : Nat) (Option.some Jvm.ClassFile.FieldType.boolean)) ∈ gw := gw_in2 74 rfl rfl
theorem w_315 : (Jvm.Cond.methodLink "MapLumps$Span" (47 : Nat) ({ cls := "MapLumps$Span", name := "sameWay", desc := "(IIIIII)Z" } : Jvm.MethodName)) ∈ gw := gw_in2 75 rfl rfl
theorem w_316 : (Jvm.Cond.static ({ cls := "MapLumps$Span", name := "sameWay", desc := "(IIIIII)Z" } : Jvm.MethodName)) ∈ gw := gw_in2 76 rfl rfl
theorem w_317 : (Jvm.Cond.code ({ cls := "MapLumps$Span", name := "sameWay", desc := "(IIIIII)Z" } : Jvm.MethodName) prog_5_method_7_code (8 : Nat) (Option.some Jvm.ClassFile.FieldType.boolean)) ∈ gw := gw_in2 77 rfl rfl
theorem w_318 : (Jvm.Cond.methodLink "MapLumps$Span" (57 : Nat) ({ cls := "MapLumps$Span", name := "turn", desc := "(IIIIII)J" } : Jvm.MethodName)) ∈ gw := gw_in2 78 rfl rfl
theorem w_319 : (Jvm.Cond.static ({ cls := "MapLumps$Span", name := "turn", desc := "(IIIIII)J" } : Jvm.MethodName)) ∈ gw := gw_in2 79 rfl rfl
theorem w_320 : (Jvm.Cond.code ({ cls := "MapLumps$Span", name := "turn", desc := "(IIIIII)J" } : Jvm.MethodName) prog_5_method_8_code (6 : Nat) (Option.some Jvm.ClassFile.FieldType.long)) ∈ gw := gw_in2 80 rfl rfl
theorem w_321 : (Jvm.Cond.methodLink "MapLumps$Span" (51 : Nat) ({ cls := "MapLumps$Span", name := "lineParts", desc := "(LMapLumps$Span;)Z" } : Jvm.MethodName)) ∈ gw := gw_in2 81 rfl rfl
theorem w_323 : (Jvm.Cond.instanceMethod ({ cls := "MapLumps$Span", name := "lineParts", desc := "(LMapLumps$Span;)Z" } : Jvm.MethodName)) ∈ gw := gw_in2 83 rfl rfl
theorem w_324 : (Jvm.Cond.code ({ cls := "MapLumps$Span", name := "lineParts", desc := "(LMapLumps$Span;)Z" } : Jvm.MethodName) prog_5_method_5_code (2 : Nat) (Option.some Jvm.ClassFile.FieldType.boolean)) ∈ gw := gw_in2 84 rfl rfl
theorem w_325 : (Jvm.Cond.methodLink "MapLumps$Span" (54 : Nat) ({ cls := "MapLumps$Span", name := "side", desc := "(II)I" } : Jvm.MethodName)) ∈ gw := gw_in2 85 rfl rfl
theorem w_327 : (Jvm.Cond.instanceMethod ({ cls := "MapLumps$Span", name := "side", desc := "(II)I" } : Jvm.MethodName)) ∈ gw := gw_in2 87 rfl rfl
theorem w_328 : (Jvm.Cond.code ({ cls := "MapLumps$Span", name := "side", desc := "(II)I" } : Jvm.MethodName) prog_5_method_6_code (3 : Nat) (Option.some Jvm.ClassFile.FieldType.int)) ∈ gw := gw_in2 88 rfl rfl
theorem w_329 : (Jvm.Cond.methodLink "MapLumps$Span" (61 : Nat) ({ cls := "java/lang/Long", name := "signum", desc := "(J)I" } : Jvm.MethodName)) ∈ gw := gw_in2 89 rfl rfl
theorem w_330 : (Jvm.Cond.static ({ cls := "java/lang/Long", name := "signum", desc := "(J)I" } : Jvm.MethodName)) ∈ gw := gw_in2 90 rfl rfl
theorem w_331 : (Jvm.Cond.code ({ cls := "java/lang/Long", name := "signum", desc := "(J)I" } : Jvm.MethodName) prog_8_method_57_code (2 : Nat) (Option.some Jvm.ClassFile.FieldType.int)) ∈ gw := gw_in2 91 rfl rfl
theorem w_332 : (Jvm.Cond.methodLink "MapLumps" (55 : Nat) ({ cls := "MapLumps$RoomMap", name := "take", desc := "(LMapLumps$Row;)V" } : Jvm.MethodName)) ∈ gw := gw_in2 92 rfl rfl
theorem w_333 : (Jvm.Cond.instanceMethod ({ cls := "MapLumps$RoomMap", name := "take", desc := "(LMapLumps$Row;)V" } : Jvm.MethodName)) ∈ gw := gw_in2 93 rfl rfl
theorem w_334 : (Jvm.Cond.selects "MapLumps$RoomMap" ({ cls := "MapLumps$RoomMap", name := "take", desc := "(LMapLumps$Row;)V" } : Jvm.MethodName) ({ cls := "MapLumps$RoomMap", name := "take", desc := "(LMapLumps$Row;)V" } : Jvm.MethodName)) ∈ gw := gw_in2 94 rfl rfl
theorem w_335 : (Jvm.Cond.code ({ cls := "MapLumps$RoomMap", name := "take", desc := "(LMapLumps$Row;)V" } : Jvm.MethodName) prog_3_method_2_code (4 : Nat) (Option.none : Option Jvm.ClassFile.FieldType)) ∈ gw := gw_in2 95 rfl rfl
theorem w_336 : (Jvm.Cond.methodLink "MapLumps$RoomMap" (22 : Nat) ({ cls := "MapLumps$Row", name := "copy", desc := "(LMapLumps$Row;)V" } : Jvm.MethodName)) ∈ gw := gw_in2 96 rfl rfl
theorem w_337 : (Jvm.Cond.instanceMethod ({ cls := "MapLumps$Row", name := "copy", desc := "(LMapLumps$Row;)V" } : Jvm.MethodName)) ∈ gw := gw_in2 97 rfl rfl
theorem w_338 : (Jvm.Cond.selects "MapLumps$Row" ({ cls := "MapLumps$Row", name := "copy", desc := "(LMapLumps$Row;)V" } : Jvm.MethodName) ({ cls := "MapLumps$Row", name := "copy", desc := "(LMapLumps$Row;)V" } : Jvm.MethodName)) ∈ gw := gw_in2 98 rfl rfl
theorem w_339 : (Jvm.Cond.code ({ cls := "MapLumps$Row", name := "copy", desc := "(LMapLumps$Row;)V" } : Jvm.MethodName) prog_4_method_7_code (2 : Nat) (Option.none : Option Jvm.ClassFile.FieldType)) ∈ gw := gw_in2 99 rfl rfl
theorem w_340 : (Jvm.Cond.methodLink "MapLumps$Row" (19 : Nat) ({ cls := "java/lang/System", name := "arraycopy", desc := "(Ljava/lang/Object;ILjava/lang/Object;II)V" } : Jvm.MethodName)) ∈ gw := gw_in2 100 rfl rfl
theorem w_341 : (Jvm.Cond.static ({ cls := "java/lang/System", name := "arraycopy", desc := "(Ljava/lang/Object;ILjava/lang/Object;II)V" } : Jvm.MethodName)) ∈ gw := gw_in2 101 rfl rfl
theorem w_342 : (Jvm.Cond.native ({ cls := "java/lang/System", name := "arraycopy", desc := "(Ljava/lang/Object;ILjava/lang/Object;II)V" } : Jvm.MethodName)) ∈ gw := gw_in2 102 rfl rfl
theorem w_343 : (Jvm.Cond.methodLink "MapLumps$RoomMap" (30 : Nat) ({ cls := "MapLumps$Row", name := "get", desc := "(I)I" } : Jvm.MethodName)) ∈ gw := gw_in2 103 rfl rfl
theorem w_344 : (Jvm.Cond.methodLink "MapLumps$RoomMap" (47 : Nat) ({ cls := "MapLumps$RoomMap", name := "width", desc := "(I)I" } : Jvm.MethodName)) ∈ gw := gw_in2 104 rfl rfl
theorem w_345 : (Jvm.Cond.instanceMethod ({ cls := "MapLumps$RoomMap", name := "width", desc := "(I)I" } : Jvm.MethodName)) ∈ gw := gw_in2 105 rfl rfl
theorem w_346 : (Jvm.Cond.selects "MapLumps$RoomMap" ({ cls := "MapLumps$RoomMap", name := "width", desc := "(I)I" } : Jvm.MethodName) ({ cls := "MapLumps$RoomMap", name := "width", desc := "(I)I" } : Jvm.MethodName)) ∈ gw := gw_in2 106 rfl rfl
theorem w_347 : (Jvm.Cond.code ({ cls := "MapLumps$RoomMap", name := "width", desc := "(I)I" } : Jvm.MethodName) prog_3_method_4_code (2 : Nat) (Option.some Jvm.ClassFile.FieldType.int)) ∈ gw := gw_in2 107 rfl rfl
theorem w_348 : (Jvm.Cond.methodLink "MapLumps$RoomMap" (62 : Nat) ({ cls := "MapLumps$RoomMap", name := "textureAt", desc := "(I)I" } : Jvm.MethodName)) ∈ gw := gw_in2 108 rfl rfl
theorem w_350 : (Jvm.Cond.instanceMethod ({ cls := "MapLumps$RoomMap", name := "textureAt", desc := "(I)I" } : Jvm.MethodName)) ∈ gw := gw_in2 110 rfl rfl
theorem w_351 : (Jvm.Cond.code ({ cls := "MapLumps$RoomMap", name := "textureAt", desc := "(I)I" } : Jvm.MethodName) prog_3_method_7_code (2 : Nat) (Option.some Jvm.ClassFile.FieldType.int)) ∈ gw := gw_in2 111 rfl rfl
theorem w_352 : (Jvm.Cond.methodLink "MapLumps$RoomMap" (50 : Nat) ({ cls := "MapLumps$RoomMap", name := "height", desc := "(I)I" } : Jvm.MethodName)) ∈ gw := gw_in2 112 rfl rfl
theorem w_353 : (Jvm.Cond.instanceMethod ({ cls := "MapLumps$RoomMap", name := "height", desc := "(I)I" } : Jvm.MethodName)) ∈ gw := gw_in2 113 rfl rfl
theorem w_354 : (Jvm.Cond.selects "MapLumps$RoomMap" ({ cls := "MapLumps$RoomMap", name := "height", desc := "(I)I" } : Jvm.MethodName) ({ cls := "MapLumps$RoomMap", name := "height", desc := "(I)I" } : Jvm.MethodName)) ∈ gw := gw_in2 114 rfl rfl
theorem w_355 : (Jvm.Cond.code ({ cls := "MapLumps$RoomMap", name := "height", desc := "(I)I" } : Jvm.MethodName) prog_3_method_5_code (2 : Nat) (Option.some Jvm.ClassFile.FieldType.int)) ∈ gw := gw_in2 115 rfl rfl
theorem w_356 : (Jvm.Cond.methodLink "MapLumpsLaw" (35 : Nat) ({ cls := "MapLumps", name := "write", desc := "()I" } : Jvm.MethodName)) ∈ gw := gw_in2 116 rfl rfl
theorem w_357 : (Jvm.Cond.instanceMethod ({ cls := "MapLumps", name := "write", desc := "()I" } : Jvm.MethodName)) ∈ gw := gw_in2 117 rfl rfl
theorem w_358 : (Jvm.Cond.selects "MapLumps" ({ cls := "MapLumps", name := "write", desc := "()I" } : Jvm.MethodName) ({ cls := "MapLumps", name := "write", desc := "()I" } : Jvm.MethodName)) ∈ gw := gw_in2 118 rfl rfl
theorem w_359 : (Jvm.Cond.code ({ cls := "MapLumps", name := "write", desc := "()I" } : Jvm.MethodName) prog_1_method_6_code (1 : Nat) (Option.some Jvm.ClassFile.FieldType.int)) ∈ gw := gw_in2 119 rfl rfl
theorem w_360 : (Jvm.Cond.methodLink "MapLumps" (66 : Nat) ({ cls := "MapLumps$Row", name := "copy", desc := "(LMapLumps$Row;)V" } : Jvm.MethodName)) ∈ gw := gw_in2 120 rfl rfl
theorem w_361 : (Jvm.Cond.methodLink "MapLumpsLaw" (39 : Nat) ({ cls := "MapLumps", name := "check", desc := "()Z" } : Jvm.MethodName)) ∈ gw := gw_in2 121 rfl rfl
theorem w_362 : (Jvm.Cond.instanceMethod ({ cls := "MapLumps", name := "check", desc := "()Z" } : Jvm.MethodName)) ∈ gw := gw_in2 122 rfl rfl
theorem w_363 : (Jvm.Cond.selects "MapLumps" ({ cls := "MapLumps", name := "check", desc := "()Z" } : Jvm.MethodName) ({ cls := "MapLumps", name := "check", desc := "()Z" } : Jvm.MethodName)) ∈ gw := gw_in2 123 rfl rfl
theorem w_364 : (Jvm.Cond.code ({ cls := "MapLumps", name := "check", desc := "()Z" } : Jvm.MethodName) prog_1_method_7_code (3 : Nat) (Option.some Jvm.ClassFile.FieldType.boolean)) ∈ gw := gw_in2 124 rfl rfl
theorem w_365 : (Jvm.Cond.methodLink "MapLumps" (73 : Nat) ({ cls := "MapLumps$Row", name := "sums", desc := "(I)I" } : Jvm.MethodName)) ∈ gw := gw_in2 125 rfl rfl
theorem w_366 : (Jvm.Cond.methodLink "MapLumpsLaw" (44 : Nat) ({ cls := "MapLumps", name := "byteAt", desc := "(IZ)I" } : Jvm.MethodName)) ∈ gw := gw_in2 126 rfl rfl
theorem w_367 : (Jvm.Cond.instanceMethod ({ cls := "MapLumps", name := "byteAt", desc := "(IZ)I" } : Jvm.MethodName)) ∈ gw := gw_in2 127 rfl rfl
theorem w_368 : (Jvm.Cond.selects "MapLumps" ({ cls := "MapLumps", name := "byteAt", desc := "(IZ)I" } : Jvm.MethodName) ({ cls := "MapLumps", name := "byteAt", desc := "(IZ)I" } : Jvm.MethodName)) ∈ gw := gw_in2 128 rfl rfl
theorem w_369 : (Jvm.Cond.code ({ cls := "MapLumps", name := "byteAt", desc := "(IZ)I" } : Jvm.MethodName) prog_1_method_8_code (3 : Nat) (Option.some Jvm.ClassFile.FieldType.int)) ∈ gw := gw_in2 129 rfl rfl
theorem w_370 : (Jvm.Cond.methodLink "MapLumps" (77 : Nat) ({ cls := "MapLumps$Row", name := "get", desc := "(I)I" } : Jvm.MethodName)) ∈ gw := gw_in2 130 rfl rfl
theorem w_371 : (Jvm.Cond.methodLink "MapLumpsLaw" (49 : Nat) ({ cls := "MapLumps", name := "vertex", desc := "(IZ)I" } : Jvm.MethodName)) ∈ gw := gw_in2 131 rfl rfl
theorem w_372 : (Jvm.Cond.instanceMethod ({ cls := "MapLumps", name := "vertex", desc := "(IZ)I" } : Jvm.MethodName)) ∈ gw := gw_in2 132 rfl rfl
theorem w_373 : (Jvm.Cond.selects "MapLumps" ({ cls := "MapLumps", name := "vertex", desc := "(IZ)I" } : Jvm.MethodName) ({ cls := "MapLumps", name := "vertex", desc := "(IZ)I" } : Jvm.MethodName)) ∈ gw := gw_in2 133 rfl rfl
theorem w_374 : (Jvm.Cond.code ({ cls := "MapLumps", name := "vertex", desc := "(IZ)I" } : Jvm.MethodName) prog_1_method_9_code (3 : Nat) (Option.some Jvm.ClassFile.FieldType.int)) ∈ gw := gw_in2 134 rfl rfl
theorem w_375 : (Jvm.Cond.constant "MapLumps" (83 : Nat) (100000 : Int32)) ∈ gw := gw_in2 135 rfl rfl
theorem w_376 : (Jvm.Cond.methodLink "MapLumps" (84 : Nat) ({ cls := "MapLumps$Row", name := "signed", desc := "(I)I" } : Jvm.MethodName)) ∈ gw := gw_in2 136 rfl rfl
theorem w_377 : (Jvm.Cond.instanceMethod ({ cls := "MapLumps$Row", name := "signed", desc := "(I)I" } : Jvm.MethodName)) ∈ gw := gw_in2 137 rfl rfl
theorem w_378 : (Jvm.Cond.selects "MapLumps$Row" ({ cls := "MapLumps$Row", name := "signed", desc := "(I)I" } : Jvm.MethodName) ({ cls := "MapLumps$Row", name := "signed", desc := "(I)I" } : Jvm.MethodName)) ∈ gw := gw_in2 138 rfl rfl
theorem w_379 : (Jvm.Cond.code ({ cls := "MapLumps$Row", name := "signed", desc := "(I)I" } : Jvm.MethodName) prog_4_method_8_code (3 : Nat) (Option.some Jvm.ClassFile.FieldType.int)) ∈ gw := gw_in2 139 rfl rfl
theorem w_380 : (Jvm.Cond.methodLink "MapLumps$Row" (25 : Nat) ({ cls := "MapLumps$Row", name := "get", desc := "(I)I" } : Jvm.MethodName)) ∈ gw := gw_in2 140 rfl rfl
theorem w_381 : (Jvm.Cond.constant "MapLumps$Row" (29 : Nat) (65536 : Int32)) ∈ gw := gw_in2 141 rfl rfl
theorem w_382 : (Jvm.Cond.methodLink "MapLumpsLaw" (53 : Nat) ({ cls := "MapLumps", name := "texture", desc := "(II)I" } : Jvm.MethodName)) ∈ gw := gw_in2 142 rfl rfl
theorem w_383 : (Jvm.Cond.instanceMethod ({ cls := "MapLumps", name := "texture", desc := "(II)I" } : Jvm.MethodName)) ∈ gw := gw_in2 143 rfl rfl
theorem w_384 : (Jvm.Cond.selects "MapLumps" ({ cls := "MapLumps", name := "texture", desc := "(II)I" } : Jvm.MethodName) ({ cls := "MapLumps", name := "texture", desc := "(II)I" } : Jvm.MethodName)) ∈ gw := gw_in2 144 rfl rfl
theorem w_385 : (Jvm.Cond.code ({ cls := "MapLumps", name := "texture", desc := "(II)I" } : Jvm.MethodName) prog_1_method_10_code (3 : Nat) (Option.some Jvm.ClassFile.FieldType.int)) ∈ gw := gw_in2 145 rfl rfl
theorem w_386 : (Jvm.Cond.methodLink "MapLumps" (90 : Nat) ({ cls := "MapLumps$RoomMap", name := "width", desc := "(I)I" } : Jvm.MethodName)) ∈ gw := gw_in2 146 rfl rfl
theorem w_387 : (Jvm.Cond.methodLink "MapLumps" (93 : Nat) ({ cls := "MapLumps$RoomMap", name := "height", desc := "(I)I" } : Jvm.MethodName)) ∈ gw := gw_in2 147 rfl rfl
theorem w_388 : (Jvm.Cond.methodLink "MapLumps" (96 : Nat) ({ cls := "MapLumps$RoomMap", name := "texel", desc := "(III)I" } : Jvm.MethodName)) ∈ gw := gw_in2 148 rfl rfl
theorem w_389 : (Jvm.Cond.instanceMethod ({ cls := "MapLumps$RoomMap", name := "texel", desc := "(III)I" } : Jvm.MethodName)) ∈ gw := gw_in2 149 rfl rfl
theorem w_390 : (Jvm.Cond.selects "MapLumps$RoomMap" ({ cls := "MapLumps$RoomMap", name := "texel", desc := "(III)I" } : Jvm.MethodName) ({ cls := "MapLumps$RoomMap", name := "texel", desc := "(III)I" } : Jvm.MethodName)) ∈ gw := gw_in2 150 rfl rfl
theorem w_391 : (Jvm.Cond.code ({ cls := "MapLumps$RoomMap", name := "texel", desc := "(III)I" } : Jvm.MethodName) prog_3_method_6_code (5 : Nat) (Option.some Jvm.ClassFile.FieldType.int)) ∈ gw := gw_in2 151 rfl rfl
theorem w_392 : (Jvm.Cond.methodLink "MapLumpsLaw" (58 : Nat) ({ cls := "MapLumps", name := "sector", desc := "(II)I" } : Jvm.MethodName)) ∈ gw := gw_in2 152 rfl rfl
theorem w_393 : (Jvm.Cond.instanceMethod ({ cls := "MapLumps", name := "sector", desc := "(II)I" } : Jvm.MethodName)) ∈ gw := gw_in2 153 rfl rfl
theorem w_394 : (Jvm.Cond.selects "MapLumps" ({ cls := "MapLumps", name := "sector", desc := "(II)I" } : Jvm.MethodName) ({ cls := "MapLumps", name := "sector", desc := "(II)I" } : Jvm.MethodName)) ∈ gw := gw_in2 154 rfl rfl
theorem w_395 : (Jvm.Cond.code ({ cls := "MapLumps", name := "sector", desc := "(II)I" } : Jvm.MethodName) prog_1_method_11_code (4 : Nat) (Option.some Jvm.ClassFile.FieldType.int)) ∈ gw := gw_in2 155 rfl rfl
theorem w_396 : (Jvm.Cond.methodLink "MapLumpsLaw" (62 : Nat) ({ cls := "MapLumps", name := "wall", desc := "(II)I" } : Jvm.MethodName)) ∈ gw := gw_in2 156 rfl rfl
theorem w_397 : (Jvm.Cond.instanceMethod ({ cls := "MapLumps", name := "wall", desc := "(II)I" } : Jvm.MethodName)) ∈ gw := gw_in2 157 rfl rfl
theorem w_398 : (Jvm.Cond.selects "MapLumps" ({ cls := "MapLumps", name := "wall", desc := "(II)I" } : Jvm.MethodName) ({ cls := "MapLumps", name := "wall", desc := "(II)I" } : Jvm.MethodName)) ∈ gw := gw_in2 158 rfl rfl
theorem w_399 : (Jvm.Cond.code ({ cls := "MapLumps", name := "wall", desc := "(II)I" } : Jvm.MethodName) prog_1_method_12_code (4 : Nat) (Option.some Jvm.ClassFile.FieldType.int)) ∈ gw := gw_in2 159 rfl rfl
theorem w_400 : (Jvm.Cond.methodLink "MapLumpsLaw" (66 : Nat) ({ cls := "MapLumps", name := "start", desc := "(I)I" } : Jvm.MethodName)) ∈ gw := gw_in2 160 rfl rfl
theorem w_401 : (Jvm.Cond.instanceMethod ({ cls := "MapLumps", name := "start", desc := "(I)I" } : Jvm.MethodName)) ∈ gw := gw_in2 161 rfl rfl
theorem w_402 : (Jvm.Cond.selects "MapLumps" ({ cls := "MapLumps", name := "start", desc := "(I)I" } : Jvm.MethodName) ({ cls := "MapLumps", name := "start", desc := "(I)I" } : Jvm.MethodName)) ∈ gw := gw_in2 162 rfl rfl
theorem w_403 : (Jvm.Cond.code ({ cls := "MapLumps", name := "start", desc := "(I)I" } : Jvm.MethodName) prog_1_method_13_code (2 : Nat) (Option.some Jvm.ClassFile.FieldType.int)) ∈ gw := gw_in2 163 rfl rfl
theorem w_404 : (Jvm.Cond.methodLink "MapLumpsLaw" (71 : Nat) ({ cls := "MapLumps", name := "look", desc := "(I)I" } : Jvm.MethodName)) ∈ gw := gw_in2 164 rfl rfl
theorem w_405 : (Jvm.Cond.instanceMethod ({ cls := "MapLumps", name := "look", desc := "(I)I" } : Jvm.MethodName)) ∈ gw := gw_in2 165 rfl rfl
theorem w_406 : (Jvm.Cond.selects "MapLumps" ({ cls := "MapLumps", name := "look", desc := "(I)I" } : Jvm.MethodName) ({ cls := "MapLumps", name := "look", desc := "(I)I" } : Jvm.MethodName)) ∈ gw := gw_in2 166 rfl rfl
theorem w_407 : (Jvm.Cond.code ({ cls := "MapLumps", name := "look", desc := "(I)I" } : Jvm.MethodName) prog_1_method_14_code (2 : Nat) (Option.some Jvm.ClassFile.FieldType.int)) ∈ gw := gw_in2 167 rfl rfl
theorem w_408 : (Jvm.Cond.methodLink "MapLumps" (115 : Nat) ({ cls := "MapLumps$RoomMap", name := "counted", desc := "(I)I" } : Jvm.MethodName)) ∈ gw := gw_in2 168 rfl rfl
theorem w_409 : (Jvm.Cond.instanceMethod ({ cls := "MapLumps$RoomMap", name := "counted", desc := "(I)I" } : Jvm.MethodName)) ∈ gw := gw_in2 169 rfl rfl
theorem w_410 : (Jvm.Cond.selects "MapLumps$RoomMap" ({ cls := "MapLumps$RoomMap", name := "counted", desc := "(I)I" } : Jvm.MethodName) ({ cls := "MapLumps$RoomMap", name := "counted", desc := "(I)I" } : Jvm.MethodName)) ∈ gw := gw_in2 170 rfl rfl
theorem w_411 : (Jvm.Cond.code ({ cls := "MapLumps$RoomMap", name := "counted", desc := "(I)I" } : Jvm.MethodName) prog_3_method_3_code (2 : Nat) (Option.some Jvm.ClassFile.FieldType.int)) ∈ gw := gw_in2 171 rfl rfl
theorem w_412 : (Jvm.Cond.classLink "MapLumpsLaw" (10 : Nat) "MapLumpsModel") ∈ gw := gw_in2 172 rfl rfl
theorem w_413 : (Jvm.Cond.instantiable "MapLumpsModel" (13 : Nat)) ∈ gw := gw_in2 173 rfl rfl
theorem w_414 : (Jvm.Cond.methodLink "MapLumpsLaw" (12 : Nat) ({ cls := "MapLumpsModel", name := "<init>", desc := "()V" } : Jvm.MethodName)) ∈ gw := gw_in2 174 rfl rfl
theorem w_415 : (Jvm.Cond.instanceMethod ({ cls := "MapLumpsModel", name := "<init>", desc := "()V" } : Jvm.MethodName)) ∈ gw := gw_in2 175 rfl rfl
theorem w_416 : (Jvm.Cond.code ({ cls := "MapLumpsModel", name := "<init>", desc := "()V" } : Jvm.MethodName) prog_7_method_1_code (1 : Nat) (Option.none : Option Jvm.ClassFile.FieldType)) ∈ gw := gw_in2 176 rfl rfl
theorem w_417 : (Jvm.Cond.methodLink "MapLumpsModel" (1 : Nat) ({ cls := "java/lang/Object", name := "<init>", desc := "()V" } : Jvm.MethodName)) ∈ gw := gw_in2 177 rfl rfl
theorem w_418 : (Jvm.Cond.fieldLink "MapLumpsModel" (26 : Nat) "MapLumpsModel" "thrown" "I") ∈ gw := gw_in2 178 rfl rfl
theorem w_419 : (Jvm.Cond.fieldLink "MapLumpsModel" (7 : Nat) "MapLumpsModel" "input" "[B") ∈ gw := gw_in2 179 rfl rfl
theorem w_420 : (Jvm.Cond.fieldLink "MapLumpsModel" (29 : Nat) "MapLumpsModel" "size" "I") ∈ gw := gw_in2 180 rfl rfl
theorem w_421 : (Jvm.Cond.fieldLink "MapLumpsModel" (13 : Nat) "MapLumpsModel" "map" "[B") ∈ gw := gw_in2 181 rfl rfl
theorem w_422 : (Jvm.Cond.fieldLink "MapLumpsModel" (104 : Nat) "MapLumpsModel" "mapSize" "I") ∈ gw := gw_in2 182 rfl rfl
theorem w_423 : (Jvm.Cond.fieldLink "MapLumpsModel" (16 : Nat) "MapLumpsModel" "output" "[B") ∈ gw := gw_in2 183 rfl rfl
theorem w_424 : (Jvm.Cond.fieldLink "MapLumpsModel" (107 : Nat) "MapLumpsModel" "written" "I") ∈ gw := gw_in2 184 rfl rfl
theorem w_425 : (Jvm.Cond.fieldLink "MapLumpsModel" (42 : Nat) "MapLumpsModel" "fault" "I") ∈ gw := gw_in2 185 rfl rfl
theorem w_426 : (Jvm.Cond.fieldLink "MapLumpsModel" (19 : Nat) "MapLumpsModel" "place" "I") ∈ gw := gw_in2 186 rfl rfl
theorem w_427 : (Jvm.Cond.fieldLink "MapLumpsModel" (23 : Nat) "MapLumpsModel" "clash" "I") ∈ gw := gw_in2 187 rfl rfl
theorem w_428 : (Jvm.Cond.fieldLink "MapLumpsModel" (45 : Nat) "MapLumpsModel" "p" "I") ∈ gw := gw_in2 188 rfl rfl
theorem w_429 : (Jvm.Cond.fieldLink "MapLumpsModel" (32 : Nat) "MapLumpsModel" "one" "I") ∈ gw := gw_in2 189 rfl rfl
theorem w_430 : (Jvm.Cond.fieldLink "MapLumpsModel" (35 : Nat) "MapLumpsModel" "two" "I") ∈ gw := gw_in2 190 rfl rfl
theorem w_431 : (Jvm.Cond.lays "MapLumpsModel" "MapLumpsModel" "thrown" "I") ∈ gw := gw_in2 191 rfl rfl
theorem w_433 : (Jvm.Cond.laysFinal "MapLumpsModel" "MapLumpsModel" "input" "[B") ∈ gw := gw_in2 193 rfl rfl
theorem w_435 : (Jvm.Cond.lays "MapLumpsModel" "MapLumpsModel" "size" "I") ∈ gw := gw_in2 195 rfl rfl
theorem w_437 : (Jvm.Cond.laysFinal "MapLumpsModel" "MapLumpsModel" "map" "[B") ∈ gw := gw_in2 197 rfl rfl
theorem w_439 : (Jvm.Cond.lays "MapLumpsModel" "MapLumpsModel" "mapSize" "I") ∈ gw := gw_in2 199 rfl rfl
theorem w_441 : (Jvm.Cond.laysFinal "MapLumpsModel" "MapLumpsModel" "output" "[B") ∈ gw := gw_in2 201 rfl rfl
theorem w_443 : (Jvm.Cond.lays "MapLumpsModel" "MapLumpsModel" "written" "I") ∈ gw := gw_in2 203 rfl rfl
theorem w_445 : (Jvm.Cond.lays "MapLumpsModel" "MapLumpsModel" "fault" "I") ∈ gw := gw_in2 205 rfl rfl
theorem w_447 : (Jvm.Cond.lays "MapLumpsModel" "MapLumpsModel" "place" "I") ∈ gw := gw_in2 207 rfl rfl
theorem w_449 : (Jvm.Cond.lays "MapLumpsModel" "MapLumpsModel" "clash" "I") ∈ gw := gw_in2 209 rfl rfl
theorem w_451 : (Jvm.Cond.lays "MapLumpsModel" "MapLumpsModel" "p" "I") ∈ gw := gw_in2 211 rfl rfl
theorem w_453 : (Jvm.Cond.lays "MapLumpsModel" "MapLumpsModel" "one" "I") ∈ gw := gw_in2 213 rfl rfl
theorem w_455 : (Jvm.Cond.lays "MapLumpsModel" "MapLumpsModel" "two" "I") ∈ gw := gw_in2 215 rfl rfl
theorem w_458 : (Jvm.Cond.methodLink "MapLumpsLaw" (19 : Nat) ({ cls := "MapLumpsModel", name := "give", desc := "(JI)Z" } : Jvm.MethodName)) ∈ gw := gw_in2 218 rfl rfl
theorem w_459 : (Jvm.Cond.instanceMethod ({ cls := "MapLumpsModel", name := "give", desc := "(JI)Z" } : Jvm.MethodName)) ∈ gw := gw_in2 219 rfl rfl
theorem w_460 : (Jvm.Cond.selects "MapLumpsModel" ({ cls := "MapLumpsModel", name := "give", desc := "(JI)Z" } : Jvm.MethodName) ({ cls := "MapLumpsModel", name := "give", desc := "(JI)Z" } : Jvm.MethodName)) ∈ gw := gw_in2 220 rfl rfl
theorem w_461 : (Jvm.Cond.code ({ cls := "MapLumpsModel", name := "give", desc := "(JI)Z" } : Jvm.MethodName) prog_7_method_3_code (5 : Nat) (Option.some Jvm.ClassFile.FieldType.boolean)) ∈ gw := gw_in2 221 rfl rfl
theorem w_462 : (Jvm.Cond.methodLink "MapLumpsLaw" (24 : Nat) ({ cls := "MapLumpsModel", name := "cut", desc := "(I)Z" } : Jvm.MethodName)) ∈ gw := gw_in2 222 rfl rfl
theorem w_463 : (Jvm.Cond.instanceMethod ({ cls := "MapLumpsModel", name := "cut", desc := "(I)Z" } : Jvm.MethodName)) ∈ gw := gw_in2 223 rfl rfl
theorem w_464 : (Jvm.Cond.selects "MapLumpsModel" ({ cls := "MapLumpsModel", name := "cut", desc := "(I)Z" } : Jvm.MethodName) ({ cls := "MapLumpsModel", name := "cut", desc := "(I)Z" } : Jvm.MethodName)) ∈ gw := gw_in2 224 rfl rfl
theorem w_465 : (Jvm.Cond.code ({ cls := "MapLumpsModel", name := "cut", desc := "(I)Z" } : Jvm.MethodName) prog_7_method_4_code (2 : Nat) (Option.some Jvm.ClassFile.FieldType.boolean)) ∈ gw := gw_in2 225 rfl rfl
theorem w_466 : (Jvm.Cond.methodLink "MapLumpsLaw" (29 : Nat) ({ cls := "MapLumpsModel", name := "poke", desc := "(II)Z" } : Jvm.MethodName)) ∈ gw := gw_in2 226 rfl rfl
theorem w_467 : (Jvm.Cond.instanceMethod ({ cls := "MapLumpsModel", name := "poke", desc := "(II)Z" } : Jvm.MethodName)) ∈ gw := gw_in2 227 rfl rfl
theorem w_468 : (Jvm.Cond.selects "MapLumpsModel" ({ cls := "MapLumpsModel", name := "poke", desc := "(II)Z" } : Jvm.MethodName) ({ cls := "MapLumpsModel", name := "poke", desc := "(II)Z" } : Jvm.MethodName)) ∈ gw := gw_in2 228 rfl rfl
theorem w_469 : (Jvm.Cond.code ({ cls := "MapLumpsModel", name := "poke", desc := "(II)Z" } : Jvm.MethodName) prog_7_method_5_code (3 : Nat) (Option.some Jvm.ClassFile.FieldType.boolean)) ∈ gw := gw_in2 229 rfl rfl
theorem w_470 : (Jvm.Cond.methodLink "MapLumpsLaw" (43 : Nat) ({ cls := "MapLumpsModel", name := "check", desc := "()Z" } : Jvm.MethodName)) ∈ gw := gw_in2 230 rfl rfl
theorem w_471 : (Jvm.Cond.instanceMethod ({ cls := "MapLumpsModel", name := "check", desc := "()Z" } : Jvm.MethodName)) ∈ gw := gw_in2 231 rfl rfl
theorem w_472 : (Jvm.Cond.selects "MapLumpsModel" ({ cls := "MapLumpsModel", name := "check", desc := "()Z" } : Jvm.MethodName) ({ cls := "MapLumpsModel", name := "check", desc := "()Z" } : Jvm.MethodName)) ∈ gw := gw_in2 232 rfl rfl
theorem w_473 : (Jvm.Cond.code ({ cls := "MapLumpsModel", name := "check", desc := "()Z" } : Jvm.MethodName) prog_7_method_6_code (2 : Nat) (Option.some Jvm.ClassFile.FieldType.boolean)) ∈ gw := gw_in2 233 rfl rfl
theorem w_474 : (Jvm.Cond.methodLink "MapLumpsModel" (38 : Nat) ({ cls := "MapLumpsModel", name := "add", desc := "(I)V" } : Jvm.MethodName)) ∈ gw := gw_in2 234 rfl rfl
theorem w_476 : (Jvm.Cond.instanceMethod ({ cls := "MapLumpsModel", name := "add", desc := "(I)V" } : Jvm.MethodName)) ∈ gw := gw_in2 236 rfl rfl
theorem w_477 : (Jvm.Cond.code ({ cls := "MapLumpsModel", name := "add", desc := "(I)V" } : Jvm.MethodName) prog_7_method_8_code (2 : Nat) (Option.none : Option Jvm.ClassFile.FieldType)) ∈ gw := gw_in2 237 rfl rfl
theorem w_478 : (Jvm.Cond.methodLink "MapLumpsLaw" (34 : Nat) ({ cls := "MapLumpsModel", name := "read", desc := "()I" } : Jvm.MethodName)) ∈ gw := gw_in2 238 rfl rfl
theorem w_479 : (Jvm.Cond.instanceMethod ({ cls := "MapLumpsModel", name := "read", desc := "()I" } : Jvm.MethodName)) ∈ gw := gw_in2 239 rfl rfl
theorem w_480 : (Jvm.Cond.selects "MapLumpsModel" ({ cls := "MapLumpsModel", name := "read", desc := "()I" } : Jvm.MethodName) ({ cls := "MapLumpsModel", name := "read", desc := "()I" } : Jvm.MethodName)) ∈ gw := gw_in3 0 rfl rfl
theorem w_481 : (Jvm.Cond.code ({ cls := "MapLumpsModel", name := "read", desc := "()I" } : Jvm.MethodName) prog_7_method_24_code (2 : Nat) (Option.some Jvm.ClassFile.FieldType.int)) ∈ gw := gw_in3 1 rfl rfl
theorem w_482 : (Jvm.Cond.methodLink "MapLumpsModel" (101 : Nat) ({ cls := "MapLumpsModel", name := "readAll", desc := "()V" } : Jvm.MethodName)) ∈ gw := gw_in3 2 rfl rfl
theorem w_484 : (Jvm.Cond.instanceMethod ({ cls := "MapLumpsModel", name := "readAll", desc := "()V" } : Jvm.MethodName)) ∈ gw := gw_in3 4 rfl rfl
theorem w_485 : (Jvm.Cond.code ({ cls := "MapLumpsModel", name := "readAll", desc := "()V" } : Jvm.MethodName) prog_7_method_17_code (14 : Nat) (Option.none : Option Jvm.ClassFile.FieldType)) ∈ gw := gw_in3 5 rfl rfl
theorem w_486 : (Jvm.Cond.methodLink "MapLumpsModel" (52 : Nat) ({ cls := "MapLumpsModel", name := "next", desc := "(II)I" } : Jvm.MethodName)) ∈ gw := gw_in3 6 rfl rfl
theorem w_488 : (Jvm.Cond.instanceMethod ({ cls := "MapLumpsModel", name := "next", desc := "(II)I" } : Jvm.MethodName)) ∈ gw := gw_in3 8 rfl rfl
theorem w_489 : (Jvm.Cond.code ({ cls := "MapLumpsModel", name := "next", desc := "(II)I" } : Jvm.MethodName) prog_7_method_9_code (4 : Nat) (Option.some Jvm.ClassFile.FieldType.int)) ∈ gw := gw_in3 9 rfl rfl
theorem w_490 : (Jvm.Cond.methodLink "MapLumpsModel" (48 : Nat) ({ cls := "MapLumpsModel", name := "wrong", desc := "(II)V" } : Jvm.MethodName)) ∈ gw := gw_in3 10 rfl rfl
theorem w_492 : (Jvm.Cond.instanceMethod ({ cls := "MapLumpsModel", name := "wrong", desc := "(II)V" } : Jvm.MethodName)) ∈ gw := gw_in3 12 rfl rfl
theorem w_493 : (Jvm.Cond.code ({ cls := "MapLumpsModel", name := "wrong", desc := "(II)V" } : Jvm.MethodName) prog_7_method_7_code (3 : Nat) (Option.none : Option Jvm.ClassFile.FieldType)) ∈ gw := gw_in3 13 rfl rfl
theorem w_494 : (Jvm.Cond.methodLink "MapLumpsModel" (68 : Nat) ({ cls := "MapLumpsModel", name := "readVertex", desc := "(I)V" } : Jvm.MethodName)) ∈ gw := gw_in3 14 rfl rfl
theorem w_496 : (Jvm.Cond.instanceMethod ({ cls := "MapLumpsModel", name := "readVertex", desc := "(I)V" } : Jvm.MethodName)) ∈ gw := gw_in3 16 rfl rfl
theorem w_497 : (Jvm.Cond.code ({ cls := "MapLumpsModel", name := "readVertex", desc := "(I)V" } : Jvm.MethodName) prog_7_method_13_code (6 : Nat) (Option.none : Option Jvm.ClassFile.FieldType)) ∈ gw := gw_in3 17 rfl rfl
theorem w_498 : (Jvm.Cond.methodLink "MapLumpsModel" (57 : Nat) ({ cls := "MapLumpsModel", name := "nextTwo", desc := "(II)I" } : Jvm.MethodName)) ∈ gw := gw_in3 18 rfl rfl
theorem w_500 : (Jvm.Cond.instanceMethod ({ cls := "MapLumpsModel", name := "nextTwo", desc := "(II)I" } : Jvm.MethodName)) ∈ gw := gw_in3 20 rfl rfl
theorem w_501 : (Jvm.Cond.code ({ cls := "MapLumpsModel", name := "nextTwo", desc := "(II)I" } : Jvm.MethodName) prog_7_method_11_code (5 : Nat) (Option.some Jvm.ClassFile.FieldType.int)) ∈ gw := gw_in3 21 rfl rfl
theorem w_502 : (Jvm.Cond.constant "MapLumpsModel" (56 : Nat) (65536 : Int32)) ∈ gw := gw_in3 22 rfl rfl
theorem w_503 : (Jvm.Cond.methodLink "MapLumpsModel" (60 : Nat) ({ cls := "MapLumpsModel", name := "pair", desc := "([BI)I" } : Jvm.MethodName)) ∈ gw := gw_in3 23 rfl rfl
theorem w_504 : (Jvm.Cond.static ({ cls := "MapLumpsModel", name := "pair", desc := "([BI)I" } : Jvm.MethodName)) ∈ gw := gw_in3 24 rfl rfl
theorem w_505 : (Jvm.Cond.code ({ cls := "MapLumpsModel", name := "pair", desc := "([BI)I" } : Jvm.MethodName) prog_7_method_12_code (3 : Nat) (Option.some Jvm.ClassFile.FieldType.int)) ∈ gw := gw_in3 25 rfl rfl
theorem w_506 : (Jvm.Cond.methodLink "MapLumpsModel" (71 : Nat) ({ cls := "MapLumpsModel", name := "readTexture", desc := "()V" } : Jvm.MethodName)) ∈ gw := gw_in3 26 rfl rfl
theorem w_508 : (Jvm.Cond.instanceMethod ({ cls := "MapLumpsModel", name := "readTexture", desc := "()V" } : Jvm.MethodName)) ∈ gw := gw_in3 28 rfl rfl
theorem w_509 : (Jvm.Cond.code ({ cls := "MapLumpsModel", name := "readTexture", desc := "()V" } : Jvm.MethodName) prog_7_method_14_code (5 : Nat) (Option.none : Option Jvm.ClassFile.FieldType)) ∈ gw := gw_in3 29 rfl rfl
theorem w_510 : (Jvm.Cond.methodLink "MapLumpsModel" (74 : Nat) ({ cls := "MapLumpsModel", name := "readSector", desc := "(I)V" } : Jvm.MethodName)) ∈ gw := gw_in3 30 rfl rfl
theorem w_512 : (Jvm.Cond.instanceMethod ({ cls := "MapLumpsModel", name := "readSector", desc := "(I)V" } : Jvm.MethodName)) ∈ gw := gw_in3 32 rfl rfl
theorem w_513 : (Jvm.Cond.code ({ cls := "MapLumpsModel", name := "readSector", desc := "(I)V" } : Jvm.MethodName) prog_7_method_15_code (10 : Nat) (Option.none : Option Jvm.ClassFile.FieldType)) ∈ gw := gw_in3 33 rfl rfl
theorem w_514 : (Jvm.Cond.methodLink "MapLumpsModel" (64 : Nat) ({ cls := "MapLumpsModel", name := "nextOr", desc := "(I)I" } : Jvm.MethodName)) ∈ gw := gw_in3 34 rfl rfl
theorem w_516 : (Jvm.Cond.instanceMethod ({ cls := "MapLumpsModel", name := "nextOr", desc := "(I)I" } : Jvm.MethodName)) ∈ gw := gw_in3 36 rfl rfl
theorem w_517 : (Jvm.Cond.code ({ cls := "MapLumpsModel", name := "nextOr", desc := "(I)I" } : Jvm.MethodName) prog_7_method_10_code (3 : Nat) (Option.some Jvm.ClassFile.FieldType.int)) ∈ gw := gw_in3 37 rfl rfl
theorem w_518 : (Jvm.Cond.methodLink "MapLumpsModel" (77 : Nat) ({ cls := "MapLumpsModel", name := "readWall", desc := "(III)V" } : Jvm.MethodName)) ∈ gw := gw_in3 38 rfl rfl
theorem w_520 : (Jvm.Cond.instanceMethod ({ cls := "MapLumpsModel", name := "readWall", desc := "(III)V" } : Jvm.MethodName)) ∈ gw := gw_in3 40 rfl rfl
theorem w_521 : (Jvm.Cond.code ({ cls := "MapLumpsModel", name := "readWall", desc := "(III)V" } : Jvm.MethodName) prog_7_method_16_code (12 : Nat) (Option.none : Option Jvm.ClassFile.FieldType)) ∈ gw := gw_in3 41 rfl rfl
theorem w_522 : (Jvm.Cond.methodLink "MapLumpsModel" (81 : Nat) ({ cls := "MapLumpsModel", name := "readCheck", desc := "(I)V" } : Jvm.MethodName)) ∈ gw := gw_in3 42 rfl rfl
theorem w_524 : (Jvm.Cond.instanceMethod ({ cls := "MapLumpsModel", name := "readCheck", desc := "(I)V" } : Jvm.MethodName)) ∈ gw := gw_in3 44 rfl rfl
theorem w_525 : (Jvm.Cond.code ({ cls := "MapLumpsModel", name := "readCheck", desc := "(I)V" } : Jvm.MethodName) prog_7_method_18_code (4 : Nat) (Option.none : Option Jvm.ClassFile.FieldType)) ∈ gw := gw_in3 45 rfl rfl
theorem w_526 : (Jvm.Cond.methodLink "MapLumpsModel" (84 : Nat) ({ cls := "MapLumpsModel", name := "touch", desc := "(II)Z" } : Jvm.MethodName)) ∈ gw := gw_in3 46 rfl rfl
theorem w_528 : (Jvm.Cond.instanceMethod ({ cls := "MapLumpsModel", name := "touch", desc := "(II)Z" } : Jvm.MethodName)) ∈ gw := gw_in3 48 rfl rfl
theorem w_529 : (Jvm.Cond.code ({ cls := "MapLumpsModel", name := "touch", desc := "(II)Z" } : Jvm.MethodName) prog_7_method_23_code (9 : Nat) (Option.some Jvm.ClassFile.FieldType.boolean)) ∈ gw := gw_in3 49 rfl rfl
theorem w_530 : (Jvm.Cond.methodLink "MapLumpsModel" (88 : Nat) ({ cls := "MapLumpsModel", name := "vertexOf", desc := "(II)I" } : Jvm.MethodName)) ∈ gw := gw_in3 50 rfl rfl
theorem w_532 : (Jvm.Cond.instanceMethod ({ cls := "MapLumpsModel", name := "vertexOf", desc := "(II)I" } : Jvm.MethodName)) ∈ gw := gw_in3 52 rfl rfl
theorem w_533 : (Jvm.Cond.code ({ cls := "MapLumpsModel", name := "vertexOf", desc := "(II)I" } : Jvm.MethodName) prog_7_method_19_code (3 : Nat) (Option.some Jvm.ClassFile.FieldType.int)) ∈ gw := gw_in3 53 rfl rfl
theorem w_534 : (Jvm.Cond.methodLink "MapLumpsModel" (95 : Nat) ({ cls := "MapLumpsModel", name := "side", desc := "(II)I" } : Jvm.MethodName)) ∈ gw := gw_in3 54 rfl rfl
theorem w_536 : (Jvm.Cond.instanceMethod ({ cls := "MapLumpsModel", name := "side", desc := "(II)I" } : Jvm.MethodName)) ∈ gw := gw_in3 56 rfl rfl
theorem w_537 : (Jvm.Cond.code ({ cls := "MapLumpsModel", name := "side", desc := "(II)I" } : Jvm.MethodName) prog_7_method_21_code (13 : Nat) (Option.some Jvm.ClassFile.FieldType.int)) ∈ gw := gw_in3 57 rfl rfl
theorem w_538 : (Jvm.Cond.methodLink "MapLumpsModel" (91 : Nat) ({ cls := "MapLumpsModel", name := "cross", desc := "(JJJJ)J" } : Jvm.MethodName)) ∈ gw := gw_in3 58 rfl rfl
theorem w_539 : (Jvm.Cond.static ({ cls := "MapLumpsModel", name := "cross", desc := "(JJJJ)J" } : Jvm.MethodName)) ∈ gw := gw_in3 59 rfl rfl
theorem w_540 : (Jvm.Cond.code ({ cls := "MapLumpsModel", name := "cross", desc := "(JJJJ)J" } : Jvm.MethodName) prog_7_method_20_code (8 : Nat) (Option.some Jvm.ClassFile.FieldType.long)) ∈ gw := gw_in3 60 rfl rfl
theorem w_541 : (Jvm.Cond.methodLink "MapLumpsModel" (98 : Nat) ({ cls := "MapLumpsModel", name := "lies", desc := "(II)Z" } : Jvm.MethodName)) ∈ gw := gw_in3 61 rfl rfl
theorem w_543 : (Jvm.Cond.instanceMethod ({ cls := "MapLumpsModel", name := "lies", desc := "(II)Z" } : Jvm.MethodName)) ∈ gw := gw_in3 63 rfl rfl
theorem w_544 : (Jvm.Cond.code ({ cls := "MapLumpsModel", name := "lies", desc := "(II)Z" } : Jvm.MethodName) prog_7_method_22_code (11 : Nat) (Option.some Jvm.ClassFile.FieldType.boolean)) ∈ gw := gw_in3 64 rfl rfl
theorem w_545 : (Jvm.Cond.methodLink "MapLumpsLaw" (38 : Nat) ({ cls := "MapLumpsModel", name := "write", desc := "()I" } : Jvm.MethodName)) ∈ gw := gw_in3 65 rfl rfl
theorem w_546 : (Jvm.Cond.instanceMethod ({ cls := "MapLumpsModel", name := "write", desc := "()I" } : Jvm.MethodName)) ∈ gw := gw_in3 66 rfl rfl
theorem w_547 : (Jvm.Cond.selects "MapLumpsModel" ({ cls := "MapLumpsModel", name := "write", desc := "()I" } : Jvm.MethodName) ({ cls := "MapLumpsModel", name := "write", desc := "()I" } : Jvm.MethodName)) ∈ gw := gw_in3 67 rfl rfl
theorem w_548 : (Jvm.Cond.code ({ cls := "MapLumpsModel", name := "write", desc := "()I" } : Jvm.MethodName) prog_7_method_25_code (2 : Nat) (Option.some Jvm.ClassFile.FieldType.int)) ∈ gw := gw_in3 68 rfl rfl
theorem w_549 : (Jvm.Cond.methodLink "MapLumpsLaw" (48 : Nat) ({ cls := "MapLumpsModel", name := "byteAt", desc := "(IZ)I" } : Jvm.MethodName)) ∈ gw := gw_in3 69 rfl rfl
theorem w_550 : (Jvm.Cond.instanceMethod ({ cls := "MapLumpsModel", name := "byteAt", desc := "(IZ)I" } : Jvm.MethodName)) ∈ gw := gw_in3 70 rfl rfl
theorem w_551 : (Jvm.Cond.selects "MapLumpsModel" ({ cls := "MapLumpsModel", name := "byteAt", desc := "(IZ)I" } : Jvm.MethodName) ({ cls := "MapLumpsModel", name := "byteAt", desc := "(IZ)I" } : Jvm.MethodName)) ∈ gw := gw_in3 71 rfl rfl
theorem w_552 : (Jvm.Cond.code ({ cls := "MapLumpsModel", name := "byteAt", desc := "(IZ)I" } : Jvm.MethodName) prog_7_method_26_code (3 : Nat) (Option.some Jvm.ClassFile.FieldType.int)) ∈ gw := gw_in3 72 rfl rfl
theorem w_553 : (Jvm.Cond.methodLink "MapLumpsLaw" (52 : Nat) ({ cls := "MapLumpsModel", name := "vertex", desc := "(IZ)I" } : Jvm.MethodName)) ∈ gw := gw_in3 73 rfl rfl
theorem w_554 : (Jvm.Cond.instanceMethod ({ cls := "MapLumpsModel", name := "vertex", desc := "(IZ)I" } : Jvm.MethodName)) ∈ gw := gw_in3 74 rfl rfl
theorem w_555 : (Jvm.Cond.selects "MapLumpsModel" ({ cls := "MapLumpsModel", name := "vertex", desc := "(IZ)I" } : Jvm.MethodName) ({ cls := "MapLumpsModel", name := "vertex", desc := "(IZ)I" } : Jvm.MethodName)) ∈ gw := gw_in3 75 rfl rfl
theorem w_556 : (Jvm.Cond.code ({ cls := "MapLumpsModel", name := "vertex", desc := "(IZ)I" } : Jvm.MethodName) prog_7_method_32_code (3 : Nat) (Option.some Jvm.ClassFile.FieldType.int)) ∈ gw := gw_in3 76 rfl rfl
theorem w_557 : (Jvm.Cond.methodLink "MapLumpsModel" (119 : Nat) ({ cls := "MapLumpsModel", name := "has", desc := "(II)Z" } : Jvm.MethodName)) ∈ gw := gw_in3 77 rfl rfl
theorem w_559 : (Jvm.Cond.instanceMethod ({ cls := "MapLumpsModel", name := "has", desc := "(II)Z" } : Jvm.MethodName)) ∈ gw := gw_in3 79 rfl rfl
theorem w_560 : (Jvm.Cond.code ({ cls := "MapLumpsModel", name := "has", desc := "(II)Z" } : Jvm.MethodName) prog_7_method_31_code (3 : Nat) (Option.some Jvm.ClassFile.FieldType.boolean)) ∈ gw := gw_in3 80 rfl rfl
theorem w_561 : (Jvm.Cond.methodLink "MapLumpsModel" (110 : Nat) ({ cls := "MapLumpsModel", name := "many", desc := "(I)I" } : Jvm.MethodName)) ∈ gw := gw_in3 81 rfl rfl
theorem w_563 : (Jvm.Cond.instanceMethod ({ cls := "MapLumpsModel", name := "many", desc := "(I)I" } : Jvm.MethodName)) ∈ gw := gw_in3 83 rfl rfl
theorem w_564 : (Jvm.Cond.code ({ cls := "MapLumpsModel", name := "many", desc := "(I)I" } : Jvm.MethodName) prog_7_method_27_code (2 : Nat) (Option.some Jvm.ClassFile.FieldType.int)) ∈ gw := gw_in3 84 rfl rfl
theorem w_565 : (Jvm.Cond.constant "MapLumpsModel" (122 : Nat) (100000 : Int32)) ∈ gw := gw_in3 85 rfl rfl
theorem w_566 : (Jvm.Cond.methodLink "MapLumpsLaw" (57 : Nat) ({ cls := "MapLumpsModel", name := "texture", desc := "(II)I" } : Jvm.MethodName)) ∈ gw := gw_in3 86 rfl rfl
theorem w_567 : (Jvm.Cond.instanceMethod ({ cls := "MapLumpsModel", name := "texture", desc := "(II)I" } : Jvm.MethodName)) ∈ gw := gw_in3 87 rfl rfl
theorem w_568 : (Jvm.Cond.selects "MapLumpsModel" ({ cls := "MapLumpsModel", name := "texture", desc := "(II)I" } : Jvm.MethodName) ({ cls := "MapLumpsModel", name := "texture", desc := "(II)I" } : Jvm.MethodName)) ∈ gw := gw_in3 88 rfl rfl
theorem w_569 : (Jvm.Cond.code ({ cls := "MapLumpsModel", name := "texture", desc := "(II)I" } : Jvm.MethodName) prog_7_method_33_code (8 : Nat) (Option.some Jvm.ClassFile.FieldType.int)) ∈ gw := gw_in3 89 rfl rfl
theorem w_570 : (Jvm.Cond.methodLink "MapLumpsModel" (113 : Nat) ({ cls := "MapLumpsModel", name := "textureAt", desc := "(I)I" } : Jvm.MethodName)) ∈ gw := gw_in3 90 rfl rfl
theorem w_572 : (Jvm.Cond.instanceMethod ({ cls := "MapLumpsModel", name := "textureAt", desc := "(I)I" } : Jvm.MethodName)) ∈ gw := gw_in3 92 rfl rfl
theorem w_573 : (Jvm.Cond.code ({ cls := "MapLumpsModel", name := "textureAt", desc := "(I)I" } : Jvm.MethodName) prog_7_method_28_code (4 : Nat) (Option.some Jvm.ClassFile.FieldType.int)) ∈ gw := gw_in3 93 rfl rfl
theorem w_574 : (Jvm.Cond.methodLink "MapLumpsLaw" (61 : Nat) ({ cls := "MapLumpsModel", name := "sector", desc := "(II)I" } : Jvm.MethodName)) ∈ gw := gw_in3 94 rfl rfl
theorem w_575 : (Jvm.Cond.instanceMethod ({ cls := "MapLumpsModel", name := "sector", desc := "(II)I" } : Jvm.MethodName)) ∈ gw := gw_in3 95 rfl rfl
theorem w_576 : (Jvm.Cond.selects "MapLumpsModel" ({ cls := "MapLumpsModel", name := "sector", desc := "(II)I" } : Jvm.MethodName) ({ cls := "MapLumpsModel", name := "sector", desc := "(II)I" } : Jvm.MethodName)) ∈ gw := gw_in3 96 rfl rfl
theorem w_577 : (Jvm.Cond.code ({ cls := "MapLumpsModel", name := "sector", desc := "(II)I" } : Jvm.MethodName) prog_7_method_34_code (4 : Nat) (Option.some Jvm.ClassFile.FieldType.int)) ∈ gw := gw_in3 97 rfl rfl
theorem w_578 : (Jvm.Cond.methodLink "MapLumpsModel" (116 : Nat) ({ cls := "MapLumpsModel", name := "sectorAt", desc := "(I)I" } : Jvm.MethodName)) ∈ gw := gw_in3 98 rfl rfl
theorem w_580 : (Jvm.Cond.instanceMethod ({ cls := "MapLumpsModel", name := "sectorAt", desc := "(I)I" } : Jvm.MethodName)) ∈ gw := gw_in3 100 rfl rfl
theorem w_581 : (Jvm.Cond.code ({ cls := "MapLumpsModel", name := "sectorAt", desc := "(I)I" } : Jvm.MethodName) prog_7_method_29_code (2 : Nat) (Option.some Jvm.ClassFile.FieldType.int)) ∈ gw := gw_in3 101 rfl rfl
theorem w_582 : (Jvm.Cond.methodLink "MapLumpsLaw" (65 : Nat) ({ cls := "MapLumpsModel", name := "wall", desc := "(II)I" } : Jvm.MethodName)) ∈ gw := gw_in3 102 rfl rfl
theorem w_583 : (Jvm.Cond.instanceMethod ({ cls := "MapLumpsModel", name := "wall", desc := "(II)I" } : Jvm.MethodName)) ∈ gw := gw_in3 103 rfl rfl
theorem w_584 : (Jvm.Cond.selects "MapLumpsModel" ({ cls := "MapLumpsModel", name := "wall", desc := "(II)I" } : Jvm.MethodName) ({ cls := "MapLumpsModel", name := "wall", desc := "(II)I" } : Jvm.MethodName)) ∈ gw := gw_in3 104 rfl rfl
theorem w_585 : (Jvm.Cond.code ({ cls := "MapLumpsModel", name := "wall", desc := "(II)I" } : Jvm.MethodName) prog_7_method_35_code (4 : Nat) (Option.some Jvm.ClassFile.FieldType.int)) ∈ gw := gw_in3 105 rfl rfl
theorem w_586 : (Jvm.Cond.methodLink "MapLumpsModel" (123 : Nat) ({ cls := "MapLumpsModel", name := "wallAt", desc := "(I)I" } : Jvm.MethodName)) ∈ gw := gw_in3 106 rfl rfl
theorem w_588 : (Jvm.Cond.instanceMethod ({ cls := "MapLumpsModel", name := "wallAt", desc := "(I)I" } : Jvm.MethodName)) ∈ gw := gw_in3 108 rfl rfl
theorem w_589 : (Jvm.Cond.code ({ cls := "MapLumpsModel", name := "wallAt", desc := "(I)I" } : Jvm.MethodName) prog_7_method_30_code (2 : Nat) (Option.some Jvm.ClassFile.FieldType.int)) ∈ gw := gw_in3 109 rfl rfl
theorem w_590 : (Jvm.Cond.methodLink "MapLumpsLaw" (70 : Nat) ({ cls := "MapLumpsModel", name := "start", desc := "(I)I" } : Jvm.MethodName)) ∈ gw := gw_in3 110 rfl rfl
theorem w_591 : (Jvm.Cond.instanceMethod ({ cls := "MapLumpsModel", name := "start", desc := "(I)I" } : Jvm.MethodName)) ∈ gw := gw_in3 111 rfl rfl
theorem w_592 : (Jvm.Cond.selects "MapLumpsModel" ({ cls := "MapLumpsModel", name := "start", desc := "(I)I" } : Jvm.MethodName) ({ cls := "MapLumpsModel", name := "start", desc := "(I)I" } : Jvm.MethodName)) ∈ gw := gw_in3 112 rfl rfl
theorem w_593 : (Jvm.Cond.code ({ cls := "MapLumpsModel", name := "start", desc := "(I)I" } : Jvm.MethodName) prog_7_method_36_code (3 : Nat) (Option.some Jvm.ClassFile.FieldType.int)) ∈ gw := gw_in3 113 rfl rfl
theorem w_594 : (Jvm.Cond.methodLink "MapLumpsLaw" (74 : Nat) ({ cls := "MapLumpsModel", name := "look", desc := "(I)I" } : Jvm.MethodName)) ∈ gw := gw_in3 114 rfl rfl
theorem w_595 : (Jvm.Cond.instanceMethod ({ cls := "MapLumpsModel", name := "look", desc := "(I)I" } : Jvm.MethodName)) ∈ gw := gw_in3 115 rfl rfl
theorem w_596 : (Jvm.Cond.selects "MapLumpsModel" ({ cls := "MapLumpsModel", name := "look", desc := "(I)I" } : Jvm.MethodName) ({ cls := "MapLumpsModel", name := "look", desc := "(I)I" } : Jvm.MethodName)) ∈ gw := gw_in3 116 rfl rfl
theorem w_597 : (Jvm.Cond.code ({ cls := "MapLumpsModel", name := "look", desc := "(I)I" } : Jvm.MethodName) prog_7_method_37_code (2 : Nat) (Option.some Jvm.ClassFile.FieldType.int)) ∈ gw := gw_in3 117 rfl rfl
theorem w_598 : (Jvm.Cond.constantLong "MapLumpsLaw" (13 : Nat) (4294967295 : Int64)) ∈ gw := gw_in3 118 rfl rfl
