theorem d_Sp_init_0 : decode b_Sp_init 0 = .ok (.aload_n 0, 1) := by decide +kernel
theorem d_Sp_init_1 : decode b_Sp_init 1 = .ok (.invokespecial 1, 3) := by decide +kernel
theorem d_Sp_init_4 : decode b_Sp_init 4 = .ok (.return_, 1) := by decide +kernel
theorem d_Sp_lay_0 : decode b_Sp_lay 0 = .ok (.aload_n 0, 1) := by decide +kernel
theorem d_Sp_lay_1 : decode b_Sp_lay 1 = .ok (.iload_n 1, 1) := by decide +kernel
theorem d_Sp_lay_2 : decode b_Sp_lay 2 = .ok (.putfield 7, 3) := by decide +kernel
theorem d_Sp_lay_5 : decode b_Sp_lay 5 = .ok (.aload_n 0, 1) := by decide +kernel
theorem d_Sp_lay_6 : decode b_Sp_lay 6 = .ok (.iload_n 2, 1) := by decide +kernel
theorem d_Sp_lay_7 : decode b_Sp_lay 7 = .ok (.putfield 13, 3) := by decide +kernel
theorem d_Sp_lay_10 : decode b_Sp_lay 10 = .ok (.aload_n 0, 1) := by decide +kernel
theorem d_Sp_lay_11 : decode b_Sp_lay 11 = .ok (.iload_n 3, 1) := by decide +kernel
theorem d_Sp_lay_12 : decode b_Sp_lay 12 = .ok (.putfield 16, 3) := by decide +kernel
theorem d_Sp_lay_15 : decode b_Sp_lay 15 = .ok (.aload_n 0, 1) := by decide +kernel
theorem d_Sp_lay_16 : decode b_Sp_lay 16 = .ok (.iload 4, 2) := by decide +kernel
theorem d_Sp_lay_18 : decode b_Sp_lay 18 = .ok (.putfield 19, 3) := by decide +kernel
theorem d_Sp_lay_21 : decode b_Sp_lay 21 = .ok (.aload_n 0, 1) := by decide +kernel
theorem d_Sp_lay_22 : decode b_Sp_lay 22 = .ok (.aload_n 0, 1) := by decide +kernel
theorem d_Sp_lay_23 : decode b_Sp_lay 23 = .ok (.getfield 7, 3) := by decide +kernel
theorem d_Sp_lay_26 : decode b_Sp_lay 26 = .ok (.aload_n 0, 1) := by decide +kernel
theorem d_Sp_lay_27 : decode b_Sp_lay 27 = .ok (.getfield 16, 3) := by decide +kernel
theorem d_Sp_lay_30 : decode b_Sp_lay 30 = .ok (.invokestatic 22, 3) := by decide +kernel
theorem d_Sp_lay_33 : decode b_Sp_lay 33 = .ok (.putfield 28, 3) := by decide +kernel
theorem d_Sp_lay_36 : decode b_Sp_lay 36 = .ok (.aload_n 0, 1) := by decide +kernel
theorem d_Sp_lay_37 : decode b_Sp_lay 37 = .ok (.aload_n 0, 1) := by decide +kernel
theorem d_Sp_lay_38 : decode b_Sp_lay 38 = .ok (.getfield 7, 3) := by decide +kernel
theorem d_Sp_lay_41 : decode b_Sp_lay 41 = .ok (.aload_n 0, 1) := by decide +kernel
theorem d_Sp_lay_42 : decode b_Sp_lay 42 = .ok (.getfield 16, 3) := by decide +kernel
theorem d_Sp_lay_45 : decode b_Sp_lay 45 = .ok (.invokestatic 31, 3) := by decide +kernel
theorem d_Sp_lay_48 : decode b_Sp_lay 48 = .ok (.putfield 34, 3) := by decide +kernel
theorem d_Sp_lay_51 : decode b_Sp_lay 51 = .ok (.aload_n 0, 1) := by decide +kernel
theorem d_Sp_lay_52 : decode b_Sp_lay 52 = .ok (.aload_n 0, 1) := by decide +kernel
theorem d_Sp_lay_53 : decode b_Sp_lay 53 = .ok (.getfield 13, 3) := by decide +kernel
theorem d_Sp_lay_56 : decode b_Sp_lay 56 = .ok (.aload_n 0, 1) := by decide +kernel
theorem d_Sp_lay_57 : decode b_Sp_lay 57 = .ok (.getfield 19, 3) := by decide +kernel
theorem d_Sp_lay_60 : decode b_Sp_lay 60 = .ok (.invokestatic 22, 3) := by decide +kernel
theorem d_Sp_lay_63 : decode b_Sp_lay 63 = .ok (.putfield 37, 3) := by decide +kernel
theorem d_Sp_lay_66 : decode b_Sp_lay 66 = .ok (.aload_n 0, 1) := by decide +kernel
theorem d_Sp_lay_67 : decode b_Sp_lay 67 = .ok (.aload_n 0, 1) := by decide +kernel
theorem d_Sp_lay_68 : decode b_Sp_lay 68 = .ok (.getfield 13, 3) := by decide +kernel
theorem d_Sp_lay_71 : decode b_Sp_lay 71 = .ok (.aload_n 0, 1) := by decide +kernel
theorem d_Sp_lay_72 : decode b_Sp_lay 72 = .ok (.getfield 19, 3) := by decide +kernel
theorem d_Sp_lay_75 : decode b_Sp_lay 75 = .ok (.invokestatic 31, 3) := by decide +kernel
theorem d_Sp_lay_78 : decode b_Sp_lay 78 = .ok (.putfield 40, 3) := by decide +kernel
theorem d_Sp_lay_81 : decode b_Sp_lay 81 = .ok (.return_, 1) := by decide +kernel
theorem d_Sp_meets_0 : decode b_Sp_meets 0 = .ok (.aload_n 0, 1) := by decide +kernel
theorem d_Sp_meets_1 : decode b_Sp_meets 1 = .ok (.aload_n 1, 1) := by decide +kernel
theorem d_Sp_meets_2 : decode b_Sp_meets 2 = .ok (.invokevirtual 43, 3) := by decide +kernel
theorem d_Sp_meets_5 : decode b_Sp_meets 5 = .ok (.ifCond .eq 5, 3) := by decide +kernel
theorem d_Sp_meets_8 : decode b_Sp_meets 8 = .ok (.iconst 0, 1) := by decide +kernel
theorem d_Sp_meets_9 : decode b_Sp_meets 9 = .ok (.ireturn, 1) := by decide +kernel
theorem d_Sp_meets_10 : decode b_Sp_meets 10 = .ok (.aload_n 0, 1) := by decide +kernel
theorem d_Sp_meets_11 : decode b_Sp_meets 11 = .ok (.getfield 7, 3) := by decide +kernel
theorem d_Sp_meets_14 : decode b_Sp_meets 14 = .ok (.aload_n 1, 1) := by decide +kernel
theorem d_Sp_meets_15 : decode b_Sp_meets 15 = .ok (.getfield 7, 3) := by decide +kernel
theorem d_Sp_meets_18 : decode b_Sp_meets 18 = .ok (.if_icmp .ne 42, 3) := by decide +kernel
theorem d_Sp_meets_21 : decode b_Sp_meets 21 = .ok (.aload_n 0, 1) := by decide +kernel
theorem d_Sp_meets_22 : decode b_Sp_meets 22 = .ok (.getfield 13, 3) := by decide +kernel
theorem d_Sp_meets_25 : decode b_Sp_meets 25 = .ok (.aload_n 1, 1) := by decide +kernel
theorem d_Sp_meets_26 : decode b_Sp_meets 26 = .ok (.getfield 13, 3) := by decide +kernel
theorem d_Sp_meets_29 : decode b_Sp_meets 29 = .ok (.if_icmp .ne 31, 3) := by decide +kernel
theorem d_Sp_meets_32 : decode b_Sp_meets 32 = .ok (.aload_n 0, 1) := by decide +kernel
theorem d_Sp_meets_33 : decode b_Sp_meets 33 = .ok (.getfield 7, 3) := by decide +kernel
theorem d_Sp_meets_36 : decode b_Sp_meets 36 = .ok (.aload_n 0, 1) := by decide +kernel
theorem d_Sp_meets_37 : decode b_Sp_meets 37 = .ok (.getfield 13, 3) := by decide +kernel
theorem d_Sp_meets_40 : decode b_Sp_meets 40 = .ok (.aload_n 0, 1) := by decide +kernel
theorem d_Sp_meets_41 : decode b_Sp_meets 41 = .ok (.getfield 16, 3) := by decide +kernel
theorem d_Sp_meets_44 : decode b_Sp_meets 44 = .ok (.aload_n 0, 1) := by decide +kernel
theorem d_Sp_meets_45 : decode b_Sp_meets 45 = .ok (.getfield 19, 3) := by decide +kernel
theorem d_Sp_meets_48 : decode b_Sp_meets 48 = .ok (.aload_n 1, 1) := by decide +kernel
theorem d_Sp_meets_49 : decode b_Sp_meets 49 = .ok (.getfield 16, 3) := by decide +kernel
theorem d_Sp_meets_52 : decode b_Sp_meets 52 = .ok (.aload_n 1, 1) := by decide +kernel
theorem d_Sp_meets_53 : decode b_Sp_meets 53 = .ok (.getfield 19, 3) := by decide +kernel
theorem d_Sp_meets_56 : decode b_Sp_meets 56 = .ok (.invokestatic 47, 3) := by decide +kernel
theorem d_Sp_meets_59 : decode b_Sp_meets 59 = .ok (.ireturn, 1) := by decide +kernel
theorem d_Sp_meets_60 : decode b_Sp_meets 60 = .ok (.aload_n 0, 1) := by decide +kernel
theorem d_Sp_meets_61 : decode b_Sp_meets 61 = .ok (.getfield 7, 3) := by decide +kernel
theorem d_Sp_meets_64 : decode b_Sp_meets 64 = .ok (.aload_n 1, 1) := by decide +kernel
theorem d_Sp_meets_65 : decode b_Sp_meets 65 = .ok (.getfield 16, 3) := by decide +kernel
theorem d_Sp_meets_68 : decode b_Sp_meets 68 = .ok (.if_icmp .ne 42, 3) := by decide +kernel
theorem d_Sp_meets_71 : decode b_Sp_meets 71 = .ok (.aload_n 0, 1) := by decide +kernel
theorem d_Sp_meets_72 : decode b_Sp_meets 72 = .ok (.getfield 13, 3) := by decide +kernel
theorem d_Sp_meets_75 : decode b_Sp_meets 75 = .ok (.aload_n 1, 1) := by decide +kernel
theorem d_Sp_meets_76 : decode b_Sp_meets 76 = .ok (.getfield 19, 3) := by decide +kernel
theorem d_Sp_meets_79 : decode b_Sp_meets 79 = .ok (.if_icmp .ne 31, 3) := by decide +kernel
theorem d_Sp_meets_82 : decode b_Sp_meets 82 = .ok (.aload_n 0, 1) := by decide +kernel
theorem d_Sp_meets_83 : decode b_Sp_meets 83 = .ok (.getfield 7, 3) := by decide +kernel
theorem d_Sp_meets_86 : decode b_Sp_meets 86 = .ok (.aload_n 0, 1) := by decide +kernel
theorem d_Sp_meets_87 : decode b_Sp_meets 87 = .ok (.getfield 13, 3) := by decide +kernel
theorem d_Sp_meets_90 : decode b_Sp_meets 90 = .ok (.aload_n 0, 1) := by decide +kernel
theorem d_Sp_meets_91 : decode b_Sp_meets 91 = .ok (.getfield 16, 3) := by decide +kernel
theorem d_Sp_meets_94 : decode b_Sp_meets 94 = .ok (.aload_n 0, 1) := by decide +kernel
theorem d_Sp_meets_95 : decode b_Sp_meets 95 = .ok (.getfield 19, 3) := by decide +kernel
theorem d_Sp_meets_98 : decode b_Sp_meets 98 = .ok (.aload_n 1, 1) := by decide +kernel
theorem d_Sp_meets_99 : decode b_Sp_meets 99 = .ok (.getfield 7, 3) := by decide +kernel
theorem d_Sp_meets_102 : decode b_Sp_meets 102 = .ok (.aload_n 1, 1) := by decide +kernel
theorem d_Sp_meets_103 : decode b_Sp_meets 103 = .ok (.getfield 13, 3) := by decide +kernel
theorem d_Sp_meets_106 : decode b_Sp_meets 106 = .ok (.invokestatic 47, 3) := by decide +kernel
theorem d_Sp_meets_109 : decode b_Sp_meets 109 = .ok (.ireturn, 1) := by decide +kernel
theorem d_Sp_meets_110 : decode b_Sp_meets 110 = .ok (.aload_n 0, 1) := by decide +kernel
theorem d_Sp_meets_111 : decode b_Sp_meets 111 = .ok (.getfield 16, 3) := by decide +kernel
theorem d_Sp_meets_114 : decode b_Sp_meets 114 = .ok (.aload_n 1, 1) := by decide +kernel
theorem d_Sp_meets_115 : decode b_Sp_meets 115 = .ok (.getfield 7, 3) := by decide +kernel
theorem d_Sp_meets_118 : decode b_Sp_meets 118 = .ok (.if_icmp .ne 42, 3) := by decide +kernel
theorem d_Sp_meets_121 : decode b_Sp_meets 121 = .ok (.aload_n 0, 1) := by decide +kernel
theorem d_Sp_meets_122 : decode b_Sp_meets 122 = .ok (.getfield 19, 3) := by decide +kernel
theorem d_Sp_meets_125 : decode b_Sp_meets 125 = .ok (.aload_n 1, 1) := by decide +kernel
theorem d_Sp_meets_126 : decode b_Sp_meets 126 = .ok (.getfield 13, 3) := by decide +kernel
theorem d_Sp_meets_129 : decode b_Sp_meets 129 = .ok (.if_icmp .ne 31, 3) := by decide +kernel
theorem d_Sp_meets_132 : decode b_Sp_meets 132 = .ok (.aload_n 0, 1) := by decide +kernel
theorem d_Sp_meets_133 : decode b_Sp_meets 133 = .ok (.getfield 16, 3) := by decide +kernel
theorem d_Sp_meets_136 : decode b_Sp_meets 136 = .ok (.aload_n 0, 1) := by decide +kernel
theorem d_Sp_meets_137 : decode b_Sp_meets 137 = .ok (.getfield 19, 3) := by decide +kernel
theorem d_Sp_meets_140 : decode b_Sp_meets 140 = .ok (.aload_n 0, 1) := by decide +kernel
theorem d_Sp_meets_141 : decode b_Sp_meets 141 = .ok (.getfield 7, 3) := by decide +kernel
theorem d_Sp_meets_144 : decode b_Sp_meets 144 = .ok (.aload_n 0, 1) := by decide +kernel
theorem d_Sp_meets_145 : decode b_Sp_meets 145 = .ok (.getfield 13, 3) := by decide +kernel
theorem d_Sp_meets_148 : decode b_Sp_meets 148 = .ok (.aload_n 1, 1) := by decide +kernel
theorem d_Sp_meets_149 : decode b_Sp_meets 149 = .ok (.getfield 16, 3) := by decide +kernel
theorem d_Sp_meets_152 : decode b_Sp_meets 152 = .ok (.aload_n 1, 1) := by decide +kernel
theorem d_Sp_meets_153 : decode b_Sp_meets 153 = .ok (.getfield 19, 3) := by decide +kernel
theorem d_Sp_meets_156 : decode b_Sp_meets 156 = .ok (.invokestatic 47, 3) := by decide +kernel
theorem d_Sp_meets_159 : decode b_Sp_meets 159 = .ok (.ireturn, 1) := by decide +kernel
theorem d_Sp_meets_160 : decode b_Sp_meets 160 = .ok (.aload_n 0, 1) := by decide +kernel
theorem d_Sp_meets_161 : decode b_Sp_meets 161 = .ok (.getfield 16, 3) := by decide +kernel
theorem d_Sp_meets_164 : decode b_Sp_meets 164 = .ok (.aload_n 1, 1) := by decide +kernel
theorem d_Sp_meets_165 : decode b_Sp_meets 165 = .ok (.getfield 16, 3) := by decide +kernel
theorem d_Sp_meets_168 : decode b_Sp_meets 168 = .ok (.if_icmp .ne 42, 3) := by decide +kernel
theorem d_Sp_meets_171 : decode b_Sp_meets 171 = .ok (.aload_n 0, 1) := by decide +kernel
theorem d_Sp_meets_172 : decode b_Sp_meets 172 = .ok (.getfield 19, 3) := by decide +kernel
theorem d_Sp_meets_175 : decode b_Sp_meets 175 = .ok (.aload_n 1, 1) := by decide +kernel
theorem d_Sp_meets_176 : decode b_Sp_meets 176 = .ok (.getfield 19, 3) := by decide +kernel
theorem d_Sp_meets_179 : decode b_Sp_meets 179 = .ok (.if_icmp .ne 31, 3) := by decide +kernel
theorem d_Sp_meets_182 : decode b_Sp_meets 182 = .ok (.aload_n 0, 1) := by decide +kernel
theorem d_Sp_meets_183 : decode b_Sp_meets 183 = .ok (.getfield 16, 3) := by decide +kernel
theorem d_Sp_meets_186 : decode b_Sp_meets 186 = .ok (.aload_n 0, 1) := by decide +kernel
theorem d_Sp_meets_187 : decode b_Sp_meets 187 = .ok (.getfield 19, 3) := by decide +kernel
theorem d_Sp_meets_190 : decode b_Sp_meets 190 = .ok (.aload_n 0, 1) := by decide +kernel
theorem d_Sp_meets_191 : decode b_Sp_meets 191 = .ok (.getfield 7, 3) := by decide +kernel
theorem d_Sp_meets_194 : decode b_Sp_meets 194 = .ok (.aload_n 0, 1) := by decide +kernel
theorem d_Sp_meets_195 : decode b_Sp_meets 195 = .ok (.getfield 13, 3) := by decide +kernel
theorem d_Sp_meets_198 : decode b_Sp_meets 198 = .ok (.aload_n 1, 1) := by decide +kernel
theorem d_Sp_meets_199 : decode b_Sp_meets 199 = .ok (.getfield 7, 3) := by decide +kernel
theorem d_Sp_meets_202 : decode b_Sp_meets 202 = .ok (.aload_n 1, 1) := by decide +kernel
theorem d_Sp_meets_203 : decode b_Sp_meets 203 = .ok (.getfield 13, 3) := by decide +kernel
theorem d_Sp_meets_206 : decode b_Sp_meets 206 = .ok (.invokestatic 47, 3) := by decide +kernel
theorem d_Sp_meets_209 : decode b_Sp_meets 209 = .ok (.ireturn, 1) := by decide +kernel
theorem d_Sp_meets_210 : decode b_Sp_meets 210 = .ok (.aload_n 0, 1) := by decide +kernel
theorem d_Sp_meets_211 : decode b_Sp_meets 211 = .ok (.aload_n 1, 1) := by decide +kernel
theorem d_Sp_meets_212 : decode b_Sp_meets 212 = .ok (.invokevirtual 51, 3) := by decide +kernel
theorem d_Sp_meets_215 : decode b_Sp_meets 215 = .ok (.ifCond .eq 15, 3) := by decide +kernel
theorem d_Sp_meets_218 : decode b_Sp_meets 218 = .ok (.aload_n 1, 1) := by decide +kernel
theorem d_Sp_meets_219 : decode b_Sp_meets 219 = .ok (.aload_n 0, 1) := by decide +kernel
theorem d_Sp_meets_220 : decode b_Sp_meets 220 = .ok (.invokevirtual 51, 3) := by decide +kernel
theorem d_Sp_meets_223 : decode b_Sp_meets 223 = .ok (.ifCond .eq 7, 3) := by decide +kernel
theorem d_Sp_meets_226 : decode b_Sp_meets 226 = .ok (.iconst 1, 1) := by decide +kernel
theorem d_Sp_meets_227 : decode b_Sp_meets 227 = .ok (.goto 4, 3) := by decide +kernel
theorem d_Sp_meets_230 : decode b_Sp_meets 230 = .ok (.iconst 0, 1) := by decide +kernel
theorem d_Sp_meets_231 : decode b_Sp_meets 231 = .ok (.ireturn, 1) := by decide +kernel
theorem d_Sp_boxesApart_0 : decode b_Sp_boxesApart 0 = .ok (.aload_n 0, 1) := by decide +kernel
theorem d_Sp_boxesApart_1 : decode b_Sp_boxesApart 1 = .ok (.getfield 34, 3) := by decide +kernel
theorem d_Sp_boxesApart_4 : decode b_Sp_boxesApart 4 = .ok (.aload_n 1, 1) := by decide +kernel
theorem d_Sp_boxesApart_5 : decode b_Sp_boxesApart 5 = .ok (.getfield 28, 3) := by decide +kernel
theorem d_Sp_boxesApart_8 : decode b_Sp_boxesApart 8 = .ok (.if_icmp .lt 36, 3) := by decide +kernel
theorem d_Sp_boxesApart_11 : decode b_Sp_boxesApart 11 = .ok (.aload_n 1, 1) := by decide +kernel
theorem d_Sp_boxesApart_12 : decode b_Sp_boxesApart 12 = .ok (.getfield 34, 3) := by decide +kernel
theorem d_Sp_boxesApart_15 : decode b_Sp_boxesApart 15 = .ok (.aload_n 0, 1) := by decide +kernel
theorem d_Sp_boxesApart_16 : decode b_Sp_boxesApart 16 = .ok (.getfield 28, 3) := by decide +kernel
theorem d_Sp_boxesApart_19 : decode b_Sp_boxesApart 19 = .ok (.if_icmp .lt 25, 3) := by decide +kernel
theorem d_Sp_boxesApart_22 : decode b_Sp_boxesApart 22 = .ok (.aload_n 0, 1) := by decide +kernel
theorem d_Sp_boxesApart_23 : decode b_Sp_boxesApart 23 = .ok (.getfield 40, 3) := by decide +kernel
theorem d_Sp_boxesApart_26 : decode b_Sp_boxesApart 26 = .ok (.aload_n 1, 1) := by decide +kernel
theorem d_Sp_boxesApart_27 : decode b_Sp_boxesApart 27 = .ok (.getfield 37, 3) := by decide +kernel
theorem d_Sp_boxesApart_30 : decode b_Sp_boxesApart 30 = .ok (.if_icmp .lt 14, 3) := by decide +kernel
theorem d_Sp_boxesApart_33 : decode b_Sp_boxesApart 33 = .ok (.aload_n 1, 1) := by decide +kernel
theorem d_Sp_boxesApart_34 : decode b_Sp_boxesApart 34 = .ok (.getfield 40, 3) := by decide +kernel
theorem d_Sp_boxesApart_37 : decode b_Sp_boxesApart 37 = .ok (.aload_n 0, 1) := by decide +kernel
theorem d_Sp_boxesApart_38 : decode b_Sp_boxesApart 38 = .ok (.getfield 37, 3) := by decide +kernel
theorem d_Sp_boxesApart_41 : decode b_Sp_boxesApart 41 = .ok (.if_icmp .ge 7, 3) := by decide +kernel
theorem d_Sp_boxesApart_44 : decode b_Sp_boxesApart 44 = .ok (.iconst 1, 1) := by decide +kernel
theorem d_Sp_boxesApart_45 : decode b_Sp_boxesApart 45 = .ok (.goto 4, 3) := by decide +kernel
theorem d_Sp_boxesApart_48 : decode b_Sp_boxesApart 48 = .ok (.iconst 0, 1) := by decide +kernel
theorem d_Sp_boxesApart_49 : decode b_Sp_boxesApart 49 = .ok (.ireturn, 1) := by decide +kernel
theorem d_Sp_lineParts_0 : decode b_Sp_lineParts 0 = .ok (.aload_n 0, 1) := by decide +kernel
theorem d_Sp_lineParts_1 : decode b_Sp_lineParts 1 = .ok (.aload_n 1, 1) := by decide +kernel
theorem d_Sp_lineParts_2 : decode b_Sp_lineParts 2 = .ok (.getfield 7, 3) := by decide +kernel
theorem d_Sp_lineParts_5 : decode b_Sp_lineParts 5 = .ok (.aload_n 1, 1) := by decide +kernel
theorem d_Sp_lineParts_6 : decode b_Sp_lineParts 6 = .ok (.getfield 13, 3) := by decide +kernel
theorem d_Sp_lineParts_9 : decode b_Sp_lineParts 9 = .ok (.invokevirtual 54, 3) := by decide +kernel
theorem d_Sp_lineParts_12 : decode b_Sp_lineParts 12 = .ok (.aload_n 0, 1) := by decide +kernel
theorem d_Sp_lineParts_13 : decode b_Sp_lineParts 13 = .ok (.aload_n 1, 1) := by decide +kernel
theorem d_Sp_lineParts_14 : decode b_Sp_lineParts 14 = .ok (.getfield 16, 3) := by decide +kernel
theorem d_Sp_lineParts_17 : decode b_Sp_lineParts 17 = .ok (.aload_n 1, 1) := by decide +kernel
theorem d_Sp_lineParts_18 : decode b_Sp_lineParts 18 = .ok (.getfield 19, 3) := by decide +kernel
theorem d_Sp_lineParts_21 : decode b_Sp_lineParts 21 = .ok (.invokevirtual 54, 3) := by decide +kernel
theorem d_Sp_lineParts_24 : decode b_Sp_lineParts 24 = .ok (.imul, 1) := by decide +kernel
theorem d_Sp_lineParts_25 : decode b_Sp_lineParts 25 = .ok (.ifCond .gt 7, 3) := by decide +kernel
theorem d_Sp_lineParts_28 : decode b_Sp_lineParts 28 = .ok (.iconst 1, 1) := by decide +kernel
theorem d_Sp_lineParts_29 : decode b_Sp_lineParts 29 = .ok (.goto 4, 3) := by decide +kernel
theorem d_Sp_lineParts_32 : decode b_Sp_lineParts 32 = .ok (.iconst 0, 1) := by decide +kernel
theorem d_Sp_lineParts_33 : decode b_Sp_lineParts 33 = .ok (.ireturn, 1) := by decide +kernel
theorem d_Sp_side_0 : decode b_Sp_side 0 = .ok (.aload_n 0, 1) := by decide +kernel
theorem d_Sp_side_1 : decode b_Sp_side 1 = .ok (.getfield 7, 3) := by decide +kernel
theorem d_Sp_side_4 : decode b_Sp_side 4 = .ok (.aload_n 0, 1) := by decide +kernel
theorem d_Sp_side_5 : decode b_Sp_side 5 = .ok (.getfield 13, 3) := by decide +kernel
theorem d_Sp_side_8 : decode b_Sp_side 8 = .ok (.aload_n 0, 1) := by decide +kernel
theorem d_Sp_side_9 : decode b_Sp_side 9 = .ok (.getfield 16, 3) := by decide +kernel
theorem d_Sp_side_12 : decode b_Sp_side 12 = .ok (.aload_n 0, 1) := by decide +kernel
theorem d_Sp_side_13 : decode b_Sp_side 13 = .ok (.getfield 19, 3) := by decide +kernel
theorem d_Sp_side_16 : decode b_Sp_side 16 = .ok (.iload_n 1, 1) := by decide +kernel
theorem d_Sp_side_17 : decode b_Sp_side 17 = .ok (.iload_n 2, 1) := by decide +kernel
theorem d_Sp_side_18 : decode b_Sp_side 18 = .ok (.invokestatic 57, 3) := by decide +kernel
theorem d_Sp_side_21 : decode b_Sp_side 21 = .ok (.invokestatic 61, 3) := by decide +kernel
theorem d_Sp_side_24 : decode b_Sp_side 24 = .ok (.ireturn, 1) := by decide +kernel
theorem d_Sp_sameWay_0 : decode b_Sp_sameWay 0 = .ok (.iload_n 2, 1) := by decide +kernel
theorem d_Sp_sameWay_1 : decode b_Sp_sameWay 1 = .ok (.iload_n 0, 1) := by decide +kernel
theorem d_Sp_sameWay_2 : decode b_Sp_sameWay 2 = .ok (.isub, 1) := by decide +kernel
theorem d_Sp_sameWay_3 : decode b_Sp_sameWay 3 = .ok (.i2l, 1) := by decide +kernel
theorem d_Sp_sameWay_4 : decode b_Sp_sameWay 4 = .ok (.iload 4, 2) := by decide +kernel
theorem d_Sp_sameWay_6 : decode b_Sp_sameWay 6 = .ok (.iload_n 0, 1) := by decide +kernel
theorem d_Sp_sameWay_7 : decode b_Sp_sameWay 7 = .ok (.isub, 1) := by decide +kernel
theorem d_Sp_sameWay_8 : decode b_Sp_sameWay 8 = .ok (.i2l, 1) := by decide +kernel
theorem d_Sp_sameWay_9 : decode b_Sp_sameWay 9 = .ok (.lmul, 1) := by decide +kernel
theorem d_Sp_sameWay_10 : decode b_Sp_sameWay 10 = .ok (.iload_n 3, 1) := by decide +kernel
theorem d_Sp_sameWay_11 : decode b_Sp_sameWay 11 = .ok (.iload_n 1, 1) := by decide +kernel
theorem d_Sp_sameWay_12 : decode b_Sp_sameWay 12 = .ok (.isub, 1) := by decide +kernel
theorem d_Sp_sameWay_13 : decode b_Sp_sameWay 13 = .ok (.i2l, 1) := by decide +kernel
theorem d_Sp_sameWay_14 : decode b_Sp_sameWay 14 = .ok (.iload 5, 2) := by decide +kernel
theorem d_Sp_sameWay_16 : decode b_Sp_sameWay 16 = .ok (.iload_n 1, 1) := by decide +kernel
theorem d_Sp_sameWay_17 : decode b_Sp_sameWay 17 = .ok (.isub, 1) := by decide +kernel
theorem d_Sp_sameWay_18 : decode b_Sp_sameWay 18 = .ok (.i2l, 1) := by decide +kernel
theorem d_Sp_sameWay_19 : decode b_Sp_sameWay 19 = .ok (.lmul, 1) := by decide +kernel
theorem d_Sp_sameWay_20 : decode b_Sp_sameWay 20 = .ok (.ladd, 1) := by decide +kernel
theorem d_Sp_sameWay_21 : decode b_Sp_sameWay 21 = .ok (.lstore 6, 2) := by decide +kernel
theorem d_Sp_sameWay_23 : decode b_Sp_sameWay 23 = .ok (.lload 6, 2) := by decide +kernel
theorem d_Sp_sameWay_25 : decode b_Sp_sameWay 25 = .ok (.lconst 0, 1) := by decide +kernel
theorem d_Sp_sameWay_26 : decode b_Sp_sameWay 26 = .ok (.lcmp, 1) := by decide +kernel
theorem d_Sp_sameWay_27 : decode b_Sp_sameWay 27 = .ok (.ifCond .le 23, 3) := by decide +kernel
theorem d_Sp_sameWay_30 : decode b_Sp_sameWay 30 = .ok (.iload_n 0, 1) := by decide +kernel
theorem d_Sp_sameWay_31 : decode b_Sp_sameWay 31 = .ok (.iload_n 1, 1) := by decide +kernel
theorem d_Sp_sameWay_32 : decode b_Sp_sameWay 32 = .ok (.iload_n 2, 1) := by decide +kernel
theorem d_Sp_sameWay_33 : decode b_Sp_sameWay 33 = .ok (.iload_n 3, 1) := by decide +kernel
theorem d_Sp_sameWay_34 : decode b_Sp_sameWay 34 = .ok (.iload 4, 2) := by decide +kernel
theorem d_Sp_sameWay_36 : decode b_Sp_sameWay 36 = .ok (.iload 5, 2) := by decide +kernel
theorem d_Sp_sameWay_38 : decode b_Sp_sameWay 38 = .ok (.invokestatic 57, 3) := by decide +kernel
theorem d_Sp_sameWay_41 : decode b_Sp_sameWay 41 = .ok (.lconst 0, 1) := by decide +kernel
theorem d_Sp_sameWay_42 : decode b_Sp_sameWay 42 = .ok (.lcmp, 1) := by decide +kernel
theorem d_Sp_sameWay_43 : decode b_Sp_sameWay 43 = .ok (.ifCond .ne 7, 3) := by decide +kernel
theorem d_Sp_sameWay_46 : decode b_Sp_sameWay 46 = .ok (.iconst 1, 1) := by decide +kernel
theorem d_Sp_sameWay_47 : decode b_Sp_sameWay 47 = .ok (.goto 4, 3) := by decide +kernel
theorem d_Sp_sameWay_50 : decode b_Sp_sameWay 50 = .ok (.iconst 0, 1) := by decide +kernel
theorem d_Sp_sameWay_51 : decode b_Sp_sameWay 51 = .ok (.ireturn, 1) := by decide +kernel
theorem d_Sp_turn_0 : decode b_Sp_turn 0 = .ok (.iload_n 2, 1) := by decide +kernel
theorem d_Sp_turn_1 : decode b_Sp_turn 1 = .ok (.iload_n 0, 1) := by decide +kernel
theorem d_Sp_turn_2 : decode b_Sp_turn 2 = .ok (.isub, 1) := by decide +kernel
theorem d_Sp_turn_3 : decode b_Sp_turn 3 = .ok (.i2l, 1) := by decide +kernel
theorem d_Sp_turn_4 : decode b_Sp_turn 4 = .ok (.iload 5, 2) := by decide +kernel
theorem d_Sp_turn_6 : decode b_Sp_turn 6 = .ok (.iload_n 1, 1) := by decide +kernel
theorem d_Sp_turn_7 : decode b_Sp_turn 7 = .ok (.isub, 1) := by decide +kernel
theorem d_Sp_turn_8 : decode b_Sp_turn 8 = .ok (.i2l, 1) := by decide +kernel
theorem d_Sp_turn_9 : decode b_Sp_turn 9 = .ok (.lmul, 1) := by decide +kernel
theorem d_Sp_turn_10 : decode b_Sp_turn 10 = .ok (.iload_n 3, 1) := by decide +kernel
theorem d_Sp_turn_11 : decode b_Sp_turn 11 = .ok (.iload_n 1, 1) := by decide +kernel
theorem d_Sp_turn_12 : decode b_Sp_turn 12 = .ok (.isub, 1) := by decide +kernel
theorem d_Sp_turn_13 : decode b_Sp_turn 13 = .ok (.i2l, 1) := by decide +kernel
theorem d_Sp_turn_14 : decode b_Sp_turn 14 = .ok (.iload 4, 2) := by decide +kernel
theorem d_Sp_turn_16 : decode b_Sp_turn 16 = .ok (.iload_n 0, 1) := by decide +kernel
theorem d_Sp_turn_17 : decode b_Sp_turn 17 = .ok (.isub, 1) := by decide +kernel
theorem d_Sp_turn_18 : decode b_Sp_turn 18 = .ok (.i2l, 1) := by decide +kernel
theorem d_Sp_turn_19 : decode b_Sp_turn 19 = .ok (.lmul, 1) := by decide +kernel
theorem d_Sp_turn_20 : decode b_Sp_turn 20 = .ok (.lsub, 1) := by decide +kernel
theorem d_Sp_turn_21 : decode b_Sp_turn 21 = .ok (.lreturn, 1) := by decide +kernel
theorem d_Lw_law_0 : decode code 0 = .ok (.new 7, 3) := by decide +kernel
theorem d_Lw_law_3 : decode code 3 = .ok (.dup, 1) := by decide +kernel
theorem d_Lw_law_4 : decode code 4 = .ok (.invokespecial 9, 3) := by decide +kernel
theorem d_Lw_law_7 : decode code 7 = .ok (.astore_n 1, 1) := by decide +kernel
theorem d_Lw_law_8 : decode code 8 = .ok (.new 10, 3) := by decide +kernel
theorem d_Lw_law_11 : decode code 11 = .ok (.dup, 1) := by decide +kernel
theorem d_Lw_law_12 : decode code 12 = .ok (.invokespecial 12, 3) := by decide +kernel
theorem d_Lw_law_15 : decode code 15 = .ok (.astore_n 2, 1) := by decide +kernel
theorem d_Lw_law_16 : decode code 16 = .ok (.iconst 0, 1) := by decide +kernel
theorem d_Lw_law_17 : decode code 17 = .ok (.istore_n 3, 1) := by decide +kernel
theorem d_Lw_law_18 : decode code 18 = .ok (.iload_n 3, 1) := by decide +kernel
theorem d_Lw_law_19 : decode code 19 = .ok (.aload_n 0, 1) := by decide +kernel
theorem d_Lw_law_20 : decode code 20 = .ok (.arraylength, 1) := by decide +kernel
theorem d_Lw_law_21 : decode code 21 = .ok (.iconst 4, 1) := by decide +kernel
theorem d_Lw_law_22 : decode code 22 = .ok (.isub, 1) := by decide +kernel
theorem d_Lw_law_23 : decode code 23 = .ok (.if_icmp .gt 484, 3) := by decide +kernel
theorem d_Lw_law_26 : decode code 26 = .ok (.aload_n 0, 1) := by decide +kernel
theorem d_Lw_law_27 : decode code 27 = .ok (.iload_n 3, 1) := by decide +kernel
theorem d_Lw_law_28 : decode code 28 = .ok (.iaload, 1) := by decide +kernel
theorem d_Lw_law_29 : decode code 29 = .ok (.bipush 15, 2) := by decide +kernel
theorem d_Lw_law_31 : decode code 31 = .ok (.iand, 1) := by decide +kernel
theorem d_Lw_law_32 : decode code 32 = .ok (.tableswitch 469 0 12 #[68, 131, 154, 187, 200, 213, 226, 275, 324, 357, 390, 423, 446], 68) := by decide +kernel
theorem d_Lw_law_100 : decode code 100 = .ok (.aload_n 1, 1) := by decide +kernel
theorem d_Lw_law_101 : decode code 101 = .ok (.aload_n 0, 1) := by decide +kernel
theorem d_Lw_law_102 : decode code 102 = .ok (.iload_n 3, 1) := by decide +kernel
theorem d_Lw_law_103 : decode code 103 = .ok (.iconst 1, 1) := by decide +kernel
theorem d_Lw_law_104 : decode code 104 = .ok (.iadd, 1) := by decide +kernel
theorem d_Lw_law_105 : decode code 105 = .ok (.iaload, 1) := by decide +kernel
theorem d_Lw_law_106 : decode code 106 = .ok (.i2l, 1) := by decide +kernel
theorem d_Lw_law_107 : decode code 107 = .ok (.bipush 32, 2) := by decide +kernel
theorem d_Lw_law_109 : decode code 109 = .ok (.lshl, 1) := by decide +kernel
theorem d_Lw_law_110 : decode code 110 = .ok (.aload_n 0, 1) := by decide +kernel
theorem d_Lw_law_111 : decode code 111 = .ok (.iload_n 3, 1) := by decide +kernel
theorem d_Lw_law_112 : decode code 112 = .ok (.iconst 2, 1) := by decide +kernel
theorem d_Lw_law_113 : decode code 113 = .ok (.iadd, 1) := by decide +kernel
theorem d_Lw_law_114 : decode code 114 = .ok (.iaload, 1) := by decide +kernel
theorem d_Lw_law_115 : decode code 115 = .ok (.i2l, 1) := by decide +kernel
theorem d_Lw_law_116 : decode code 116 = .ok (.ldc2_w 13, 3) := by decide +kernel
theorem d_Lw_law_119 : decode code 119 = .ok (.land, 1) := by decide +kernel
theorem d_Lw_law_120 : decode code 120 = .ok (.lor, 1) := by decide +kernel
theorem d_Lw_law_121 : decode code 121 = .ok (.aload_n 0, 1) := by decide +kernel
theorem d_Lw_law_122 : decode code 122 = .ok (.iload_n 3, 1) := by decide +kernel
theorem d_Lw_law_123 : decode code 123 = .ok (.iconst 3, 1) := by decide +kernel
theorem d_Lw_law_124 : decode code 124 = .ok (.iadd, 1) := by decide +kernel
theorem d_Lw_law_125 : decode code 125 = .ok (.iaload, 1) := by decide +kernel
theorem d_Lw_law_126 : decode code 126 = .ok (.invokevirtual 15, 3) := by decide +kernel
theorem d_Lw_law_129 : decode code 129 = .ok (.aload_n 2, 1) := by decide +kernel
theorem d_Lw_law_130 : decode code 130 = .ok (.aload_n 0, 1) := by decide +kernel
theorem d_Lw_law_131 : decode code 131 = .ok (.iload_n 3, 1) := by decide +kernel
theorem d_Lw_law_132 : decode code 132 = .ok (.iconst 1, 1) := by decide +kernel
theorem d_Lw_law_133 : decode code 133 = .ok (.iadd, 1) := by decide +kernel
theorem d_Lw_law_134 : decode code 134 = .ok (.iaload, 1) := by decide +kernel
theorem d_Lw_law_135 : decode code 135 = .ok (.i2l, 1) := by decide +kernel
theorem d_Lw_law_136 : decode code 136 = .ok (.bipush 32, 2) := by decide +kernel
theorem d_Lw_law_138 : decode code 138 = .ok (.lshl, 1) := by decide +kernel
theorem d_Lw_law_139 : decode code 139 = .ok (.aload_n 0, 1) := by decide +kernel
theorem d_Lw_law_140 : decode code 140 = .ok (.iload_n 3, 1) := by decide +kernel
theorem d_Lw_law_141 : decode code 141 = .ok (.iconst 2, 1) := by decide +kernel
theorem d_Lw_law_142 : decode code 142 = .ok (.iadd, 1) := by decide +kernel
theorem d_Lw_law_143 : decode code 143 = .ok (.iaload, 1) := by decide +kernel
theorem d_Lw_law_144 : decode code 144 = .ok (.i2l, 1) := by decide +kernel
theorem d_Lw_law_145 : decode code 145 = .ok (.ldc2_w 13, 3) := by decide +kernel
theorem d_Lw_law_148 : decode code 148 = .ok (.land, 1) := by decide +kernel
theorem d_Lw_law_149 : decode code 149 = .ok (.lor, 1) := by decide +kernel
theorem d_Lw_law_150 : decode code 150 = .ok (.aload_n 0, 1) := by decide +kernel
theorem d_Lw_law_151 : decode code 151 = .ok (.iload_n 3, 1) := by decide +kernel
theorem d_Lw_law_152 : decode code 152 = .ok (.iconst 3, 1) := by decide +kernel
theorem d_Lw_law_153 : decode code 153 = .ok (.iadd, 1) := by decide +kernel
theorem d_Lw_law_154 : decode code 154 = .ok (.iaload, 1) := by decide +kernel
theorem d_Lw_law_155 : decode code 155 = .ok (.invokevirtual 19, 3) := by decide +kernel
theorem d_Lw_law_158 : decode code 158 = .ok (.if_icmp .eq 343, 3) := by decide +kernel
theorem d_Lw_law_161 : decode code 161 = .ok (.iconst 0, 1) := by decide +kernel
theorem d_Lw_law_162 : decode code 162 = .ok (.ireturn, 1) := by decide +kernel
theorem d_Lw_law_163 : decode code 163 = .ok (.aload_n 1, 1) := by decide +kernel
theorem d_Lw_law_164 : decode code 164 = .ok (.aload_n 0, 1) := by decide +kernel
theorem d_Lw_law_165 : decode code 165 = .ok (.iload_n 3, 1) := by decide +kernel
theorem d_Lw_law_166 : decode code 166 = .ok (.iconst 1, 1) := by decide +kernel
theorem d_Lw_law_167 : decode code 167 = .ok (.iadd, 1) := by decide +kernel
theorem d_Lw_law_168 : decode code 168 = .ok (.iaload, 1) := by decide +kernel
theorem d_Lw_law_169 : decode code 169 = .ok (.invokevirtual 20, 3) := by decide +kernel
theorem d_Lw_law_172 : decode code 172 = .ok (.aload_n 2, 1) := by decide +kernel
theorem d_Lw_law_173 : decode code 173 = .ok (.aload_n 0, 1) := by decide +kernel
theorem d_Lw_law_174 : decode code 174 = .ok (.iload_n 3, 1) := by decide +kernel
theorem d_Lw_law_175 : decode code 175 = .ok (.iconst 1, 1) := by decide +kernel
theorem d_Lw_law_176 : decode code 176 = .ok (.iadd, 1) := by decide +kernel
theorem d_Lw_law_177 : decode code 177 = .ok (.iaload, 1) := by decide +kernel
theorem d_Lw_law_178 : decode code 178 = .ok (.invokevirtual 24, 3) := by decide +kernel
theorem d_Lw_law_181 : decode code 181 = .ok (.if_icmp .eq 320, 3) := by decide +kernel
theorem d_Lw_law_184 : decode code 184 = .ok (.iconst 0, 1) := by decide +kernel
theorem d_Lw_law_185 : decode code 185 = .ok (.ireturn, 1) := by decide +kernel
theorem d_Lw_law_186 : decode code 186 = .ok (.aload_n 1, 1) := by decide +kernel
theorem d_Lw_law_187 : decode code 187 = .ok (.aload_n 0, 1) := by decide +kernel
theorem d_Lw_law_188 : decode code 188 = .ok (.iload_n 3, 1) := by decide +kernel
theorem d_Lw_law_189 : decode code 189 = .ok (.iconst 1, 1) := by decide +kernel
theorem d_Lw_law_190 : decode code 190 = .ok (.iadd, 1) := by decide +kernel
theorem d_Lw_law_191 : decode code 191 = .ok (.iaload, 1) := by decide +kernel
theorem d_Lw_law_192 : decode code 192 = .ok (.aload_n 0, 1) := by decide +kernel
theorem d_Lw_law_193 : decode code 193 = .ok (.iload_n 3, 1) := by decide +kernel
theorem d_Lw_law_194 : decode code 194 = .ok (.iconst 2, 1) := by decide +kernel
theorem d_Lw_law_195 : decode code 195 = .ok (.iadd, 1) := by decide +kernel
theorem d_Lw_law_196 : decode code 196 = .ok (.iaload, 1) := by decide +kernel
theorem d_Lw_law_197 : decode code 197 = .ok (.invokevirtual 25, 3) := by decide +kernel
theorem d_Lw_law_200 : decode code 200 = .ok (.aload_n 2, 1) := by decide +kernel
theorem d_Lw_law_201 : decode code 201 = .ok (.aload_n 0, 1) := by decide +kernel
theorem d_Lw_law_202 : decode code 202 = .ok (.iload_n 3, 1) := by decide +kernel
theorem d_Lw_law_203 : decode code 203 = .ok (.iconst 1, 1) := by decide +kernel
theorem d_Lw_law_204 : decode code 204 = .ok (.iadd, 1) := by decide +kernel
theorem d_Lw_law_205 : decode code 205 = .ok (.iaload, 1) := by decide +kernel
theorem d_Lw_law_206 : decode code 206 = .ok (.aload_n 0, 1) := by decide +kernel
theorem d_Lw_law_207 : decode code 207 = .ok (.iload_n 3, 1) := by decide +kernel
theorem d_Lw_law_208 : decode code 208 = .ok (.iconst 2, 1) := by decide +kernel
theorem d_Lw_law_209 : decode code 209 = .ok (.iadd, 1) := by decide +kernel
theorem d_Lw_law_210 : decode code 210 = .ok (.iaload, 1) := by decide +kernel
theorem d_Lw_law_211 : decode code 211 = .ok (.invokevirtual 29, 3) := by decide +kernel
theorem d_Lw_law_214 : decode code 214 = .ok (.if_icmp .eq 287, 3) := by decide +kernel
theorem d_Lw_law_217 : decode code 217 = .ok (.iconst 0, 1) := by decide +kernel
theorem d_Lw_law_218 : decode code 218 = .ok (.ireturn, 1) := by decide +kernel
theorem d_Lw_law_219 : decode code 219 = .ok (.aload_n 1, 1) := by decide +kernel
theorem d_Lw_law_220 : decode code 220 = .ok (.invokevirtual 30, 3) := by decide +kernel
theorem d_Lw_law_223 : decode code 223 = .ok (.aload_n 2, 1) := by decide +kernel
theorem d_Lw_law_224 : decode code 224 = .ok (.invokevirtual 34, 3) := by decide +kernel
theorem d_Lw_law_227 : decode code 227 = .ok (.if_icmp .eq 274, 3) := by decide +kernel
theorem d_Lw_law_230 : decode code 230 = .ok (.iconst 0, 1) := by decide +kernel
theorem d_Lw_law_231 : decode code 231 = .ok (.ireturn, 1) := by decide +kernel
theorem d_Lw_law_232 : decode code 232 = .ok (.aload_n 1, 1) := by decide +kernel
theorem d_Lw_law_233 : decode code 233 = .ok (.invokevirtual 35, 3) := by decide +kernel
theorem d_Lw_law_236 : decode code 236 = .ok (.aload_n 2, 1) := by decide +kernel
theorem d_Lw_law_237 : decode code 237 = .ok (.invokevirtual 38, 3) := by decide +kernel
theorem d_Lw_law_240 : decode code 240 = .ok (.if_icmp .eq 261, 3) := by decide +kernel
theorem d_Lw_law_243 : decode code 243 = .ok (.iconst 0, 1) := by decide +kernel
theorem d_Lw_law_244 : decode code 244 = .ok (.ireturn, 1) := by decide +kernel
theorem d_Lw_law_245 : decode code 245 = .ok (.aload_n 1, 1) := by decide +kernel
theorem d_Lw_law_246 : decode code 246 = .ok (.invokevirtual 39, 3) := by decide +kernel
theorem d_Lw_law_249 : decode code 249 = .ok (.aload_n 2, 1) := by decide +kernel
theorem d_Lw_law_250 : decode code 250 = .ok (.invokevirtual 43, 3) := by decide +kernel
theorem d_Lw_law_253 : decode code 253 = .ok (.if_icmp .eq 248, 3) := by decide +kernel
theorem d_Lw_law_256 : decode code 256 = .ok (.iconst 0, 1) := by decide +kernel
theorem d_Lw_law_257 : decode code 257 = .ok (.ireturn, 1) := by decide +kernel
theorem d_Lw_law_258 : decode code 258 = .ok (.aload_n 1, 1) := by decide +kernel
theorem d_Lw_law_259 : decode code 259 = .ok (.aload_n 0, 1) := by decide +kernel
theorem d_Lw_law_260 : decode code 260 = .ok (.iload_n 3, 1) := by decide +kernel
theorem d_Lw_law_261 : decode code 261 = .ok (.iconst 1, 1) := by decide +kernel
theorem d_Lw_law_262 : decode code 262 = .ok (.iadd, 1) := by decide +kernel
theorem d_Lw_law_263 : decode code 263 = .ok (.iaload, 1) := by decide +kernel
theorem d_Lw_law_264 : decode code 264 = .ok (.aload_n 0, 1) := by decide +kernel
theorem d_Lw_law_265 : decode code 265 = .ok (.iload_n 3, 1) := by decide +kernel
theorem d_Lw_law_266 : decode code 266 = .ok (.iconst 2, 1) := by decide +kernel
theorem d_Lw_law_267 : decode code 267 = .ok (.iadd, 1) := by decide +kernel
theorem d_Lw_law_268 : decode code 268 = .ok (.iaload, 1) := by decide +kernel
theorem d_Lw_law_269 : decode code 269 = .ok (.ifCond .eq 7, 3) := by decide +kernel
theorem d_Lw_law_272 : decode code 272 = .ok (.iconst 1, 1) := by decide +kernel
theorem d_Lw_law_273 : decode code 273 = .ok (.goto 4, 3) := by decide +kernel
theorem d_Lw_law_276 : decode code 276 = .ok (.iconst 0, 1) := by decide +kernel
theorem d_Lw_law_277 : decode code 277 = .ok (.invokevirtual 44, 3) := by decide +kernel
theorem d_Lw_law_280 : decode code 280 = .ok (.aload_n 2, 1) := by decide +kernel
theorem d_Lw_law_281 : decode code 281 = .ok (.aload_n 0, 1) := by decide +kernel
theorem d_Lw_law_282 : decode code 282 = .ok (.iload_n 3, 1) := by decide +kernel
theorem d_Lw_law_283 : decode code 283 = .ok (.iconst 1, 1) := by decide +kernel
theorem d_Lw_law_284 : decode code 284 = .ok (.iadd, 1) := by decide +kernel
theorem d_Lw_law_285 : decode code 285 = .ok (.iaload, 1) := by decide +kernel
theorem d_Lw_law_286 : decode code 286 = .ok (.aload_n 0, 1) := by decide +kernel
theorem d_Lw_law_287 : decode code 287 = .ok (.iload_n 3, 1) := by decide +kernel
theorem d_Lw_law_288 : decode code 288 = .ok (.iconst 2, 1) := by decide +kernel
theorem d_Lw_law_289 : decode code 289 = .ok (.iadd, 1) := by decide +kernel
theorem d_Lw_law_290 : decode code 290 = .ok (.iaload, 1) := by decide +kernel
theorem d_Lw_law_291 : decode code 291 = .ok (.ifCond .eq 7, 3) := by decide +kernel
theorem d_Lw_law_294 : decode code 294 = .ok (.iconst 1, 1) := by decide +kernel
theorem d_Lw_law_295 : decode code 295 = .ok (.goto 4, 3) := by decide +kernel
theorem d_Lw_law_298 : decode code 298 = .ok (.iconst 0, 1) := by decide +kernel
theorem d_Lw_law_299 : decode code 299 = .ok (.invokevirtual 48, 3) := by decide +kernel
theorem d_Lw_law_302 : decode code 302 = .ok (.if_icmp .eq 199, 3) := by decide +kernel
theorem d_Lw_law_305 : decode code 305 = .ok (.iconst 0, 1) := by decide +kernel
theorem d_Lw_law_306 : decode code 306 = .ok (.ireturn, 1) := by decide +kernel
theorem d_Lw_law_307 : decode code 307 = .ok (.aload_n 1, 1) := by decide +kernel
theorem d_Lw_law_308 : decode code 308 = .ok (.aload_n 0, 1) := by decide +kernel
theorem d_Lw_law_309 : decode code 309 = .ok (.iload_n 3, 1) := by decide +kernel
theorem d_Lw_law_310 : decode code 310 = .ok (.iconst 1, 1) := by decide +kernel
theorem d_Lw_law_311 : decode code 311 = .ok (.iadd, 1) := by decide +kernel
theorem d_Lw_law_312 : decode code 312 = .ok (.iaload, 1) := by decide +kernel
theorem d_Lw_law_313 : decode code 313 = .ok (.aload_n 0, 1) := by decide +kernel
theorem d_Lw_law_314 : decode code 314 = .ok (.iload_n 3, 1) := by decide +kernel
theorem d_Lw_law_315 : decode code 315 = .ok (.iconst 2, 1) := by decide +kernel
theorem d_Lw_law_316 : decode code 316 = .ok (.iadd, 1) := by decide +kernel
theorem d_Lw_law_317 : decode code 317 = .ok (.iaload, 1) := by decide +kernel
theorem d_Lw_law_318 : decode code 318 = .ok (.ifCond .eq 7, 3) := by decide +kernel
theorem d_Lw_law_321 : decode code 321 = .ok (.iconst 1, 1) := by decide +kernel
theorem d_Lw_law_322 : decode code 322 = .ok (.goto 4, 3) := by decide +kernel
theorem d_Lw_law_325 : decode code 325 = .ok (.iconst 0, 1) := by decide +kernel
theorem d_Lw_law_326 : decode code 326 = .ok (.invokevirtual 49, 3) := by decide +kernel
theorem d_Lw_law_329 : decode code 329 = .ok (.aload_n 2, 1) := by decide +kernel
theorem d_Lw_law_330 : decode code 330 = .ok (.aload_n 0, 1) := by decide +kernel
theorem d_Lw_law_331 : decode code 331 = .ok (.iload_n 3, 1) := by decide +kernel
theorem d_Lw_law_332 : decode code 332 = .ok (.iconst 1, 1) := by decide +kernel
theorem d_Lw_law_333 : decode code 333 = .ok (.iadd, 1) := by decide +kernel
theorem d_Lw_law_334 : decode code 334 = .ok (.iaload, 1) := by decide +kernel
theorem d_Lw_law_335 : decode code 335 = .ok (.aload_n 0, 1) := by decide +kernel
theorem d_Lw_law_336 : decode code 336 = .ok (.iload_n 3, 1) := by decide +kernel
theorem d_Lw_law_337 : decode code 337 = .ok (.iconst 2, 1) := by decide +kernel
theorem d_Lw_law_338 : decode code 338 = .ok (.iadd, 1) := by decide +kernel
theorem d_Lw_law_339 : decode code 339 = .ok (.iaload, 1) := by decide +kernel
theorem d_Lw_law_340 : decode code 340 = .ok (.ifCond .eq 7, 3) := by decide +kernel
theorem d_Lw_law_343 : decode code 343 = .ok (.iconst 1, 1) := by decide +kernel
theorem d_Lw_law_344 : decode code 344 = .ok (.goto 4, 3) := by decide +kernel
theorem d_Lw_law_347 : decode code 347 = .ok (.iconst 0, 1) := by decide +kernel
theorem d_Lw_law_348 : decode code 348 = .ok (.invokevirtual 52, 3) := by decide +kernel
theorem d_Lw_law_351 : decode code 351 = .ok (.if_icmp .eq 150, 3) := by decide +kernel
theorem d_Lw_law_354 : decode code 354 = .ok (.iconst 0, 1) := by decide +kernel
theorem d_Lw_law_355 : decode code 355 = .ok (.ireturn, 1) := by decide +kernel
theorem d_Lw_law_356 : decode code 356 = .ok (.aload_n 1, 1) := by decide +kernel
theorem d_Lw_law_357 : decode code 357 = .ok (.aload_n 0, 1) := by decide +kernel
theorem d_Lw_law_358 : decode code 358 = .ok (.iload_n 3, 1) := by decide +kernel
theorem d_Lw_law_359 : decode code 359 = .ok (.iconst 1, 1) := by decide +kernel
theorem d_Lw_law_360 : decode code 360 = .ok (.iadd, 1) := by decide +kernel
theorem d_Lw_law_361 : decode code 361 = .ok (.iaload, 1) := by decide +kernel
theorem d_Lw_law_362 : decode code 362 = .ok (.aload_n 0, 1) := by decide +kernel
theorem d_Lw_law_363 : decode code 363 = .ok (.iload_n 3, 1) := by decide +kernel
theorem d_Lw_law_364 : decode code 364 = .ok (.iconst 2, 1) := by decide +kernel
theorem d_Lw_law_365 : decode code 365 = .ok (.iadd, 1) := by decide +kernel
theorem d_Lw_law_366 : decode code 366 = .ok (.iaload, 1) := by decide +kernel
theorem d_Lw_law_367 : decode code 367 = .ok (.invokevirtual 53, 3) := by decide +kernel
theorem d_Lw_law_370 : decode code 370 = .ok (.aload_n 2, 1) := by decide +kernel
theorem d_Lw_law_371 : decode code 371 = .ok (.aload_n 0, 1) := by decide +kernel
theorem d_Lw_law_372 : decode code 372 = .ok (.iload_n 3, 1) := by decide +kernel
theorem d_Lw_law_373 : decode code 373 = .ok (.iconst 1, 1) := by decide +kernel
theorem d_Lw_law_374 : decode code 374 = .ok (.iadd, 1) := by decide +kernel
theorem d_Lw_law_375 : decode code 375 = .ok (.iaload, 1) := by decide +kernel
theorem d_Lw_law_376 : decode code 376 = .ok (.aload_n 0, 1) := by decide +kernel
theorem d_Lw_law_377 : decode code 377 = .ok (.iload_n 3, 1) := by decide +kernel
theorem d_Lw_law_378 : decode code 378 = .ok (.iconst 2, 1) := by decide +kernel
theorem d_Lw_law_379 : decode code 379 = .ok (.iadd, 1) := by decide +kernel
theorem d_Lw_law_380 : decode code 380 = .ok (.iaload, 1) := by decide +kernel
theorem d_Lw_law_381 : decode code 381 = .ok (.invokevirtual 57, 3) := by decide +kernel
theorem d_Lw_law_384 : decode code 384 = .ok (.if_icmp .eq 117, 3) := by decide +kernel
theorem d_Lw_law_387 : decode code 387 = .ok (.iconst 0, 1) := by decide +kernel
theorem d_Lw_law_388 : decode code 388 = .ok (.ireturn, 1) := by decide +kernel
theorem d_Lw_law_389 : decode code 389 = .ok (.aload_n 1, 1) := by decide +kernel
theorem d_Lw_law_390 : decode code 390 = .ok (.aload_n 0, 1) := by decide +kernel
theorem d_Lw_law_391 : decode code 391 = .ok (.iload_n 3, 1) := by decide +kernel
theorem d_Lw_law_392 : decode code 392 = .ok (.iconst 1, 1) := by decide +kernel
theorem d_Lw_law_393 : decode code 393 = .ok (.iadd, 1) := by decide +kernel
theorem d_Lw_law_394 : decode code 394 = .ok (.iaload, 1) := by decide +kernel
theorem d_Lw_law_395 : decode code 395 = .ok (.aload_n 0, 1) := by decide +kernel
theorem d_Lw_law_396 : decode code 396 = .ok (.iload_n 3, 1) := by decide +kernel
theorem d_Lw_law_397 : decode code 397 = .ok (.iconst 2, 1) := by decide +kernel
theorem d_Lw_law_398 : decode code 398 = .ok (.iadd, 1) := by decide +kernel
theorem d_Lw_law_399 : decode code 399 = .ok (.iaload, 1) := by decide +kernel
theorem d_Lw_law_400 : decode code 400 = .ok (.invokevirtual 58, 3) := by decide +kernel
theorem d_Lw_law_403 : decode code 403 = .ok (.aload_n 2, 1) := by decide +kernel
theorem d_Lw_law_404 : decode code 404 = .ok (.aload_n 0, 1) := by decide +kernel
theorem d_Lw_law_405 : decode code 405 = .ok (.iload_n 3, 1) := by decide +kernel
theorem d_Lw_law_406 : decode code 406 = .ok (.iconst 1, 1) := by decide +kernel
theorem d_Lw_law_407 : decode code 407 = .ok (.iadd, 1) := by decide +kernel
theorem d_Lw_law_408 : decode code 408 = .ok (.iaload, 1) := by decide +kernel
theorem d_Lw_law_409 : decode code 409 = .ok (.aload_n 0, 1) := by decide +kernel
theorem d_Lw_law_410 : decode code 410 = .ok (.iload_n 3, 1) := by decide +kernel
theorem d_Lw_law_411 : decode code 411 = .ok (.iconst 2, 1) := by decide +kernel
theorem d_Lw_law_412 : decode code 412 = .ok (.iadd, 1) := by decide +kernel
theorem d_Lw_law_413 : decode code 413 = .ok (.iaload, 1) := by decide +kernel
theorem d_Lw_law_414 : decode code 414 = .ok (.invokevirtual 61, 3) := by decide +kernel
theorem d_Lw_law_417 : decode code 417 = .ok (.if_icmp .eq 84, 3) := by decide +kernel
theorem d_Lw_law_420 : decode code 420 = .ok (.iconst 0, 1) := by decide +kernel
theorem d_Lw_law_421 : decode code 421 = .ok (.ireturn, 1) := by decide +kernel
theorem d_Lw_law_422 : decode code 422 = .ok (.aload_n 1, 1) := by decide +kernel
theorem d_Lw_law_423 : decode code 423 = .ok (.aload_n 0, 1) := by decide +kernel
theorem d_Lw_law_424 : decode code 424 = .ok (.iload_n 3, 1) := by decide +kernel
theorem d_Lw_law_425 : decode code 425 = .ok (.iconst 1, 1) := by decide +kernel
theorem d_Lw_law_426 : decode code 426 = .ok (.iadd, 1) := by decide +kernel
theorem d_Lw_law_427 : decode code 427 = .ok (.iaload, 1) := by decide +kernel
theorem d_Lw_law_428 : decode code 428 = .ok (.aload_n 0, 1) := by decide +kernel
theorem d_Lw_law_429 : decode code 429 = .ok (.iload_n 3, 1) := by decide +kernel
theorem d_Lw_law_430 : decode code 430 = .ok (.iconst 2, 1) := by decide +kernel
theorem d_Lw_law_431 : decode code 431 = .ok (.iadd, 1) := by decide +kernel
theorem d_Lw_law_432 : decode code 432 = .ok (.iaload, 1) := by decide +kernel
theorem d_Lw_law_433 : decode code 433 = .ok (.invokevirtual 62, 3) := by decide +kernel
theorem d_Lw_law_436 : decode code 436 = .ok (.aload_n 2, 1) := by decide +kernel
theorem d_Lw_law_437 : decode code 437 = .ok (.aload_n 0, 1) := by decide +kernel
theorem d_Lw_law_438 : decode code 438 = .ok (.iload_n 3, 1) := by decide +kernel
theorem d_Lw_law_439 : decode code 439 = .ok (.iconst 1, 1) := by decide +kernel
theorem d_Lw_law_440 : decode code 440 = .ok (.iadd, 1) := by decide +kernel
theorem d_Lw_law_441 : decode code 441 = .ok (.iaload, 1) := by decide +kernel
theorem d_Lw_law_442 : decode code 442 = .ok (.aload_n 0, 1) := by decide +kernel
theorem d_Lw_law_443 : decode code 443 = .ok (.iload_n 3, 1) := by decide +kernel
theorem d_Lw_law_444 : decode code 444 = .ok (.iconst 2, 1) := by decide +kernel
theorem d_Lw_law_445 : decode code 445 = .ok (.iadd, 1) := by decide +kernel
theorem d_Lw_law_446 : decode code 446 = .ok (.iaload, 1) := by decide +kernel
theorem d_Lw_law_447 : decode code 447 = .ok (.invokevirtual 65, 3) := by decide +kernel
theorem d_Lw_law_450 : decode code 450 = .ok (.if_icmp .eq 51, 3) := by decide +kernel
theorem d_Lw_law_453 : decode code 453 = .ok (.iconst 0, 1) := by decide +kernel
theorem d_Lw_law_454 : decode code 454 = .ok (.ireturn, 1) := by decide +kernel
theorem d_Lw_law_455 : decode code 455 = .ok (.aload_n 1, 1) := by decide +kernel
theorem d_Lw_law_456 : decode code 456 = .ok (.aload_n 0, 1) := by decide +kernel
theorem d_Lw_law_457 : decode code 457 = .ok (.iload_n 3, 1) := by decide +kernel
theorem d_Lw_law_458 : decode code 458 = .ok (.iconst 1, 1) := by decide +kernel
theorem d_Lw_law_459 : decode code 459 = .ok (.iadd, 1) := by decide +kernel
theorem d_Lw_law_460 : decode code 460 = .ok (.iaload, 1) := by decide +kernel
theorem d_Lw_law_461 : decode code 461 = .ok (.invokevirtual 66, 3) := by decide +kernel
theorem d_Lw_law_464 : decode code 464 = .ok (.aload_n 2, 1) := by decide +kernel
theorem d_Lw_law_465 : decode code 465 = .ok (.aload_n 0, 1) := by decide +kernel
theorem d_Lw_law_466 : decode code 466 = .ok (.iload_n 3, 1) := by decide +kernel
theorem d_Lw_law_467 : decode code 467 = .ok (.iconst 1, 1) := by decide +kernel
theorem d_Lw_law_468 : decode code 468 = .ok (.iadd, 1) := by decide +kernel
theorem d_Lw_law_469 : decode code 469 = .ok (.iaload, 1) := by decide +kernel
theorem d_Lw_law_470 : decode code 470 = .ok (.invokevirtual 70, 3) := by decide +kernel
theorem d_Lw_law_473 : decode code 473 = .ok (.if_icmp .eq 28, 3) := by decide +kernel
theorem d_Lw_law_476 : decode code 476 = .ok (.iconst 0, 1) := by decide +kernel
theorem d_Lw_law_477 : decode code 477 = .ok (.ireturn, 1) := by decide +kernel
theorem d_Lw_law_478 : decode code 478 = .ok (.aload_n 1, 1) := by decide +kernel
theorem d_Lw_law_479 : decode code 479 = .ok (.aload_n 0, 1) := by decide +kernel
theorem d_Lw_law_480 : decode code 480 = .ok (.iload_n 3, 1) := by decide +kernel
theorem d_Lw_law_481 : decode code 481 = .ok (.iconst 1, 1) := by decide +kernel
theorem d_Lw_law_482 : decode code 482 = .ok (.iadd, 1) := by decide +kernel
theorem d_Lw_law_483 : decode code 483 = .ok (.iaload, 1) := by decide +kernel
theorem d_Lw_law_484 : decode code 484 = .ok (.invokevirtual 71, 3) := by decide +kernel
theorem d_Lw_law_487 : decode code 487 = .ok (.aload_n 2, 1) := by decide +kernel
theorem d_Lw_law_488 : decode code 488 = .ok (.aload_n 0, 1) := by decide +kernel
theorem d_Lw_law_489 : decode code 489 = .ok (.iload_n 3, 1) := by decide +kernel
theorem d_Lw_law_490 : decode code 490 = .ok (.iconst 1, 1) := by decide +kernel
theorem d_Lw_law_491 : decode code 491 = .ok (.iadd, 1) := by decide +kernel
theorem d_Lw_law_492 : decode code 492 = .ok (.iaload, 1) := by decide +kernel
theorem d_Lw_law_493 : decode code 493 = .ok (.invokevirtual 74, 3) := by decide +kernel
theorem d_Lw_law_496 : decode code 496 = .ok (.if_icmp .eq 5, 3) := by decide +kernel
theorem d_Lw_law_499 : decode code 499 = .ok (.iconst 0, 1) := by decide +kernel
theorem d_Lw_law_500 : decode code 500 = .ok (.ireturn, 1) := by decide +kernel
theorem d_Lw_law_501 : decode code 501 = .ok (.iinc 3 4, 3) := by decide +kernel
theorem d_Lw_law_504 : decode code 504 = .ok (.goto (-486), 3) := by decide +kernel
theorem d_Lw_law_507 : decode code 507 = .ok (.iconst 1, 1) := by decide +kernel
theorem d_Lw_law_508 : decode code 508 = .ok (.ireturn, 1) := by decide +kernel
theorem d_Jo_init_0 : decode b_Jo_init 0 = .ok (.return_, 1) := by decide +kernel
theorem d_Jl_signum_0 : decode b_Jl_signum 0 = .ok (.lload_n 0, 1) := by decide +kernel
theorem d_Jl_signum_1 : decode b_Jl_signum 1 = .ok (.bipush 63, 2) := by decide +kernel
theorem d_Jl_signum_3 : decode b_Jl_signum 3 = .ok (.lshr, 1) := by decide +kernel
theorem d_Jl_signum_4 : decode b_Jl_signum 4 = .ok (.lload_n 0, 1) := by decide +kernel
theorem d_Jl_signum_5 : decode b_Jl_signum 5 = .ok (.lneg, 1) := by decide +kernel
theorem d_Jl_signum_6 : decode b_Jl_signum 6 = .ok (.bipush 63, 2) := by decide +kernel
theorem d_Jl_signum_8 : decode b_Jl_signum 8 = .ok (.lushr, 1) := by decide +kernel
theorem d_Jl_signum_9 : decode b_Jl_signum 9 = .ok (.lor, 1) := by decide +kernel
theorem d_Jl_signum_10 : decode b_Jl_signum 10 = .ok (.l2i, 1) := by decide +kernel
theorem d_Jl_signum_11 : decode b_Jl_signum 11 = .ok (.ireturn, 1) := by decide +kernel
theorem d_Jm_max_0 : decode b_Jm_max 0 = .ok (.iload_n 0, 1) := by decide +kernel
theorem d_Jm_max_1 : decode b_Jm_max 1 = .ok (.iload_n 1, 1) := by decide +kernel
theorem d_Jm_max_2 : decode b_Jm_max 2 = .ok (.if_icmp .lt 7, 3) := by decide +kernel
theorem d_Jm_max_5 : decode b_Jm_max 5 = .ok (.iload_n 0, 1) := by decide +kernel
theorem d_Jm_max_6 : decode b_Jm_max 6 = .ok (.goto 4, 3) := by decide +kernel
theorem d_Jm_max_9 : decode b_Jm_max 9 = .ok (.iload_n 1, 1) := by decide +kernel
theorem d_Jm_max_10 : decode b_Jm_max 10 = .ok (.ireturn, 1) := by decide +kernel
theorem d_Jm_min_0 : decode b_Jm_min 0 = .ok (.iload_n 0, 1) := by decide +kernel
theorem d_Jm_min_1 : decode b_Jm_min 1 = .ok (.iload_n 1, 1) := by decide +kernel
theorem d_Jm_min_2 : decode b_Jm_min 2 = .ok (.if_icmp .gt 7, 3) := by decide +kernel
theorem d_Jm_min_5 : decode b_Jm_min 5 = .ok (.iload_n 0, 1) := by decide +kernel
theorem d_Jm_min_6 : decode b_Jm_min 6 = .ok (.goto 4, 3) := by decide +kernel
theorem d_Jm_min_9 : decode b_Jm_min 9 = .ok (.iload_n 1, 1) := by decide +kernel
theorem d_Jm_min_10 : decode b_Jm_min 10 = .ok (.ireturn, 1) := by decide +kernel
