theorem d_Rd_passWalls_0 : decode b_Rd_passWalls 0 = .ok (.aload_n 0, 1) := by decide +kernel
theorem d_Rd_passWalls_1 : decode b_Rd_passWalls 1 = .ok (.aload_n 0, 1) := by decide +kernel
theorem d_Rd_passWalls_2 : decode b_Rd_passWalls 2 = .ok (.getfield 39, 3) := by decide +kernel
theorem d_Rd_passWalls_5 : decode b_Rd_passWalls 5 = .ok (.putfield 103, 3) := by decide +kernel
theorem d_Rd_passWalls_8 : decode b_Rd_passWalls 8 = .ok (.iconst 0, 1) := by decide +kernel
theorem d_Rd_passWalls_9 : decode b_Rd_passWalls 9 = .ok (.istore_n 1, 1) := by decide +kernel
theorem d_Rd_passWalls_10 : decode b_Rd_passWalls 10 = .ok (.iload_n 1, 1) := by decide +kernel
theorem d_Rd_passWalls_11 : decode b_Rd_passWalls 11 = .ok (.aload_n 0, 1) := by decide +kernel
theorem d_Rd_passWalls_12 : decode b_Rd_passWalls 12 = .ok (.getfield 86, 3) := by decide +kernel
theorem d_Rd_passWalls_15 : decode b_Rd_passWalls 15 = .ok (.if_icmp .ge 121, 3) := by decide +kernel
theorem d_Rd_passWalls_18 : decode b_Rd_passWalls 18 = .ok (.iload_n 1, 1) := by decide +kernel
theorem d_Rd_passWalls_19 : decode b_Rd_passWalls 19 = .ok (.aload_n 0, 1) := by decide +kernel
theorem d_Rd_passWalls_20 : decode b_Rd_passWalls 20 = .ok (.getfield 27, 3) := by decide +kernel
theorem d_Rd_passWalls_23 : decode b_Rd_passWalls 23 = .ok (.arraylength, 1) := by decide +kernel
theorem d_Rd_passWalls_24 : decode b_Rd_passWalls 24 = .ok (.if_icmp .ge 112, 3) := by decide +kernel
theorem d_Rd_passWalls_27 : decode b_Rd_passWalls 27 = .ok (.aload_n 0, 1) := by decide +kernel
theorem d_Rd_passWalls_28 : decode b_Rd_passWalls 28 = .ok (.getfield 42, 3) := by decide +kernel
theorem d_Rd_passWalls_31 : decode b_Rd_passWalls 31 = .ok (.ifCond .ne 105, 3) := by decide +kernel
theorem d_Rd_passWalls_34 : decode b_Rd_passWalls 34 = .ok (.aload_n 0, 1) := by decide +kernel
theorem d_Rd_passWalls_35 : decode b_Rd_passWalls 35 = .ok (.aload_n 0, 1) := by decide +kernel
theorem d_Rd_passWalls_36 : decode b_Rd_passWalls 36 = .ok (.getfield 27, 3) := by decide +kernel
theorem d_Rd_passWalls_39 : decode b_Rd_passWalls 39 = .ok (.iload_n 1, 1) := by decide +kernel
theorem d_Rd_passWalls_40 : decode b_Rd_passWalls 40 = .ok (.aaload, 1) := by decide +kernel
theorem d_Rd_passWalls_41 : decode b_Rd_passWalls 41 = .ok (.invokevirtual 106, 3) := by decide +kernel
theorem d_Rd_passWalls_44 : decode b_Rd_passWalls 44 = .ok (.aload_n 0, 1) := by decide +kernel
theorem d_Rd_passWalls_45 : decode b_Rd_passWalls 45 = .ok (.iconst 0, 1) := by decide +kernel
theorem d_Rd_passWalls_46 : decode b_Rd_passWalls 46 = .ok (.aload_n 0, 1) := by decide +kernel
theorem d_Rd_passWalls_47 : decode b_Rd_passWalls 47 = .ok (.getfield 83, 3) := by decide +kernel
theorem d_Rd_passWalls_50 : decode b_Rd_passWalls 50 = .ok (.iconst 1, 1) := by decide +kernel
theorem d_Rd_passWalls_51 : decode b_Rd_passWalls 51 = .ok (.isub, 1) := by decide +kernel
theorem d_Rd_passWalls_52 : decode b_Rd_passWalls 52 = .ok (.invokevirtual 73, 3) := by decide +kernel
theorem d_Rd_passWalls_55 : decode b_Rd_passWalls 55 = .ok (.pop, 1) := by decide +kernel
theorem d_Rd_passWalls_56 : decode b_Rd_passWalls 56 = .ok (.aload_n 0, 1) := by decide +kernel
theorem d_Rd_passWalls_57 : decode b_Rd_passWalls 57 = .ok (.aload_n 0, 1) := by decide +kernel
theorem d_Rd_passWalls_58 : decode b_Rd_passWalls 58 = .ok (.getfield 83, 3) := by decide +kernel
theorem d_Rd_passWalls_61 : decode b_Rd_passWalls 61 = .ok (.iconst 1, 1) := by decide +kernel
theorem d_Rd_passWalls_62 : decode b_Rd_passWalls 62 = .ok (.isub, 1) := by decide +kernel
theorem d_Rd_passWalls_63 : decode b_Rd_passWalls 63 = .ok (.invokevirtual 99, 3) := by decide +kernel
theorem d_Rd_passWalls_66 : decode b_Rd_passWalls 66 = .ok (.istore_n 2, 1) := by decide +kernel
theorem d_Rd_passWalls_67 : decode b_Rd_passWalls 67 = .ok (.aload_n 0, 1) := by decide +kernel
theorem d_Rd_passWalls_68 : decode b_Rd_passWalls 68 = .ok (.aload_n 0, 1) := by decide +kernel
theorem d_Rd_passWalls_69 : decode b_Rd_passWalls 69 = .ok (.getfield 80, 3) := by decide +kernel
theorem d_Rd_passWalls_72 : decode b_Rd_passWalls 72 = .ok (.iconst 1, 1) := by decide +kernel
theorem d_Rd_passWalls_73 : decode b_Rd_passWalls 73 = .ok (.isub, 1) := by decide +kernel
theorem d_Rd_passWalls_74 : decode b_Rd_passWalls 74 = .ok (.invokevirtual 110, 3) := by decide +kernel
theorem d_Rd_passWalls_77 : decode b_Rd_passWalls 77 = .ok (.aload_n 0, 1) := by decide +kernel
theorem d_Rd_passWalls_78 : decode b_Rd_passWalls 78 = .ok (.iload_n 2, 1) := by decide +kernel
theorem d_Rd_passWalls_79 : decode b_Rd_passWalls 79 = .ok (.sipush 255, 3) := by decide +kernel
theorem d_Rd_passWalls_82 : decode b_Rd_passWalls 82 = .ok (.if_icmp .ne 7, 3) := by decide +kernel
theorem d_Rd_passWalls_85 : decode b_Rd_passWalls 85 = .ok (.iconst (-1), 1) := by decide +kernel
theorem d_Rd_passWalls_86 : decode b_Rd_passWalls 86 = .ok (.goto 9, 3) := by decide +kernel
theorem d_Rd_passWalls_89 : decode b_Rd_passWalls 89 = .ok (.aload_n 0, 1) := by decide +kernel
theorem d_Rd_passWalls_90 : decode b_Rd_passWalls 90 = .ok (.getfield 80, 3) := by decide +kernel
theorem d_Rd_passWalls_93 : decode b_Rd_passWalls 93 = .ok (.iconst 1, 1) := by decide +kernel
theorem d_Rd_passWalls_94 : decode b_Rd_passWalls 94 = .ok (.isub, 1) := by decide +kernel
theorem d_Rd_passWalls_95 : decode b_Rd_passWalls 95 = .ok (.invokevirtual 110, 3) := by decide +kernel
theorem d_Rd_passWalls_98 : decode b_Rd_passWalls 98 = .ok (.aload_n 0, 1) := by decide +kernel
theorem d_Rd_passWalls_99 : decode b_Rd_passWalls 99 = .ok (.iconst 0, 1) := by decide +kernel
theorem d_Rd_passWalls_100 : decode b_Rd_passWalls 100 = .ok (.sipush 255, 3) := by decide +kernel
theorem d_Rd_passWalls_103 : decode b_Rd_passWalls 103 = .ok (.invokevirtual 73, 3) := by decide +kernel
theorem d_Rd_passWalls_106 : decode b_Rd_passWalls 106 = .ok (.pop, 1) := by decide +kernel
theorem d_Rd_passWalls_107 : decode b_Rd_passWalls 107 = .ok (.aload_n 0, 1) := by decide +kernel
theorem d_Rd_passWalls_108 : decode b_Rd_passWalls 108 = .ok (.iconst 0, 1) := by decide +kernel
theorem d_Rd_passWalls_109 : decode b_Rd_passWalls 109 = .ok (.iconst 3, 1) := by decide +kernel
theorem d_Rd_passWalls_110 : decode b_Rd_passWalls 110 = .ok (.invokevirtual 73, 3) := by decide +kernel
theorem d_Rd_passWalls_113 : decode b_Rd_passWalls 113 = .ok (.pop, 1) := by decide +kernel
theorem d_Rd_passWalls_114 : decode b_Rd_passWalls 114 = .ok (.aload_n 0, 1) := by decide +kernel
theorem d_Rd_passWalls_115 : decode b_Rd_passWalls 115 = .ok (.iconst 0, 1) := by decide +kernel
theorem d_Rd_passWalls_116 : decode b_Rd_passWalls 116 = .ok (.iconst 5, 1) := by decide +kernel
theorem d_Rd_passWalls_117 : decode b_Rd_passWalls 117 = .ok (.invokevirtual 73, 3) := by decide +kernel
theorem d_Rd_passWalls_120 : decode b_Rd_passWalls 120 = .ok (.pop, 1) := by decide +kernel
theorem d_Rd_passWalls_121 : decode b_Rd_passWalls 121 = .ok (.aload_n 0, 1) := by decide +kernel
theorem d_Rd_passWalls_122 : decode b_Rd_passWalls 122 = .ok (.iconst 0, 1) := by decide +kernel
theorem d_Rd_passWalls_123 : decode b_Rd_passWalls 123 = .ok (.sipush 255, 3) := by decide +kernel
theorem d_Rd_passWalls_126 : decode b_Rd_passWalls 126 = .ok (.invokevirtual 73, 3) := by decide +kernel
theorem d_Rd_passWalls_129 : decode b_Rd_passWalls 129 = .ok (.pop, 1) := by decide +kernel
theorem d_Rd_passWalls_130 : decode b_Rd_passWalls 130 = .ok (.iinc 1 1, 3) := by decide +kernel
theorem d_Rd_passWalls_133 : decode b_Rd_passWalls 133 = .ok (.goto (-123), 3) := by decide +kernel
theorem d_Rd_passWalls_136 : decode b_Rd_passWalls 136 = .ok (.return_, 1) := by decide +kernel
theorem d_Rd_passWallEnds_0 : decode b_Rd_passWallEnds 0 = .ok (.aload_n 0, 1) := by decide +kernel
theorem d_Rd_passWallEnds_1 : decode b_Rd_passWallEnds 1 = .ok (.iconst 0, 1) := by decide +kernel
theorem d_Rd_passWallEnds_2 : decode b_Rd_passWallEnds 2 = .ok (.aload_n 0, 1) := by decide +kernel
theorem d_Rd_passWallEnds_3 : decode b_Rd_passWallEnds 3 = .ok (.getfield 77, 3) := by decide +kernel
theorem d_Rd_passWallEnds_6 : decode b_Rd_passWallEnds 6 = .ok (.iconst 1, 1) := by decide +kernel
theorem d_Rd_passWallEnds_7 : decode b_Rd_passWallEnds 7 = .ok (.isub, 1) := by decide +kernel
theorem d_Rd_passWallEnds_8 : decode b_Rd_passWallEnds 8 = .ok (.invokevirtual 73, 3) := by decide +kernel
theorem d_Rd_passWallEnds_11 : decode b_Rd_passWallEnds 11 = .ok (.istore_n 2, 1) := by decide +kernel
theorem d_Rd_passWallEnds_12 : decode b_Rd_passWallEnds 12 = .ok (.aload_n 0, 1) := by decide +kernel
theorem d_Rd_passWallEnds_13 : decode b_Rd_passWallEnds 13 = .ok (.getfield 39, 3) := by decide +kernel
theorem d_Rd_passWallEnds_16 : decode b_Rd_passWallEnds 16 = .ok (.istore_n 3, 1) := by decide +kernel
theorem d_Rd_passWallEnds_17 : decode b_Rd_passWallEnds 17 = .ok (.aload_n 0, 1) := by decide +kernel
theorem d_Rd_passWallEnds_18 : decode b_Rd_passWallEnds 18 = .ok (.iconst 0, 1) := by decide +kernel
theorem d_Rd_passWallEnds_19 : decode b_Rd_passWallEnds 19 = .ok (.aload_n 0, 1) := by decide +kernel
theorem d_Rd_passWallEnds_20 : decode b_Rd_passWallEnds 20 = .ok (.getfield 77, 3) := by decide +kernel
theorem d_Rd_passWallEnds_23 : decode b_Rd_passWallEnds 23 = .ok (.iconst 1, 1) := by decide +kernel
theorem d_Rd_passWallEnds_24 : decode b_Rd_passWallEnds 24 = .ok (.isub, 1) := by decide +kernel
theorem d_Rd_passWallEnds_25 : decode b_Rd_passWallEnds 25 = .ok (.invokevirtual 73, 3) := by decide +kernel
theorem d_Rd_passWallEnds_28 : decode b_Rd_passWallEnds 28 = .ok (.istore 4, 2) := by decide +kernel
theorem d_Rd_passWallEnds_30 : decode b_Rd_passWallEnds 30 = .ok (.iload_n 2, 1) := by decide +kernel
theorem d_Rd_passWallEnds_31 : decode b_Rd_passWallEnds 31 = .ok (.iload 4, 2) := by decide +kernel
theorem d_Rd_passWallEnds_33 : decode b_Rd_passWallEnds 33 = .ok (.if_icmp .ne 9, 3) := by decide +kernel
theorem d_Rd_passWallEnds_36 : decode b_Rd_passWallEnds 36 = .ok (.aload_n 0, 1) := by decide +kernel
theorem d_Rd_passWallEnds_37 : decode b_Rd_passWallEnds 37 = .ok (.iconst 3, 1) := by decide +kernel
theorem d_Rd_passWallEnds_38 : decode b_Rd_passWallEnds 38 = .ok (.iload_n 3, 1) := by decide +kernel
theorem d_Rd_passWallEnds_39 : decode b_Rd_passWallEnds 39 = .ok (.invokevirtual 96, 3) := by decide +kernel
theorem d_Rd_passWallEnds_42 : decode b_Rd_passWallEnds 42 = .ok (.iload_n 2, 1) := by decide +kernel
theorem d_Rd_passWallEnds_43 : decode b_Rd_passWallEnds 43 = .ok (.aload_n 0, 1) := by decide +kernel
theorem d_Rd_passWallEnds_44 : decode b_Rd_passWallEnds 44 = .ok (.getfield 18, 3) := by decide +kernel
theorem d_Rd_passWallEnds_47 : decode b_Rd_passWallEnds 47 = .ok (.arraylength, 1) := by decide +kernel
theorem d_Rd_passWallEnds_48 : decode b_Rd_passWallEnds 48 = .ok (.if_icmp .ge 43, 3) := by decide +kernel
theorem d_Rd_passWallEnds_51 : decode b_Rd_passWallEnds 51 = .ok (.iload 4, 2) := by decide +kernel
theorem d_Rd_passWallEnds_53 : decode b_Rd_passWallEnds 53 = .ok (.aload_n 0, 1) := by decide +kernel
theorem d_Rd_passWallEnds_54 : decode b_Rd_passWallEnds 54 = .ok (.getfield 18, 3) := by decide +kernel
theorem d_Rd_passWallEnds_57 : decode b_Rd_passWallEnds 57 = .ok (.arraylength, 1) := by decide +kernel
theorem d_Rd_passWallEnds_58 : decode b_Rd_passWallEnds 58 = .ok (.if_icmp .ge 33, 3) := by decide +kernel
theorem d_Rd_passWallEnds_61 : decode b_Rd_passWallEnds 61 = .ok (.aload_n 1, 1) := by decide +kernel
theorem d_Rd_passWallEnds_62 : decode b_Rd_passWallEnds 62 = .ok (.aload_n 0, 1) := by decide +kernel
theorem d_Rd_passWallEnds_63 : decode b_Rd_passWallEnds 63 = .ok (.getfield 18, 3) := by decide +kernel
theorem d_Rd_passWallEnds_66 : decode b_Rd_passWallEnds 66 = .ok (.iload_n 2, 1) := by decide +kernel
theorem d_Rd_passWallEnds_67 : decode b_Rd_passWallEnds 67 = .ok (.iaload, 1) := by decide +kernel
theorem d_Rd_passWallEnds_68 : decode b_Rd_passWallEnds 68 = .ok (.aload_n 0, 1) := by decide +kernel
theorem d_Rd_passWallEnds_69 : decode b_Rd_passWallEnds 69 = .ok (.getfield 22, 3) := by decide +kernel
theorem d_Rd_passWallEnds_72 : decode b_Rd_passWallEnds 72 = .ok (.iload_n 2, 1) := by decide +kernel
theorem d_Rd_passWallEnds_73 : decode b_Rd_passWallEnds 73 = .ok (.iaload, 1) := by decide +kernel
theorem d_Rd_passWallEnds_74 : decode b_Rd_passWallEnds 74 = .ok (.aload_n 0, 1) := by decide +kernel
theorem d_Rd_passWallEnds_75 : decode b_Rd_passWallEnds 75 = .ok (.getfield 18, 3) := by decide +kernel
theorem d_Rd_passWallEnds_78 : decode b_Rd_passWallEnds 78 = .ok (.iload 4, 2) := by decide +kernel
theorem d_Rd_passWallEnds_80 : decode b_Rd_passWallEnds 80 = .ok (.iaload, 1) := by decide +kernel
theorem d_Rd_passWallEnds_81 : decode b_Rd_passWallEnds 81 = .ok (.aload_n 0, 1) := by decide +kernel
theorem d_Rd_passWallEnds_82 : decode b_Rd_passWallEnds 82 = .ok (.getfield 22, 3) := by decide +kernel
theorem d_Rd_passWallEnds_85 : decode b_Rd_passWallEnds 85 = .ok (.iload 4, 2) := by decide +kernel
theorem d_Rd_passWallEnds_87 : decode b_Rd_passWallEnds 87 = .ok (.iaload, 1) := by decide +kernel
theorem d_Rd_passWallEnds_88 : decode b_Rd_passWallEnds 88 = .ok (.invokevirtual 114, 3) := by decide +kernel
theorem d_Rd_passWallEnds_91 : decode b_Rd_passWallEnds 91 = .ok (.return_, 1) := by decide +kernel
theorem d_Rd_passWallTextures_0 : decode b_Rd_passWallTextures 0 = .ok (.iconst 0, 1) := by decide +kernel
theorem d_Rd_passWallTextures_1 : decode b_Rd_passWallTextures 1 = .ok (.istore_n 2, 1) := by decide +kernel
theorem d_Rd_passWallTextures_2 : decode b_Rd_passWallTextures 2 = .ok (.iload_n 2, 1) := by decide +kernel
theorem d_Rd_passWallTextures_3 : decode b_Rd_passWallTextures 3 = .ok (.iconst 3, 1) := by decide +kernel
theorem d_Rd_passWallTextures_4 : decode b_Rd_passWallTextures 4 = .ok (.if_icmp .ge 15, 3) := by decide +kernel
theorem d_Rd_passWallTextures_7 : decode b_Rd_passWallTextures 7 = .ok (.aload_n 0, 1) := by decide +kernel
theorem d_Rd_passWallTextures_8 : decode b_Rd_passWallTextures 8 = .ok (.iload_n 1, 1) := by decide +kernel
theorem d_Rd_passWallTextures_9 : decode b_Rd_passWallTextures 9 = .ok (.invokevirtual 99, 3) := by decide +kernel
theorem d_Rd_passWallTextures_12 : decode b_Rd_passWallTextures 12 = .ok (.pop, 1) := by decide +kernel
theorem d_Rd_passWallTextures_13 : decode b_Rd_passWallTextures 13 = .ok (.iinc 2 1, 3) := by decide +kernel
theorem d_Rd_passWallTextures_16 : decode b_Rd_passWallTextures 16 = .ok (.goto (-14), 3) := by decide +kernel
theorem d_Rd_passWallTextures_19 : decode b_Rd_passWallTextures 19 = .ok (.return_, 1) := by decide +kernel
theorem d_Rd_passStart_0 : decode b_Rd_passStart 0 = .ok (.aload_n 0, 1) := by decide +kernel
theorem d_Rd_passStart_1 : decode b_Rd_passStart 1 = .ok (.sipush (-32768), 3) := by decide +kernel
theorem d_Rd_passStart_4 : decode b_Rd_passStart 4 = .ok (.sipush 32767, 3) := by decide +kernel
theorem d_Rd_passStart_7 : decode b_Rd_passStart 7 = .ok (.invokevirtual 89, 3) := by decide +kernel
theorem d_Rd_passStart_10 : decode b_Rd_passStart 10 = .ok (.pop, 1) := by decide +kernel
theorem d_Rd_passStart_11 : decode b_Rd_passStart 11 = .ok (.aload_n 0, 1) := by decide +kernel
theorem d_Rd_passStart_12 : decode b_Rd_passStart 12 = .ok (.sipush (-32768), 3) := by decide +kernel
theorem d_Rd_passStart_15 : decode b_Rd_passStart 15 = .ok (.sipush 32767, 3) := by decide +kernel
theorem d_Rd_passStart_18 : decode b_Rd_passStart 18 = .ok (.invokevirtual 89, 3) := by decide +kernel
theorem d_Rd_passStart_21 : decode b_Rd_passStart 21 = .ok (.pop, 1) := by decide +kernel
theorem d_Rd_passStart_22 : decode b_Rd_passStart 22 = .ok (.aload_n 0, 1) := by decide +kernel
theorem d_Rd_passStart_23 : decode b_Rd_passStart 23 = .ok (.iconst 0, 1) := by decide +kernel
theorem d_Rd_passStart_24 : decode b_Rd_passStart 24 = .ok (.bipush 63, 2) := by decide +kernel
theorem d_Rd_passStart_26 : decode b_Rd_passStart 26 = .ok (.invokevirtual 73, 3) := by decide +kernel
theorem d_Rd_passStart_29 : decode b_Rd_passStart 29 = .ok (.pop, 1) := by decide +kernel
theorem d_Rd_passStart_30 : decode b_Rd_passStart 30 = .ok (.aload_n 0, 1) := by decide +kernel
theorem d_Rd_passStart_31 : decode b_Rd_passStart 31 = .ok (.iconst 0, 1) := by decide +kernel
theorem d_Rd_passStart_32 : decode b_Rd_passStart 32 = .ok (.aload_n 0, 1) := by decide +kernel
theorem d_Rd_passStart_33 : decode b_Rd_passStart 33 = .ok (.getfield 83, 3) := by decide +kernel
theorem d_Rd_passStart_36 : decode b_Rd_passStart 36 = .ok (.iconst 1, 1) := by decide +kernel
theorem d_Rd_passStart_37 : decode b_Rd_passStart 37 = .ok (.isub, 1) := by decide +kernel
theorem d_Rd_passStart_38 : decode b_Rd_passStart 38 = .ok (.invokevirtual 73, 3) := by decide +kernel
theorem d_Rd_passStart_41 : decode b_Rd_passStart 41 = .ok (.pop, 1) := by decide +kernel
theorem d_Rd_passStart_42 : decode b_Rd_passStart 42 = .ok (.return_, 1) := by decide +kernel
theorem d_Rd_passEnd_0 : decode b_Rd_passEnd 0 = .ok (.aload_n 0, 1) := by decide +kernel
theorem d_Rd_passEnd_1 : decode b_Rd_passEnd 1 = .ok (.getfield 12, 3) := by decide +kernel
theorem d_Rd_passEnd_4 : decode b_Rd_passEnd 4 = .ok (.aload_n 0, 1) := by decide +kernel
theorem d_Rd_passEnd_5 : decode b_Rd_passEnd 5 = .ok (.getfield 39, 3) := by decide +kernel
theorem d_Rd_passEnd_8 : decode b_Rd_passEnd 8 = .ok (.invokevirtual 118, 3) := by decide +kernel
theorem d_Rd_passEnd_11 : decode b_Rd_passEnd 11 = .ok (.istore_n 1, 1) := by decide +kernel
theorem d_Rd_passEnd_12 : decode b_Rd_passEnd 12 = .ok (.aload_n 0, 1) := by decide +kernel
theorem d_Rd_passEnd_13 : decode b_Rd_passEnd 13 = .ok (.iload_n 1, 1) := by decide +kernel
theorem d_Rd_passEnd_14 : decode b_Rd_passEnd 14 = .ok (.bipush 8, 2) := by decide +kernel
theorem d_Rd_passEnd_16 : decode b_Rd_passEnd 16 = .ok (.ishr, 1) := by decide +kernel
theorem d_Rd_passEnd_17 : decode b_Rd_passEnd 17 = .ok (.iconst 4, 1) := by decide +kernel
theorem d_Rd_passEnd_18 : decode b_Rd_passEnd 18 = .ok (.invokevirtual 69, 3) := by decide +kernel
theorem d_Rd_passEnd_21 : decode b_Rd_passEnd 21 = .ok (.aload_n 0, 1) := by decide +kernel
theorem d_Rd_passEnd_22 : decode b_Rd_passEnd 22 = .ok (.iload_n 1, 1) := by decide +kernel
theorem d_Rd_passEnd_23 : decode b_Rd_passEnd 23 = .ok (.sipush 255, 3) := by decide +kernel
theorem d_Rd_passEnd_26 : decode b_Rd_passEnd 26 = .ok (.iand, 1) := by decide +kernel
theorem d_Rd_passEnd_27 : decode b_Rd_passEnd 27 = .ok (.iconst 4, 1) := by decide +kernel
theorem d_Rd_passEnd_28 : decode b_Rd_passEnd 28 = .ok (.invokevirtual 69, 3) := by decide +kernel
theorem d_Rd_passEnd_31 : decode b_Rd_passEnd 31 = .ok (.aload_n 0, 1) := by decide +kernel
theorem d_Rd_passEnd_32 : decode b_Rd_passEnd 32 = .ok (.getfield 39, 3) := by decide +kernel
theorem d_Rd_passEnd_35 : decode b_Rd_passEnd 35 = .ok (.aload_n 0, 1) := by decide +kernel
theorem d_Rd_passEnd_36 : decode b_Rd_passEnd 36 = .ok (.getfield 12, 3) := by decide +kernel
theorem d_Rd_passEnd_39 : decode b_Rd_passEnd 39 = .ok (.getfield 121, 3) := by decide +kernel
theorem d_Rd_passEnd_42 : decode b_Rd_passEnd 42 = .ok (.if_icmp .ge 12, 3) := by decide +kernel
theorem d_Rd_passEnd_45 : decode b_Rd_passEnd 45 = .ok (.aload_n 0, 1) := by decide +kernel
theorem d_Rd_passEnd_46 : decode b_Rd_passEnd 46 = .ok (.iconst 5, 1) := by decide +kernel
theorem d_Rd_passEnd_47 : decode b_Rd_passEnd 47 = .ok (.aload_n 0, 1) := by decide +kernel
theorem d_Rd_passEnd_48 : decode b_Rd_passEnd 48 = .ok (.getfield 39, 3) := by decide +kernel
theorem d_Rd_passEnd_51 : decode b_Rd_passEnd 51 = .ok (.invokevirtual 96, 3) := by decide +kernel
theorem d_Rd_passEnd_54 : decode b_Rd_passEnd 54 = .ok (.return_, 1) := by decide +kernel
theorem d_Rd_seekMeeting_0 : decode b_Rd_seekMeeting 0 = .ok (.iconst 1, 1) := by decide +kernel
theorem d_Rd_seekMeeting_1 : decode b_Rd_seekMeeting 1 = .ok (.istore_n 1, 1) := by decide +kernel
theorem d_Rd_seekMeeting_2 : decode b_Rd_seekMeeting 2 = .ok (.iload_n 1, 1) := by decide +kernel
theorem d_Rd_seekMeeting_3 : decode b_Rd_seekMeeting 3 = .ok (.aload_n 0, 1) := by decide +kernel
theorem d_Rd_seekMeeting_4 : decode b_Rd_seekMeeting 4 = .ok (.getfield 86, 3) := by decide +kernel
theorem d_Rd_seekMeeting_7 : decode b_Rd_seekMeeting 7 = .ok (.if_icmp .ge 83, 3) := by decide +kernel
theorem d_Rd_seekMeeting_10 : decode b_Rd_seekMeeting 10 = .ok (.iload_n 1, 1) := by decide +kernel
theorem d_Rd_seekMeeting_11 : decode b_Rd_seekMeeting 11 = .ok (.aload_n 0, 1) := by decide +kernel
theorem d_Rd_seekMeeting_12 : decode b_Rd_seekMeeting 12 = .ok (.getfield 27, 3) := by decide +kernel
theorem d_Rd_seekMeeting_15 : decode b_Rd_seekMeeting 15 = .ok (.arraylength, 1) := by decide +kernel
theorem d_Rd_seekMeeting_16 : decode b_Rd_seekMeeting 16 = .ok (.if_icmp .ge 74, 3) := by decide +kernel
theorem d_Rd_seekMeeting_19 : decode b_Rd_seekMeeting 19 = .ok (.aload_n 0, 1) := by decide +kernel
theorem d_Rd_seekMeeting_20 : decode b_Rd_seekMeeting 20 = .ok (.getfield 42, 3) := by decide +kernel
theorem d_Rd_seekMeeting_23 : decode b_Rd_seekMeeting 23 = .ok (.ifCond .ne 67, 3) := by decide +kernel
theorem d_Rd_seekMeeting_26 : decode b_Rd_seekMeeting 26 = .ok (.iconst 0, 1) := by decide +kernel
theorem d_Rd_seekMeeting_27 : decode b_Rd_seekMeeting 27 = .ok (.istore_n 2, 1) := by decide +kernel
theorem d_Rd_seekMeeting_28 : decode b_Rd_seekMeeting 28 = .ok (.iload_n 2, 1) := by decide +kernel
theorem d_Rd_seekMeeting_29 : decode b_Rd_seekMeeting 29 = .ok (.iload_n 1, 1) := by decide +kernel
theorem d_Rd_seekMeeting_30 : decode b_Rd_seekMeeting 30 = .ok (.if_icmp .ge 54, 3) := by decide +kernel
theorem d_Rd_seekMeeting_33 : decode b_Rd_seekMeeting 33 = .ok (.aload_n 0, 1) := by decide +kernel
theorem d_Rd_seekMeeting_34 : decode b_Rd_seekMeeting 34 = .ok (.getfield 42, 3) := by decide +kernel
theorem d_Rd_seekMeeting_37 : decode b_Rd_seekMeeting 37 = .ok (.ifCond .ne 47, 3) := by decide +kernel
theorem d_Rd_seekMeeting_40 : decode b_Rd_seekMeeting 40 = .ok (.aload_n 0, 1) := by decide +kernel
theorem d_Rd_seekMeeting_41 : decode b_Rd_seekMeeting 41 = .ok (.getfield 27, 3) := by decide +kernel
theorem d_Rd_seekMeeting_44 : decode b_Rd_seekMeeting 44 = .ok (.iload_n 1, 1) := by decide +kernel
theorem d_Rd_seekMeeting_45 : decode b_Rd_seekMeeting 45 = .ok (.aaload, 1) := by decide +kernel
theorem d_Rd_seekMeeting_46 : decode b_Rd_seekMeeting 46 = .ok (.aload_n 0, 1) := by decide +kernel
theorem d_Rd_seekMeeting_47 : decode b_Rd_seekMeeting 47 = .ok (.getfield 27, 3) := by decide +kernel
theorem d_Rd_seekMeeting_50 : decode b_Rd_seekMeeting 50 = .ok (.iload_n 2, 1) := by decide +kernel
theorem d_Rd_seekMeeting_51 : decode b_Rd_seekMeeting 51 = .ok (.aaload, 1) := by decide +kernel
theorem d_Rd_seekMeeting_52 : decode b_Rd_seekMeeting 52 = .ok (.invokevirtual 124, 3) := by decide +kernel
theorem d_Rd_seekMeeting_55 : decode b_Rd_seekMeeting 55 = .ok (.ifCond .eq 23, 3) := by decide +kernel
theorem d_Rd_seekMeeting_58 : decode b_Rd_seekMeeting 58 = .ok (.aload_n 0, 1) := by decide +kernel
theorem d_Rd_seekMeeting_59 : decode b_Rd_seekMeeting 59 = .ok (.bipush 6, 2) := by decide +kernel
theorem d_Rd_seekMeeting_61 : decode b_Rd_seekMeeting 61 = .ok (.aload_n 0, 1) := by decide +kernel
theorem d_Rd_seekMeeting_62 : decode b_Rd_seekMeeting 62 = .ok (.getfield 103, 3) := by decide +kernel
theorem d_Rd_seekMeeting_65 : decode b_Rd_seekMeeting 65 = .ok (.bipush 14, 2) := by decide +kernel
theorem d_Rd_seekMeeting_67 : decode b_Rd_seekMeeting 67 = .ok (.iload_n 1, 1) := by decide +kernel
theorem d_Rd_seekMeeting_68 : decode b_Rd_seekMeeting 68 = .ok (.imul, 1) := by decide +kernel
theorem d_Rd_seekMeeting_69 : decode b_Rd_seekMeeting 69 = .ok (.iadd, 1) := by decide +kernel
theorem d_Rd_seekMeeting_70 : decode b_Rd_seekMeeting 70 = .ok (.invokevirtual 96, 3) := by decide +kernel
theorem d_Rd_seekMeeting_73 : decode b_Rd_seekMeeting 73 = .ok (.aload_n 0, 1) := by decide +kernel
theorem d_Rd_seekMeeting_74 : decode b_Rd_seekMeeting 74 = .ok (.iload_n 1, 1) := by decide +kernel
theorem d_Rd_seekMeeting_75 : decode b_Rd_seekMeeting 75 = .ok (.putfield 35, 3) := by decide +kernel
theorem d_Rd_seekMeeting_78 : decode b_Rd_seekMeeting 78 = .ok (.iinc 2 1, 3) := by decide +kernel
theorem d_Rd_seekMeeting_81 : decode b_Rd_seekMeeting 81 = .ok (.goto (-53), 3) := by decide +kernel
theorem d_Rd_seekMeeting_84 : decode b_Rd_seekMeeting 84 = .ok (.iinc 1 1, 3) := by decide +kernel
theorem d_Rd_seekMeeting_87 : decode b_Rd_seekMeeting 87 = .ok (.goto (-85), 3) := by decide +kernel
theorem d_Rd_seekMeeting_90 : decode b_Rd_seekMeeting 90 = .ok (.return_, 1) := by decide +kernel
theorem d_Rd_next_0 : decode b_Rd_next 0 = .ok (.aload_n 0, 1) := by decide +kernel
theorem d_Rd_next_1 : decode b_Rd_next 1 = .ok (.getfield 42, 3) := by decide +kernel
theorem d_Rd_next_4 : decode b_Rd_next 4 = .ok (.ifCond .eq 5, 3) := by decide +kernel
theorem d_Rd_next_7 : decode b_Rd_next 7 = .ok (.iconst 0, 1) := by decide +kernel
theorem d_Rd_next_8 : decode b_Rd_next 8 = .ok (.ireturn, 1) := by decide +kernel
theorem d_Rd_next_9 : decode b_Rd_next 9 = .ok (.aload_n 0, 1) := by decide +kernel
theorem d_Rd_next_10 : decode b_Rd_next 10 = .ok (.getfield 12, 3) := by decide +kernel
theorem d_Rd_next_13 : decode b_Rd_next 13 = .ok (.aload_n 0, 1) := by decide +kernel
theorem d_Rd_next_14 : decode b_Rd_next 14 = .ok (.getfield 39, 3) := by decide +kernel
theorem d_Rd_next_17 : decode b_Rd_next 17 = .ok (.invokevirtual 128, 3) := by decide +kernel
theorem d_Rd_next_20 : decode b_Rd_next 20 = .ok (.istore_n 1, 1) := by decide +kernel
theorem d_Rd_next_21 : decode b_Rd_next 21 = .ok (.iload_n 1, 1) := by decide +kernel
theorem d_Rd_next_22 : decode b_Rd_next 22 = .ok (.iconst (-1), 1) := by decide +kernel
theorem d_Rd_next_23 : decode b_Rd_next 23 = .ok (.if_icmp .ne 17, 3) := by decide +kernel
theorem d_Rd_next_26 : decode b_Rd_next 26 = .ok (.aload_n 0, 1) := by decide +kernel
theorem d_Rd_next_27 : decode b_Rd_next 27 = .ok (.iconst 1, 1) := by decide +kernel
theorem d_Rd_next_28 : decode b_Rd_next 28 = .ok (.aload_n 0, 1) := by decide +kernel
theorem d_Rd_next_29 : decode b_Rd_next 29 = .ok (.getfield 12, 3) := by decide +kernel
theorem d_Rd_next_32 : decode b_Rd_next 32 = .ok (.getfield 121, 3) := by decide +kernel
theorem d_Rd_next_35 : decode b_Rd_next 35 = .ok (.invokevirtual 96, 3) := by decide +kernel
theorem d_Rd_next_38 : decode b_Rd_next 38 = .ok (.iconst 0, 1) := by decide +kernel
theorem d_Rd_next_39 : decode b_Rd_next 39 = .ok (.ireturn, 1) := by decide +kernel
theorem d_Rd_next_40 : decode b_Rd_next 40 = .ok (.aload_n 0, 1) := by decide +kernel
theorem d_Rd_next_41 : decode b_Rd_next 41 = .ok (.dup, 1) := by decide +kernel
theorem d_Rd_next_42 : decode b_Rd_next 42 = .ok (.getfield 39, 3) := by decide +kernel
theorem d_Rd_next_45 : decode b_Rd_next 45 = .ok (.iconst 1, 1) := by decide +kernel
theorem d_Rd_next_46 : decode b_Rd_next 46 = .ok (.iadd, 1) := by decide +kernel
theorem d_Rd_next_47 : decode b_Rd_next 47 = .ok (.putfield 39, 3) := by decide +kernel
theorem d_Rd_next_50 : decode b_Rd_next 50 = .ok (.iload_n 1, 1) := by decide +kernel
theorem d_Rd_next_51 : decode b_Rd_next 51 = .ok (.ireturn, 1) := by decide +kernel
theorem d_Rd_expect_0 : decode b_Rd_expect 0 = .ok (.aload_n 0, 1) := by decide +kernel
theorem d_Rd_expect_1 : decode b_Rd_expect 1 = .ok (.getfield 39, 3) := by decide +kernel
theorem d_Rd_expect_4 : decode b_Rd_expect 4 = .ok (.istore_n 3, 1) := by decide +kernel
theorem d_Rd_expect_5 : decode b_Rd_expect 5 = .ok (.aload_n 0, 1) := by decide +kernel
theorem d_Rd_expect_6 : decode b_Rd_expect 6 = .ok (.invokevirtual 131, 3) := by decide +kernel
theorem d_Rd_expect_9 : decode b_Rd_expect 9 = .ok (.iload_n 1, 1) := by decide +kernel
theorem d_Rd_expect_10 : decode b_Rd_expect 10 = .ok (.if_icmp .eq 9, 3) := by decide +kernel
theorem d_Rd_expect_13 : decode b_Rd_expect 13 = .ok (.aload_n 0, 1) := by decide +kernel
theorem d_Rd_expect_14 : decode b_Rd_expect 14 = .ok (.iload_n 2, 1) := by decide +kernel
theorem d_Rd_expect_15 : decode b_Rd_expect 15 = .ok (.iload_n 3, 1) := by decide +kernel
theorem d_Rd_expect_16 : decode b_Rd_expect 16 = .ok (.invokevirtual 96, 3) := by decide +kernel
theorem d_Rd_expect_19 : decode b_Rd_expect 19 = .ok (.return_, 1) := by decide +kernel
theorem d_Rd_small_0 : decode b_Rd_small 0 = .ok (.aload_n 0, 1) := by decide +kernel
theorem d_Rd_small_1 : decode b_Rd_small 1 = .ok (.getfield 39, 3) := by decide +kernel
theorem d_Rd_small_4 : decode b_Rd_small 4 = .ok (.istore_n 3, 1) := by decide +kernel
theorem d_Rd_small_5 : decode b_Rd_small 5 = .ok (.aload_n 0, 1) := by decide +kernel
theorem d_Rd_small_6 : decode b_Rd_small 6 = .ok (.aload_n 0, 1) := by decide +kernel
theorem d_Rd_small_7 : decode b_Rd_small 7 = .ok (.invokevirtual 131, 3) := by decide +kernel
theorem d_Rd_small_10 : decode b_Rd_small 10 = .ok (.iload_n 1, 1) := by decide +kernel
theorem d_Rd_small_11 : decode b_Rd_small 11 = .ok (.iload_n 2, 1) := by decide +kernel
theorem d_Rd_small_12 : decode b_Rd_small 12 = .ok (.iload_n 3, 1) := by decide +kernel
theorem d_Rd_small_13 : decode b_Rd_small 13 = .ok (.invokevirtual 135, 3) := by decide +kernel
theorem d_Rd_small_16 : decode b_Rd_small 16 = .ok (.ireturn, 1) := by decide +kernel
theorem d_Rd_smallOrAbsent_0 : decode b_Rd_smallOrAbsent 0 = .ok (.aload_n 0, 1) := by decide +kernel
theorem d_Rd_smallOrAbsent_1 : decode b_Rd_smallOrAbsent 1 = .ok (.getfield 39, 3) := by decide +kernel
theorem d_Rd_smallOrAbsent_4 : decode b_Rd_smallOrAbsent 4 = .ok (.istore_n 2, 1) := by decide +kernel
theorem d_Rd_smallOrAbsent_5 : decode b_Rd_smallOrAbsent 5 = .ok (.aload_n 0, 1) := by decide +kernel
theorem d_Rd_smallOrAbsent_6 : decode b_Rd_smallOrAbsent 6 = .ok (.invokevirtual 131, 3) := by decide +kernel
theorem d_Rd_smallOrAbsent_9 : decode b_Rd_smallOrAbsent 9 = .ok (.istore_n 3, 1) := by decide +kernel
theorem d_Rd_smallOrAbsent_10 : decode b_Rd_smallOrAbsent 10 = .ok (.iload_n 3, 1) := by decide +kernel
theorem d_Rd_smallOrAbsent_11 : decode b_Rd_smallOrAbsent 11 = .ok (.sipush 255, 3) := by decide +kernel
theorem d_Rd_smallOrAbsent_14 : decode b_Rd_smallOrAbsent 14 = .ok (.if_icmp .ne 7, 3) := by decide +kernel
theorem d_Rd_smallOrAbsent_17 : decode b_Rd_smallOrAbsent 17 = .ok (.iload_n 3, 1) := by decide +kernel
theorem d_Rd_smallOrAbsent_18 : decode b_Rd_smallOrAbsent 18 = .ok (.goto 11, 3) := by decide +kernel
theorem d_Rd_smallOrAbsent_21 : decode b_Rd_smallOrAbsent 21 = .ok (.aload_n 0, 1) := by decide +kernel
theorem d_Rd_smallOrAbsent_22 : decode b_Rd_smallOrAbsent 22 = .ok (.iload_n 3, 1) := by decide +kernel
theorem d_Rd_smallOrAbsent_23 : decode b_Rd_smallOrAbsent 23 = .ok (.iconst 0, 1) := by decide +kernel
theorem d_Rd_smallOrAbsent_24 : decode b_Rd_smallOrAbsent 24 = .ok (.iload_n 1, 1) := by decide +kernel
theorem d_Rd_smallOrAbsent_25 : decode b_Rd_smallOrAbsent 25 = .ok (.iload_n 2, 1) := by decide +kernel
theorem d_Rd_smallOrAbsent_26 : decode b_Rd_smallOrAbsent 26 = .ok (.invokevirtual 135, 3) := by decide +kernel
theorem d_Rd_smallOrAbsent_29 : decode b_Rd_smallOrAbsent 29 = .ok (.ireturn, 1) := by decide +kernel
theorem d_Rd_wide_0 : decode b_Rd_wide 0 = .ok (.aload_n 0, 1) := by decide +kernel
theorem d_Rd_wide_1 : decode b_Rd_wide 1 = .ok (.getfield 39, 3) := by decide +kernel
theorem d_Rd_wide_4 : decode b_Rd_wide 4 = .ok (.istore_n 3, 1) := by decide +kernel
theorem d_Rd_wide_5 : decode b_Rd_wide 5 = .ok (.aload_n 0, 1) := by decide +kernel
theorem d_Rd_wide_6 : decode b_Rd_wide 6 = .ok (.invokevirtual 131, 3) := by decide +kernel
theorem d_Rd_wide_9 : decode b_Rd_wide 9 = .ok (.istore 4, 2) := by decide +kernel
theorem d_Rd_wide_11 : decode b_Rd_wide 11 = .ok (.sipush 256, 3) := by decide +kernel
theorem d_Rd_wide_14 : decode b_Rd_wide 14 = .ok (.iload 4, 2) := by decide +kernel
theorem d_Rd_wide_16 : decode b_Rd_wide 16 = .ok (.imul, 1) := by decide +kernel
theorem d_Rd_wide_17 : decode b_Rd_wide 17 = .ok (.aload_n 0, 1) := by decide +kernel
theorem d_Rd_wide_18 : decode b_Rd_wide 18 = .ok (.invokevirtual 131, 3) := by decide +kernel
theorem d_Rd_wide_21 : decode b_Rd_wide 21 = .ok (.iadd, 1) := by decide +kernel
theorem d_Rd_wide_22 : decode b_Rd_wide 22 = .ok (.istore 5, 2) := by decide +kernel
theorem d_Rd_wide_24 : decode b_Rd_wide 24 = .ok (.aload_n 0, 1) := by decide +kernel
theorem d_Rd_wide_25 : decode b_Rd_wide 25 = .ok (.iload 5, 2) := by decide +kernel
theorem d_Rd_wide_27 : decode b_Rd_wide 27 = .ok (.sipush 32767, 3) := by decide +kernel
theorem d_Rd_wide_30 : decode b_Rd_wide 30 = .ok (.if_icmp .le 11, 3) := by decide +kernel
theorem d_Rd_wide_33 : decode b_Rd_wide 33 = .ok (.iload 5, 2) := by decide +kernel
theorem d_Rd_wide_35 : decode b_Rd_wide 35 = .ok (.ldc 139, 2) := by decide +kernel
theorem d_Rd_wide_37 : decode b_Rd_wide 37 = .ok (.isub, 1) := by decide +kernel
theorem d_Rd_wide_38 : decode b_Rd_wide 38 = .ok (.goto 5, 3) := by decide +kernel
theorem d_Rd_wide_41 : decode b_Rd_wide 41 = .ok (.iload 5, 2) := by decide +kernel
theorem d_Rd_wide_43 : decode b_Rd_wide 43 = .ok (.iload_n 1, 1) := by decide +kernel
theorem d_Rd_wide_44 : decode b_Rd_wide 44 = .ok (.iload_n 2, 1) := by decide +kernel
theorem d_Rd_wide_45 : decode b_Rd_wide 45 = .ok (.iload_n 3, 1) := by decide +kernel
theorem d_Rd_wide_46 : decode b_Rd_wide 46 = .ok (.invokevirtual 135, 3) := by decide +kernel
theorem d_Rd_wide_49 : decode b_Rd_wide 49 = .ok (.ireturn, 1) := by decide +kernel
theorem d_Rd_judged_0 : decode b_Rd_judged 0 = .ok (.iload_n 1, 1) := by decide +kernel
theorem d_Rd_judged_1 : decode b_Rd_judged 1 = .ok (.iload_n 2, 1) := by decide +kernel
theorem d_Rd_judged_2 : decode b_Rd_judged 2 = .ok (.if_icmp .lt 8, 3) := by decide +kernel
theorem d_Rd_judged_5 : decode b_Rd_judged 5 = .ok (.iload_n 1, 1) := by decide +kernel
theorem d_Rd_judged_6 : decode b_Rd_judged 6 = .ok (.iload_n 3, 1) := by decide +kernel
theorem d_Rd_judged_7 : decode b_Rd_judged 7 = .ok (.if_icmp .le 10, 3) := by decide +kernel
theorem d_Rd_judged_10 : decode b_Rd_judged 10 = .ok (.aload_n 0, 1) := by decide +kernel
theorem d_Rd_judged_11 : decode b_Rd_judged 11 = .ok (.iconst 3, 1) := by decide +kernel
theorem d_Rd_judged_12 : decode b_Rd_judged 12 = .ok (.iload 4, 2) := by decide +kernel
theorem d_Rd_judged_14 : decode b_Rd_judged 14 = .ok (.invokevirtual 96, 3) := by decide +kernel
theorem d_Rd_judged_17 : decode b_Rd_judged 17 = .ok (.aload_n 0, 1) := by decide +kernel
theorem d_Rd_judged_18 : decode b_Rd_judged 18 = .ok (.getfield 42, 3) := by decide +kernel
theorem d_Rd_judged_21 : decode b_Rd_judged 21 = .ok (.ifCond .ne 7, 3) := by decide +kernel
theorem d_Rd_judged_24 : decode b_Rd_judged 24 = .ok (.iload_n 1, 1) := by decide +kernel
theorem d_Rd_judged_25 : decode b_Rd_judged 25 = .ok (.goto 4, 3) := by decide +kernel
theorem d_Rd_judged_28 : decode b_Rd_judged 28 = .ok (.iconst 0, 1) := by decide +kernel
theorem d_Rd_judged_29 : decode b_Rd_judged 29 = .ok (.ireturn, 1) := by decide +kernel
theorem d_Rd_fail_0 : decode b_Rd_fail 0 = .ok (.aload_n 0, 1) := by decide +kernel
theorem d_Rd_fail_1 : decode b_Rd_fail 1 = .ok (.getfield 42, 3) := by decide +kernel
theorem d_Rd_fail_4 : decode b_Rd_fail 4 = .ok (.ifCond .ne 13, 3) := by decide +kernel
theorem d_Rd_fail_7 : decode b_Rd_fail 7 = .ok (.aload_n 0, 1) := by decide +kernel
theorem d_Rd_fail_8 : decode b_Rd_fail 8 = .ok (.iload_n 1, 1) := by decide +kernel
theorem d_Rd_fail_9 : decode b_Rd_fail 9 = .ok (.putfield 42, 3) := by decide +kernel
theorem d_Rd_fail_12 : decode b_Rd_fail 12 = .ok (.aload_n 0, 1) := by decide +kernel
theorem d_Rd_fail_13 : decode b_Rd_fail 13 = .ok (.iload_n 2, 1) := by decide +kernel
theorem d_Rd_fail_14 : decode b_Rd_fail 14 = .ok (.putfield 31, 3) := by decide +kernel
theorem d_Rd_fail_17 : decode b_Rd_fail 17 = .ok (.return_, 1) := by decide +kernel
theorem d_Mp_init_0 : decode b_Mp_init 0 = .ok (.aload_n 0, 1) := by decide +kernel
theorem d_Mp_init_1 : decode b_Mp_init 1 = .ok (.invokespecial 3, 3) := by decide +kernel
theorem d_Mp_init_4 : decode b_Mp_init 4 = .ok (.aload_n 0, 1) := by decide +kernel
theorem d_Mp_init_5 : decode b_Mp_init 5 = .ok (.new 9, 3) := by decide +kernel
theorem d_Mp_init_8 : decode b_Mp_init 8 = .ok (.dup, 1) := by decide +kernel
theorem d_Mp_init_9 : decode b_Mp_init 9 = .ok (.invokespecial 11, 3) := by decide +kernel
theorem d_Mp_init_12 : decode b_Mp_init 12 = .ok (.putfield 12, 3) := by decide +kernel
theorem d_Mp_init_15 : decode b_Mp_init 15 = .ok (.aload_n 0, 1) := by decide +kernel
theorem d_Mp_init_16 : decode b_Mp_init 16 = .ok (.bipush 16, 2) := by decide +kernel
theorem d_Mp_init_18 : decode b_Mp_init 18 = .ok (.newarray .int, 2) := by decide +kernel
theorem d_Mp_init_20 : decode b_Mp_init 20 = .ok (.putfield 18, 3) := by decide +kernel
theorem d_Mp_init_23 : decode b_Mp_init 23 = .ok (.return_, 1) := by decide +kernel
theorem d_Mp_take_0 : decode b_Mp_take 0 = .ok (.aload_n 0, 1) := by decide +kernel
theorem d_Mp_take_1 : decode b_Mp_take 1 = .ok (.getfield 12, 3) := by decide +kernel
theorem d_Mp_take_4 : decode b_Mp_take 4 = .ok (.aload_n 1, 1) := by decide +kernel
theorem d_Mp_take_5 : decode b_Mp_take 5 = .ok (.invokevirtual 22, 3) := by decide +kernel
theorem d_Mp_take_8 : decode b_Mp_take 8 = .ok (.aload_n 0, 1) := by decide +kernel
theorem d_Mp_take_9 : decode b_Mp_take 9 = .ok (.iconst 1, 1) := by decide +kernel
theorem d_Mp_take_10 : decode b_Mp_take 10 = .ok (.putfield 26, 3) := by decide +kernel
theorem d_Mp_take_13 : decode b_Mp_take 13 = .ok (.aload_n 0, 1) := by decide +kernel
theorem d_Mp_take_14 : decode b_Mp_take 14 = .ok (.aload_n 0, 1) := by decide +kernel
theorem d_Mp_take_15 : decode b_Mp_take 15 = .ok (.getfield 12, 3) := by decide +kernel
theorem d_Mp_take_18 : decode b_Mp_take 18 = .ok (.iconst 3, 1) := by decide +kernel
theorem d_Mp_take_19 : decode b_Mp_take 19 = .ok (.invokevirtual 30, 3) := by decide +kernel
theorem d_Mp_take_22 : decode b_Mp_take 22 = .ok (.putfield 34, 3) := by decide +kernel
theorem d_Mp_take_25 : decode b_Mp_take 25 = .ok (.aload_n 0, 1) := by decide +kernel
theorem d_Mp_take_26 : decode b_Mp_take 26 = .ok (.aload_n 0, 1) := by decide +kernel
theorem d_Mp_take_27 : decode b_Mp_take 27 = .ok (.getfield 12, 3) := by decide +kernel
theorem d_Mp_take_30 : decode b_Mp_take 30 = .ok (.iconst 4, 1) := by decide +kernel
theorem d_Mp_take_31 : decode b_Mp_take 31 = .ok (.invokevirtual 30, 3) := by decide +kernel
theorem d_Mp_take_34 : decode b_Mp_take 34 = .ok (.putfield 38, 3) := by decide +kernel
theorem d_Mp_take_37 : decode b_Mp_take 37 = .ok (.aload_n 0, 1) := by decide +kernel
theorem d_Mp_take_38 : decode b_Mp_take 38 = .ok (.aload_n 0, 1) := by decide +kernel
theorem d_Mp_take_39 : decode b_Mp_take 39 = .ok (.getfield 12, 3) := by decide +kernel
theorem d_Mp_take_42 : decode b_Mp_take 42 = .ok (.iconst 5, 1) := by decide +kernel
theorem d_Mp_take_43 : decode b_Mp_take 43 = .ok (.invokevirtual 30, 3) := by decide +kernel
theorem d_Mp_take_46 : decode b_Mp_take 46 = .ok (.putfield 41, 3) := by decide +kernel
theorem d_Mp_take_49 : decode b_Mp_take 49 = .ok (.aload_n 0, 1) := by decide +kernel
theorem d_Mp_take_50 : decode b_Mp_take 50 = .ok (.aload_n 0, 1) := by decide +kernel
theorem d_Mp_take_51 : decode b_Mp_take 51 = .ok (.getfield 12, 3) := by decide +kernel
theorem d_Mp_take_54 : decode b_Mp_take 54 = .ok (.bipush 6, 2) := by decide +kernel
theorem d_Mp_take_56 : decode b_Mp_take 56 = .ok (.invokevirtual 30, 3) := by decide +kernel
theorem d_Mp_take_59 : decode b_Mp_take 59 = .ok (.putfield 44, 3) := by decide +kernel
theorem d_Mp_take_62 : decode b_Mp_take 62 = .ok (.bipush 7, 2) := by decide +kernel
theorem d_Mp_take_64 : decode b_Mp_take 64 = .ok (.iconst 4, 1) := by decide +kernel
theorem d_Mp_take_65 : decode b_Mp_take 65 = .ok (.aload_n 0, 1) := by decide +kernel
theorem d_Mp_take_66 : decode b_Mp_take 66 = .ok (.getfield 34, 3) := by decide +kernel
theorem d_Mp_take_69 : decode b_Mp_take 69 = .ok (.imul, 1) := by decide +kernel
theorem d_Mp_take_70 : decode b_Mp_take 70 = .ok (.iadd, 1) := by decide +kernel
theorem d_Mp_take_71 : decode b_Mp_take 71 = .ok (.istore_n 2, 1) := by decide +kernel
theorem d_Mp_take_72 : decode b_Mp_take 72 = .ok (.iconst 0, 1) := by decide +kernel
theorem d_Mp_take_73 : decode b_Mp_take 73 = .ok (.istore_n 3, 1) := by decide +kernel
theorem d_Mp_take_74 : decode b_Mp_take 74 = .ok (.iload_n 3, 1) := by decide +kernel
theorem d_Mp_take_75 : decode b_Mp_take 75 = .ok (.aload_n 0, 1) := by decide +kernel
theorem d_Mp_take_76 : decode b_Mp_take 76 = .ok (.getfield 38, 3) := by decide +kernel
theorem d_Mp_take_79 : decode b_Mp_take 79 = .ok (.if_icmp .ge 41, 3) := by decide +kernel
theorem d_Mp_take_82 : decode b_Mp_take 82 = .ok (.iload_n 3, 1) := by decide +kernel
theorem d_Mp_take_83 : decode b_Mp_take 83 = .ok (.aload_n 0, 1) := by decide +kernel
theorem d_Mp_take_84 : decode b_Mp_take 84 = .ok (.getfield 18, 3) := by decide +kernel
theorem d_Mp_take_87 : decode b_Mp_take 87 = .ok (.arraylength, 1) := by decide +kernel
theorem d_Mp_take_88 : decode b_Mp_take 88 = .ok (.if_icmp .ge 32, 3) := by decide +kernel
theorem d_Mp_take_91 : decode b_Mp_take 91 = .ok (.aload_n 0, 1) := by decide +kernel
theorem d_Mp_take_92 : decode b_Mp_take 92 = .ok (.getfield 18, 3) := by decide +kernel
theorem d_Mp_take_95 : decode b_Mp_take 95 = .ok (.iload_n 3, 1) := by decide +kernel
theorem d_Mp_take_96 : decode b_Mp_take 96 = .ok (.iload_n 2, 1) := by decide +kernel
theorem d_Mp_take_97 : decode b_Mp_take 97 = .ok (.iastore, 1) := by decide +kernel
theorem d_Mp_take_98 : decode b_Mp_take 98 = .ok (.iload_n 2, 1) := by decide +kernel
theorem d_Mp_take_99 : decode b_Mp_take 99 = .ok (.iconst 2, 1) := by decide +kernel
theorem d_Mp_take_100 : decode b_Mp_take 100 = .ok (.aload_n 0, 1) := by decide +kernel
theorem d_Mp_take_101 : decode b_Mp_take 101 = .ok (.iload_n 3, 1) := by decide +kernel
theorem d_Mp_take_102 : decode b_Mp_take 102 = .ok (.invokevirtual 47, 3) := by decide +kernel
theorem d_Mp_take_105 : decode b_Mp_take 105 = .ok (.aload_n 0, 1) := by decide +kernel
theorem d_Mp_take_106 : decode b_Mp_take 106 = .ok (.iload_n 3, 1) := by decide +kernel
theorem d_Mp_take_107 : decode b_Mp_take 107 = .ok (.invokevirtual 50, 3) := by decide +kernel
theorem d_Mp_take_110 : decode b_Mp_take 110 = .ok (.imul, 1) := by decide +kernel
theorem d_Mp_take_111 : decode b_Mp_take 111 = .ok (.iadd, 1) := by decide +kernel
theorem d_Mp_take_112 : decode b_Mp_take 112 = .ok (.iadd, 1) := by decide +kernel
theorem d_Mp_take_113 : decode b_Mp_take 113 = .ok (.istore_n 2, 1) := by decide +kernel
theorem d_Mp_take_114 : decode b_Mp_take 114 = .ok (.iinc 3 1, 3) := by decide +kernel
theorem d_Mp_take_117 : decode b_Mp_take 117 = .ok (.goto (-43), 3) := by decide +kernel
theorem d_Mp_take_120 : decode b_Mp_take 120 = .ok (.aload_n 0, 1) := by decide +kernel
theorem d_Mp_take_121 : decode b_Mp_take 121 = .ok (.iload_n 2, 1) := by decide +kernel
theorem d_Mp_take_122 : decode b_Mp_take 122 = .ok (.putfield 53, 3) := by decide +kernel
theorem d_Mp_take_125 : decode b_Mp_take 125 = .ok (.aload_n 0, 1) := by decide +kernel
theorem d_Mp_take_126 : decode b_Mp_take 126 = .ok (.aload_n 0, 1) := by decide +kernel
theorem d_Mp_take_127 : decode b_Mp_take 127 = .ok (.getfield 53, 3) := by decide +kernel
theorem d_Mp_take_130 : decode b_Mp_take 130 = .ok (.bipush 9, 2) := by decide +kernel
theorem d_Mp_take_132 : decode b_Mp_take 132 = .ok (.aload_n 0, 1) := by decide +kernel
theorem d_Mp_take_133 : decode b_Mp_take 133 = .ok (.getfield 41, 3) := by decide +kernel
theorem d_Mp_take_136 : decode b_Mp_take 136 = .ok (.imul, 1) := by decide +kernel
theorem d_Mp_take_137 : decode b_Mp_take 137 = .ok (.iadd, 1) := by decide +kernel
theorem d_Mp_take_138 : decode b_Mp_take 138 = .ok (.putfield 56, 3) := by decide +kernel
theorem d_Mp_take_141 : decode b_Mp_take 141 = .ok (.aload_n 0, 1) := by decide +kernel
theorem d_Mp_take_142 : decode b_Mp_take 142 = .ok (.aload_n 0, 1) := by decide +kernel
theorem d_Mp_take_143 : decode b_Mp_take 143 = .ok (.getfield 56, 3) := by decide +kernel
theorem d_Mp_take_146 : decode b_Mp_take 146 = .ok (.bipush 14, 2) := by decide +kernel
theorem d_Mp_take_148 : decode b_Mp_take 148 = .ok (.aload_n 0, 1) := by decide +kernel
theorem d_Mp_take_149 : decode b_Mp_take 149 = .ok (.getfield 44, 3) := by decide +kernel
theorem d_Mp_take_152 : decode b_Mp_take 152 = .ok (.imul, 1) := by decide +kernel
theorem d_Mp_take_153 : decode b_Mp_take 153 = .ok (.iadd, 1) := by decide +kernel
theorem d_Mp_take_154 : decode b_Mp_take 154 = .ok (.putfield 59, 3) := by decide +kernel
theorem d_Mp_take_157 : decode b_Mp_take 157 = .ok (.return_, 1) := by decide +kernel
theorem d_Mp_counted_0 : decode b_Mp_counted 0 = .ok (.aload_n 0, 1) := by decide +kernel
theorem d_Mp_counted_1 : decode b_Mp_counted 1 = .ok (.getfield 26, 3) := by decide +kernel
theorem d_Mp_counted_4 : decode b_Mp_counted 4 = .ok (.ifCond .eq 7, 3) := by decide +kernel
theorem d_Mp_counted_7 : decode b_Mp_counted 7 = .ok (.iload_n 1, 1) := by decide +kernel
theorem d_Mp_counted_8 : decode b_Mp_counted 8 = .ok (.goto 4, 3) := by decide +kernel
theorem d_Mp_counted_11 : decode b_Mp_counted 11 = .ok (.iconst (-1), 1) := by decide +kernel
theorem d_Mp_counted_12 : decode b_Mp_counted 12 = .ok (.ireturn, 1) := by decide +kernel
theorem d_Mp_width_0 : decode b_Mp_width 0 = .ok (.iconst 1, 1) := by decide +kernel
theorem d_Mp_width_1 : decode b_Mp_width 1 = .ok (.aload_n 0, 1) := by decide +kernel
theorem d_Mp_width_2 : decode b_Mp_width 2 = .ok (.getfield 12, 3) := by decide +kernel
theorem d_Mp_width_5 : decode b_Mp_width 5 = .ok (.aload_n 0, 1) := by decide +kernel
theorem d_Mp_width_6 : decode b_Mp_width 6 = .ok (.iload_n 1, 1) := by decide +kernel
theorem d_Mp_width_7 : decode b_Mp_width 7 = .ok (.invokevirtual 62, 3) := by decide +kernel
theorem d_Mp_width_10 : decode b_Mp_width 10 = .ok (.invokevirtual 30, 3) := by decide +kernel
theorem d_Mp_width_13 : decode b_Mp_width 13 = .ok (.ishl, 1) := by decide +kernel
theorem d_Mp_width_14 : decode b_Mp_width 14 = .ok (.ireturn, 1) := by decide +kernel
theorem d_Mp_height_0 : decode b_Mp_height 0 = .ok (.iconst 1, 1) := by decide +kernel
theorem d_Mp_height_1 : decode b_Mp_height 1 = .ok (.aload_n 0, 1) := by decide +kernel
theorem d_Mp_height_2 : decode b_Mp_height 2 = .ok (.getfield 12, 3) := by decide +kernel
theorem d_Mp_height_5 : decode b_Mp_height 5 = .ok (.aload_n 0, 1) := by decide +kernel
theorem d_Mp_height_6 : decode b_Mp_height 6 = .ok (.iload_n 1, 1) := by decide +kernel
theorem d_Mp_height_7 : decode b_Mp_height 7 = .ok (.invokevirtual 62, 3) := by decide +kernel
theorem d_Mp_height_10 : decode b_Mp_height 10 = .ok (.iconst 1, 1) := by decide +kernel
theorem d_Mp_height_11 : decode b_Mp_height 11 = .ok (.iadd, 1) := by decide +kernel
theorem d_Mp_height_12 : decode b_Mp_height 12 = .ok (.invokevirtual 30, 3) := by decide +kernel
theorem d_Mp_height_15 : decode b_Mp_height 15 = .ok (.ishl, 1) := by decide +kernel
theorem d_Mp_height_16 : decode b_Mp_height 16 = .ok (.ireturn, 1) := by decide +kernel
theorem d_Mp_texel_0 : decode b_Mp_texel 0 = .ok (.aload_n 0, 1) := by decide +kernel
theorem d_Mp_texel_1 : decode b_Mp_texel 1 = .ok (.iload_n 1, 1) := by decide +kernel
theorem d_Mp_texel_2 : decode b_Mp_texel 2 = .ok (.invokevirtual 47, 3) := by decide +kernel
theorem d_Mp_texel_5 : decode b_Mp_texel 5 = .ok (.istore 4, 2) := by decide +kernel
theorem d_Mp_texel_7 : decode b_Mp_texel 7 = .ok (.iload_n 2, 1) := by decide +kernel
theorem d_Mp_texel_8 : decode b_Mp_texel 8 = .ok (.ifCond .lt 22, 3) := by decide +kernel
theorem d_Mp_texel_11 : decode b_Mp_texel 11 = .ok (.iload_n 2, 1) := by decide +kernel
theorem d_Mp_texel_12 : decode b_Mp_texel 12 = .ok (.aload_n 0, 1) := by decide +kernel
theorem d_Mp_texel_13 : decode b_Mp_texel 13 = .ok (.iload_n 1, 1) := by decide +kernel
theorem d_Mp_texel_14 : decode b_Mp_texel 14 = .ok (.invokevirtual 50, 3) := by decide +kernel
theorem d_Mp_texel_17 : decode b_Mp_texel 17 = .ok (.if_icmp .ge 13, 3) := by decide +kernel
theorem d_Mp_texel_20 : decode b_Mp_texel 20 = .ok (.iload_n 3, 1) := by decide +kernel
theorem d_Mp_texel_21 : decode b_Mp_texel 21 = .ok (.ifCond .lt 9, 3) := by decide +kernel
theorem d_Mp_texel_24 : decode b_Mp_texel 24 = .ok (.iload_n 3, 1) := by decide +kernel
theorem d_Mp_texel_25 : decode b_Mp_texel 25 = .ok (.iload 4, 2) := by decide +kernel
theorem d_Mp_texel_27 : decode b_Mp_texel 27 = .ok (.if_icmp .lt 5, 3) := by decide +kernel
theorem d_Mp_texel_30 : decode b_Mp_texel 30 = .ok (.iconst (-1), 1) := by decide +kernel
theorem d_Mp_texel_31 : decode b_Mp_texel 31 = .ok (.ireturn, 1) := by decide +kernel
theorem d_Mp_texel_32 : decode b_Mp_texel 32 = .ok (.aload_n 0, 1) := by decide +kernel
theorem d_Mp_texel_33 : decode b_Mp_texel 33 = .ok (.getfield 12, 3) := by decide +kernel
theorem d_Mp_texel_36 : decode b_Mp_texel 36 = .ok (.aload_n 0, 1) := by decide +kernel
theorem d_Mp_texel_37 : decode b_Mp_texel 37 = .ok (.iload_n 1, 1) := by decide +kernel
theorem d_Mp_texel_38 : decode b_Mp_texel 38 = .ok (.invokevirtual 62, 3) := by decide +kernel
theorem d_Mp_texel_41 : decode b_Mp_texel 41 = .ok (.iconst 2, 1) := by decide +kernel
theorem d_Mp_texel_42 : decode b_Mp_texel 42 = .ok (.iadd, 1) := by decide +kernel
theorem d_Mp_texel_43 : decode b_Mp_texel 43 = .ok (.iload 4, 2) := by decide +kernel
theorem d_Mp_texel_45 : decode b_Mp_texel 45 = .ok (.iload_n 2, 1) := by decide +kernel
theorem d_Mp_texel_46 : decode b_Mp_texel 46 = .ok (.imul, 1) := by decide +kernel
theorem d_Mp_texel_47 : decode b_Mp_texel 47 = .ok (.iadd, 1) := by decide +kernel
theorem d_Mp_texel_48 : decode b_Mp_texel 48 = .ok (.iload_n 3, 1) := by decide +kernel
theorem d_Mp_texel_49 : decode b_Mp_texel 49 = .ok (.iadd, 1) := by decide +kernel
theorem d_Mp_texel_50 : decode b_Mp_texel 50 = .ok (.invokevirtual 30, 3) := by decide +kernel
theorem d_Mp_texel_53 : decode b_Mp_texel 53 = .ok (.ireturn, 1) := by decide +kernel
theorem d_Mp_textureAt_0 : decode b_Mp_textureAt 0 = .ok (.iload_n 1, 1) := by decide +kernel
theorem d_Mp_textureAt_1 : decode b_Mp_textureAt 1 = .ok (.ifCond .lt 21, 3) := by decide +kernel
theorem d_Mp_textureAt_4 : decode b_Mp_textureAt 4 = .ok (.iload_n 1, 1) := by decide +kernel
theorem d_Mp_textureAt_5 : decode b_Mp_textureAt 5 = .ok (.aload_n 0, 1) := by decide +kernel
theorem d_Mp_textureAt_6 : decode b_Mp_textureAt 6 = .ok (.getfield 18, 3) := by decide +kernel
theorem d_Mp_textureAt_9 : decode b_Mp_textureAt 9 = .ok (.arraylength, 1) := by decide +kernel
theorem d_Mp_textureAt_10 : decode b_Mp_textureAt 10 = .ok (.if_icmp .ge 12, 3) := by decide +kernel
theorem d_Mp_textureAt_13 : decode b_Mp_textureAt 13 = .ok (.aload_n 0, 1) := by decide +kernel
theorem d_Mp_textureAt_14 : decode b_Mp_textureAt 14 = .ok (.getfield 18, 3) := by decide +kernel
theorem d_Mp_textureAt_17 : decode b_Mp_textureAt 17 = .ok (.iload_n 1, 1) := by decide +kernel
theorem d_Mp_textureAt_18 : decode b_Mp_textureAt 18 = .ok (.iaload, 1) := by decide +kernel
theorem d_Mp_textureAt_19 : decode b_Mp_textureAt 19 = .ok (.goto 4, 3) := by decide +kernel
theorem d_Mp_textureAt_22 : decode b_Mp_textureAt 22 = .ok (.iconst 0, 1) := by decide +kernel
theorem d_Mp_textureAt_23 : decode b_Mp_textureAt 23 = .ok (.ireturn, 1) := by decide +kernel
theorem d_Rw_init_0 : decode b_Rw_init 0 = .ok (.aload_n 0, 1) := by decide +kernel
theorem d_Rw_init_1 : decode b_Rw_init 1 = .ok (.invokespecial 3, 3) := by decide +kernel
theorem d_Rw_init_4 : decode b_Rw_init 4 = .ok (.aload_n 0, 1) := by decide +kernel
theorem d_Rw_init_5 : decode b_Rw_init 5 = .ok (.sipush 8192, 3) := by decide +kernel
theorem d_Rw_init_8 : decode b_Rw_init 8 = .ok (.newarray .byte, 2) := by decide +kernel
theorem d_Rw_init_10 : decode b_Rw_init 10 = .ok (.putfield 9, 3) := by decide +kernel
theorem d_Rw_init_13 : decode b_Rw_init 13 = .ok (.return_, 1) := by decide +kernel
theorem d_Rw_free_0 : decode b_Rw_free 0 = .ok (.aload_n 0, 1) := by decide +kernel
theorem d_Rw_free_1 : decode b_Rw_free 1 = .ok (.getfield 9, 3) := by decide +kernel
theorem d_Rw_free_4 : decode b_Rw_free 4 = .ok (.arraylength, 1) := by decide +kernel
theorem d_Rw_free_5 : decode b_Rw_free 5 = .ok (.aload_n 0, 1) := by decide +kernel
theorem d_Rw_free_6 : decode b_Rw_free 6 = .ok (.getfield 15, 3) := by decide +kernel
theorem d_Rw_free_9 : decode b_Rw_free 9 = .ok (.isub, 1) := by decide +kernel
theorem d_Rw_free_10 : decode b_Rw_free 10 = .ok (.ireturn, 1) := by decide +kernel
theorem d_Rw_get_0 : decode b_Rw_get 0 = .ok (.iload_n 1, 1) := by decide +kernel
theorem d_Rw_get_1 : decode b_Rw_get 1 = .ok (.ifCond .lt 24, 3) := by decide +kernel
theorem d_Rw_get_4 : decode b_Rw_get 4 = .ok (.iload_n 1, 1) := by decide +kernel
theorem d_Rw_get_5 : decode b_Rw_get 5 = .ok (.aload_n 0, 1) := by decide +kernel
theorem d_Rw_get_6 : decode b_Rw_get 6 = .ok (.getfield 15, 3) := by decide +kernel
theorem d_Rw_get_9 : decode b_Rw_get 9 = .ok (.if_icmp .ge 16, 3) := by decide +kernel
theorem d_Rw_get_12 : decode b_Rw_get 12 = .ok (.aload_n 0, 1) := by decide +kernel
theorem d_Rw_get_13 : decode b_Rw_get 13 = .ok (.getfield 9, 3) := by decide +kernel
theorem d_Rw_get_16 : decode b_Rw_get 16 = .ok (.iload_n 1, 1) := by decide +kernel
theorem d_Rw_get_17 : decode b_Rw_get 17 = .ok (.baload, 1) := by decide +kernel
theorem d_Rw_get_18 : decode b_Rw_get 18 = .ok (.sipush 255, 3) := by decide +kernel
theorem d_Rw_get_21 : decode b_Rw_get 21 = .ok (.iand, 1) := by decide +kernel
theorem d_Rw_get_22 : decode b_Rw_get 22 = .ok (.goto 4, 3) := by decide +kernel
theorem d_Rw_get_25 : decode b_Rw_get 25 = .ok (.iconst (-1), 1) := by decide +kernel
theorem d_Rw_get_26 : decode b_Rw_get 26 = .ok (.ireturn, 1) := by decide +kernel
theorem d_Rw_put_0 : decode b_Rw_put 0 = .ok (.iload_n 1, 1) := by decide +kernel
theorem d_Rw_put_1 : decode b_Rw_put 1 = .ok (.ifCond .lt 11, 3) := by decide +kernel
theorem d_Rw_put_4 : decode b_Rw_put 4 = .ok (.iload_n 1, 1) := by decide +kernel
theorem d_Rw_put_5 : decode b_Rw_put 5 = .ok (.aload_n 0, 1) := by decide +kernel
theorem d_Rw_put_6 : decode b_Rw_put 6 = .ok (.getfield 15, 3) := by decide +kernel
theorem d_Rw_put_9 : decode b_Rw_put 9 = .ok (.if_icmp .lt 5, 3) := by decide +kernel
theorem d_Rw_put_12 : decode b_Rw_put 12 = .ok (.iconst 0, 1) := by decide +kernel
theorem d_Rw_put_13 : decode b_Rw_put 13 = .ok (.ireturn, 1) := by decide +kernel
theorem d_Rw_put_14 : decode b_Rw_put 14 = .ok (.aload_n 0, 1) := by decide +kernel
theorem d_Rw_put_15 : decode b_Rw_put 15 = .ok (.getfield 9, 3) := by decide +kernel
theorem d_Rw_put_18 : decode b_Rw_put 18 = .ok (.iload_n 1, 1) := by decide +kernel
theorem d_Rw_put_19 : decode b_Rw_put 19 = .ok (.iload_n 2, 1) := by decide +kernel
theorem d_Rw_put_20 : decode b_Rw_put 20 = .ok (.i2b, 1) := by decide +kernel
theorem d_Rw_put_21 : decode b_Rw_put 21 = .ok (.bastore, 1) := by decide +kernel
theorem d_Rw_put_22 : decode b_Rw_put 22 = .ok (.iconst 1, 1) := by decide +kernel
theorem d_Rw_put_23 : decode b_Rw_put 23 = .ok (.ireturn, 1) := by decide +kernel
theorem d_Rw_append_0 : decode b_Rw_append 0 = .ok (.aload_n 0, 1) := by decide +kernel
theorem d_Rw_append_1 : decode b_Rw_append 1 = .ok (.getfield 15, 3) := by decide +kernel
theorem d_Rw_append_4 : decode b_Rw_append 4 = .ok (.aload_n 0, 1) := by decide +kernel
theorem d_Rw_append_5 : decode b_Rw_append 5 = .ok (.getfield 9, 3) := by decide +kernel
theorem d_Rw_append_8 : decode b_Rw_append 8 = .ok (.arraylength, 1) := by decide +kernel
theorem d_Rw_append_9 : decode b_Rw_append 9 = .ok (.if_icmp .ge 24, 3) := by decide +kernel
theorem d_Rw_append_12 : decode b_Rw_append 12 = .ok (.aload_n 0, 1) := by decide +kernel
theorem d_Rw_append_13 : decode b_Rw_append 13 = .ok (.getfield 9, 3) := by decide +kernel
theorem d_Rw_append_16 : decode b_Rw_append 16 = .ok (.aload_n 0, 1) := by decide +kernel
theorem d_Rw_append_17 : decode b_Rw_append 17 = .ok (.getfield 15, 3) := by decide +kernel
theorem d_Rw_append_20 : decode b_Rw_append 20 = .ok (.iload_n 1, 1) := by decide +kernel
theorem d_Rw_append_21 : decode b_Rw_append 21 = .ok (.i2b, 1) := by decide +kernel
theorem d_Rw_append_22 : decode b_Rw_append 22 = .ok (.bastore, 1) := by decide +kernel
theorem d_Rw_append_23 : decode b_Rw_append 23 = .ok (.aload_n 0, 1) := by decide +kernel
theorem d_Rw_append_24 : decode b_Rw_append 24 = .ok (.dup, 1) := by decide +kernel
theorem d_Rw_append_25 : decode b_Rw_append 25 = .ok (.getfield 15, 3) := by decide +kernel
theorem d_Rw_append_28 : decode b_Rw_append 28 = .ok (.iconst 1, 1) := by decide +kernel
theorem d_Rw_append_29 : decode b_Rw_append 29 = .ok (.iadd, 1) := by decide +kernel
theorem d_Rw_append_30 : decode b_Rw_append 30 = .ok (.putfield 15, 3) := by decide +kernel
theorem d_Rw_append_33 : decode b_Rw_append 33 = .ok (.return_, 1) := by decide +kernel
theorem d_Rw_shorten_0 : decode b_Rw_shorten 0 = .ok (.iload_n 1, 1) := by decide +kernel
theorem d_Rw_shorten_1 : decode b_Rw_shorten 1 = .ok (.ifCond .lt 11, 3) := by decide +kernel
theorem d_Rw_shorten_4 : decode b_Rw_shorten 4 = .ok (.iload_n 1, 1) := by decide +kernel
theorem d_Rw_shorten_5 : decode b_Rw_shorten 5 = .ok (.aload_n 0, 1) := by decide +kernel
theorem d_Rw_shorten_6 : decode b_Rw_shorten 6 = .ok (.getfield 15, 3) := by decide +kernel
theorem d_Rw_shorten_9 : decode b_Rw_shorten 9 = .ok (.if_icmp .le 5, 3) := by decide +kernel
theorem d_Rw_shorten_12 : decode b_Rw_shorten 12 = .ok (.iconst 0, 1) := by decide +kernel
theorem d_Rw_shorten_13 : decode b_Rw_shorten 13 = .ok (.ireturn, 1) := by decide +kernel
theorem d_Rw_shorten_14 : decode b_Rw_shorten 14 = .ok (.aload_n 0, 1) := by decide +kernel
theorem d_Rw_shorten_15 : decode b_Rw_shorten 15 = .ok (.iload_n 1, 1) := by decide +kernel
theorem d_Rw_shorten_16 : decode b_Rw_shorten 16 = .ok (.putfield 15, 3) := by decide +kernel
theorem d_Rw_shorten_19 : decode b_Rw_shorten 19 = .ok (.iconst 1, 1) := by decide +kernel
theorem d_Rw_shorten_20 : decode b_Rw_shorten 20 = .ok (.ireturn, 1) := by decide +kernel
theorem d_Rw_copy_0 : decode b_Rw_copy 0 = .ok (.aload_n 1, 1) := by decide +kernel
theorem d_Rw_copy_1 : decode b_Rw_copy 1 = .ok (.getfield 9, 3) := by decide +kernel
theorem d_Rw_copy_4 : decode b_Rw_copy 4 = .ok (.iconst 0, 1) := by decide +kernel
theorem d_Rw_copy_5 : decode b_Rw_copy 5 = .ok (.aload_n 0, 1) := by decide +kernel
theorem d_Rw_copy_6 : decode b_Rw_copy 6 = .ok (.getfield 9, 3) := by decide +kernel
theorem d_Rw_copy_9 : decode b_Rw_copy 9 = .ok (.iconst 0, 1) := by decide +kernel
theorem d_Rw_copy_10 : decode b_Rw_copy 10 = .ok (.aload_n 1, 1) := by decide +kernel
theorem d_Rw_copy_11 : decode b_Rw_copy 11 = .ok (.getfield 15, 3) := by decide +kernel
theorem d_Rw_copy_14 : decode b_Rw_copy 14 = .ok (.invokestatic 19, 3) := by decide +kernel
theorem d_Rw_copy_17 : decode b_Rw_copy 17 = .ok (.aload_n 0, 1) := by decide +kernel
theorem d_Rw_copy_18 : decode b_Rw_copy 18 = .ok (.aload_n 1, 1) := by decide +kernel
theorem d_Rw_copy_19 : decode b_Rw_copy 19 = .ok (.getfield 15, 3) := by decide +kernel
theorem d_Rw_copy_22 : decode b_Rw_copy 22 = .ok (.putfield 15, 3) := by decide +kernel
theorem d_Rw_copy_25 : decode b_Rw_copy 25 = .ok (.return_, 1) := by decide +kernel
theorem d_Rw_signed_0 : decode b_Rw_signed 0 = .ok (.sipush 256, 3) := by decide +kernel
theorem d_Rw_signed_3 : decode b_Rw_signed 3 = .ok (.aload_n 0, 1) := by decide +kernel
theorem d_Rw_signed_4 : decode b_Rw_signed 4 = .ok (.iload_n 1, 1) := by decide +kernel
theorem d_Rw_signed_5 : decode b_Rw_signed 5 = .ok (.invokevirtual 25, 3) := by decide +kernel
theorem d_Rw_signed_8 : decode b_Rw_signed 8 = .ok (.imul, 1) := by decide +kernel
theorem d_Rw_signed_9 : decode b_Rw_signed 9 = .ok (.aload_n 0, 1) := by decide +kernel
theorem d_Rw_signed_10 : decode b_Rw_signed 10 = .ok (.iload_n 1, 1) := by decide +kernel
theorem d_Rw_signed_11 : decode b_Rw_signed 11 = .ok (.iconst 1, 1) := by decide +kernel
theorem d_Rw_signed_12 : decode b_Rw_signed 12 = .ok (.iadd, 1) := by decide +kernel
theorem d_Rw_signed_13 : decode b_Rw_signed 13 = .ok (.invokevirtual 25, 3) := by decide +kernel
theorem d_Rw_signed_16 : decode b_Rw_signed 16 = .ok (.iadd, 1) := by decide +kernel
theorem d_Rw_signed_17 : decode b_Rw_signed 17 = .ok (.istore_n 2, 1) := by decide +kernel
theorem d_Rw_signed_18 : decode b_Rw_signed 18 = .ok (.iload_n 2, 1) := by decide +kernel
theorem d_Rw_signed_19 : decode b_Rw_signed 19 = .ok (.sipush 32767, 3) := by decide +kernel
theorem d_Rw_signed_22 : decode b_Rw_signed 22 = .ok (.if_icmp .le 10, 3) := by decide +kernel
theorem d_Rw_signed_25 : decode b_Rw_signed 25 = .ok (.iload_n 2, 1) := by decide +kernel
theorem d_Rw_signed_26 : decode b_Rw_signed 26 = .ok (.ldc 29, 2) := by decide +kernel
theorem d_Rw_signed_28 : decode b_Rw_signed 28 = .ok (.isub, 1) := by decide +kernel
theorem d_Rw_signed_29 : decode b_Rw_signed 29 = .ok (.goto 4, 3) := by decide +kernel
theorem d_Rw_signed_32 : decode b_Rw_signed 32 = .ok (.iload_n 2, 1) := by decide +kernel
theorem d_Rw_signed_33 : decode b_Rw_signed 33 = .ok (.ireturn, 1) := by decide +kernel
theorem d_Rw_sums_0 : decode b_Rw_sums 0 = .ok (.iconst 0, 1) := by decide +kernel
theorem d_Rw_sums_1 : decode b_Rw_sums 1 = .ok (.istore_n 2, 1) := by decide +kernel
theorem d_Rw_sums_2 : decode b_Rw_sums 2 = .ok (.iconst 0, 1) := by decide +kernel
theorem d_Rw_sums_3 : decode b_Rw_sums 3 = .ok (.istore_n 3, 1) := by decide +kernel
theorem d_Rw_sums_4 : decode b_Rw_sums 4 = .ok (.iconst 0, 1) := by decide +kernel
theorem d_Rw_sums_5 : decode b_Rw_sums 5 = .ok (.istore 4, 2) := by decide +kernel
theorem d_Rw_sums_7 : decode b_Rw_sums 7 = .ok (.iload 4, 2) := by decide +kernel
theorem d_Rw_sums_9 : decode b_Rw_sums 9 = .ok (.iload_n 1, 1) := by decide +kernel
theorem d_Rw_sums_10 : decode b_Rw_sums 10 = .ok (.if_icmp .ge 44, 3) := by decide +kernel
theorem d_Rw_sums_13 : decode b_Rw_sums 13 = .ok (.iload 4, 2) := by decide +kernel
theorem d_Rw_sums_15 : decode b_Rw_sums 15 = .ok (.aload_n 0, 1) := by decide +kernel
theorem d_Rw_sums_16 : decode b_Rw_sums 16 = .ok (.getfield 15, 3) := by decide +kernel
theorem d_Rw_sums_19 : decode b_Rw_sums 19 = .ok (.if_icmp .ge 35, 3) := by decide +kernel
theorem d_Rw_sums_22 : decode b_Rw_sums 22 = .ok (.iload_n 2, 1) := by decide +kernel
theorem d_Rw_sums_23 : decode b_Rw_sums 23 = .ok (.aload_n 0, 1) := by decide +kernel
theorem d_Rw_sums_24 : decode b_Rw_sums 24 = .ok (.getfield 9, 3) := by decide +kernel
theorem d_Rw_sums_27 : decode b_Rw_sums 27 = .ok (.iload 4, 2) := by decide +kernel
theorem d_Rw_sums_29 : decode b_Rw_sums 29 = .ok (.baload, 1) := by decide +kernel
theorem d_Rw_sums_30 : decode b_Rw_sums 30 = .ok (.sipush 255, 3) := by decide +kernel
theorem d_Rw_sums_33 : decode b_Rw_sums 33 = .ok (.iand, 1) := by decide +kernel
theorem d_Rw_sums_34 : decode b_Rw_sums 34 = .ok (.iadd, 1) := by decide +kernel
theorem d_Rw_sums_35 : decode b_Rw_sums 35 = .ok (.sipush 251, 3) := by decide +kernel
theorem d_Rw_sums_38 : decode b_Rw_sums 38 = .ok (.irem, 1) := by decide +kernel
theorem d_Rw_sums_39 : decode b_Rw_sums 39 = .ok (.istore_n 2, 1) := by decide +kernel
theorem d_Rw_sums_40 : decode b_Rw_sums 40 = .ok (.iload_n 3, 1) := by decide +kernel
theorem d_Rw_sums_41 : decode b_Rw_sums 41 = .ok (.iload_n 2, 1) := by decide +kernel
theorem d_Rw_sums_42 : decode b_Rw_sums 42 = .ok (.iadd, 1) := by decide +kernel
theorem d_Rw_sums_43 : decode b_Rw_sums 43 = .ok (.sipush 251, 3) := by decide +kernel
theorem d_Rw_sums_46 : decode b_Rw_sums 46 = .ok (.irem, 1) := by decide +kernel
theorem d_Rw_sums_47 : decode b_Rw_sums 47 = .ok (.istore_n 3, 1) := by decide +kernel
theorem d_Rw_sums_48 : decode b_Rw_sums 48 = .ok (.iinc 4 1, 3) := by decide +kernel
theorem d_Rw_sums_51 : decode b_Rw_sums 51 = .ok (.goto (-44), 3) := by decide +kernel
theorem d_Rw_sums_54 : decode b_Rw_sums 54 = .ok (.sipush 256, 3) := by decide +kernel
theorem d_Rw_sums_57 : decode b_Rw_sums 57 = .ok (.iload_n 2, 1) := by decide +kernel
theorem d_Rw_sums_58 : decode b_Rw_sums 58 = .ok (.imul, 1) := by decide +kernel
theorem d_Rw_sums_59 : decode b_Rw_sums 59 = .ok (.iload_n 3, 1) := by decide +kernel
theorem d_Rw_sums_60 : decode b_Rw_sums 60 = .ok (.iadd, 1) := by decide +kernel
theorem d_Rw_sums_61 : decode b_Rw_sums 61 = .ok (.ireturn, 1) := by decide +kernel
