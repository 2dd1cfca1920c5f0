theorem d_Mo_readVertex_0 : decode b_Mo_readVertex 0 = .ok (.aload_n 0, 1) := by decide +kernel
theorem d_Mo_readVertex_1 : decode b_Mo_readVertex 1 = .ok (.sipush (-32768), 3) := by decide +kernel
theorem d_Mo_readVertex_4 : decode b_Mo_readVertex 4 = .ok (.sipush 32767, 3) := by decide +kernel
theorem d_Mo_readVertex_7 : decode b_Mo_readVertex 7 = .ok (.invokevirtual 57, 3) := by decide +kernel
theorem d_Mo_readVertex_10 : decode b_Mo_readVertex 10 = .ok (.istore_n 2, 1) := by decide +kernel
theorem d_Mo_readVertex_11 : decode b_Mo_readVertex 11 = .ok (.aload_n 0, 1) := by decide +kernel
theorem d_Mo_readVertex_12 : decode b_Mo_readVertex 12 = .ok (.getfield 45, 3) := by decide +kernel
theorem d_Mo_readVertex_15 : decode b_Mo_readVertex 15 = .ok (.istore_n 3, 1) := by decide +kernel
theorem d_Mo_readVertex_16 : decode b_Mo_readVertex 16 = .ok (.aload_n 0, 1) := by decide +kernel
theorem d_Mo_readVertex_17 : decode b_Mo_readVertex 17 = .ok (.sipush (-32768), 3) := by decide +kernel
theorem d_Mo_readVertex_20 : decode b_Mo_readVertex 20 = .ok (.sipush 32767, 3) := by decide +kernel
theorem d_Mo_readVertex_23 : decode b_Mo_readVertex 23 = .ok (.invokevirtual 57, 3) := by decide +kernel
theorem d_Mo_readVertex_26 : decode b_Mo_readVertex 26 = .ok (.istore 4, 2) := by decide +kernel
theorem d_Mo_readVertex_28 : decode b_Mo_readVertex 28 = .ok (.iconst 0, 1) := by decide +kernel
theorem d_Mo_readVertex_29 : decode b_Mo_readVertex 29 = .ok (.istore 5, 2) := by decide +kernel
theorem d_Mo_readVertex_31 : decode b_Mo_readVertex 31 = .ok (.iload 5, 2) := by decide +kernel
theorem d_Mo_readVertex_33 : decode b_Mo_readVertex 33 = .ok (.iload_n 1, 1) := by decide +kernel
theorem d_Mo_readVertex_34 : decode b_Mo_readVertex 34 = .ok (.if_icmp .ge 59, 3) := by decide +kernel
theorem d_Mo_readVertex_37 : decode b_Mo_readVertex 37 = .ok (.aload_n 0, 1) := by decide +kernel
theorem d_Mo_readVertex_38 : decode b_Mo_readVertex 38 = .ok (.getfield 42, 3) := by decide +kernel
theorem d_Mo_readVertex_41 : decode b_Mo_readVertex 41 = .ok (.ifCond .ne 52, 3) := by decide +kernel
theorem d_Mo_readVertex_44 : decode b_Mo_readVertex 44 = .ok (.aload_n 0, 1) := by decide +kernel
theorem d_Mo_readVertex_45 : decode b_Mo_readVertex 45 = .ok (.getfield 7, 3) := by decide +kernel
theorem d_Mo_readVertex_48 : decode b_Mo_readVertex 48 = .ok (.bipush 7, 2) := by decide +kernel
theorem d_Mo_readVertex_50 : decode b_Mo_readVertex 50 = .ok (.iconst 4, 1) := by decide +kernel
theorem d_Mo_readVertex_51 : decode b_Mo_readVertex 51 = .ok (.iload 5, 2) := by decide +kernel
theorem d_Mo_readVertex_53 : decode b_Mo_readVertex 53 = .ok (.imul, 1) := by decide +kernel
theorem d_Mo_readVertex_54 : decode b_Mo_readVertex 54 = .ok (.iadd, 1) := by decide +kernel
theorem d_Mo_readVertex_55 : decode b_Mo_readVertex 55 = .ok (.invokestatic 60, 3) := by decide +kernel
theorem d_Mo_readVertex_58 : decode b_Mo_readVertex 58 = .ok (.iload_n 2, 1) := by decide +kernel
theorem d_Mo_readVertex_59 : decode b_Mo_readVertex 59 = .ok (.if_icmp .ne 28, 3) := by decide +kernel
theorem d_Mo_readVertex_62 : decode b_Mo_readVertex 62 = .ok (.aload_n 0, 1) := by decide +kernel
theorem d_Mo_readVertex_63 : decode b_Mo_readVertex 63 = .ok (.getfield 7, 3) := by decide +kernel
theorem d_Mo_readVertex_66 : decode b_Mo_readVertex 66 = .ok (.bipush 9, 2) := by decide +kernel
theorem d_Mo_readVertex_68 : decode b_Mo_readVertex 68 = .ok (.iconst 4, 1) := by decide +kernel
theorem d_Mo_readVertex_69 : decode b_Mo_readVertex 69 = .ok (.iload 5, 2) := by decide +kernel
theorem d_Mo_readVertex_71 : decode b_Mo_readVertex 71 = .ok (.imul, 1) := by decide +kernel
theorem d_Mo_readVertex_72 : decode b_Mo_readVertex 72 = .ok (.iadd, 1) := by decide +kernel
theorem d_Mo_readVertex_73 : decode b_Mo_readVertex 73 = .ok (.invokestatic 60, 3) := by decide +kernel
theorem d_Mo_readVertex_76 : decode b_Mo_readVertex 76 = .ok (.iload 4, 2) := by decide +kernel
theorem d_Mo_readVertex_78 : decode b_Mo_readVertex 78 = .ok (.if_icmp .ne 9, 3) := by decide +kernel
theorem d_Mo_readVertex_81 : decode b_Mo_readVertex 81 = .ok (.aload_n 0, 1) := by decide +kernel
theorem d_Mo_readVertex_82 : decode b_Mo_readVertex 82 = .ok (.iconst 3, 1) := by decide +kernel
theorem d_Mo_readVertex_83 : decode b_Mo_readVertex 83 = .ok (.iload_n 3, 1) := by decide +kernel
theorem d_Mo_readVertex_84 : decode b_Mo_readVertex 84 = .ok (.invokevirtual 48, 3) := by decide +kernel
theorem d_Mo_readVertex_87 : decode b_Mo_readVertex 87 = .ok (.iinc 5 1, 3) := by decide +kernel
theorem d_Mo_readVertex_90 : decode b_Mo_readVertex 90 = .ok (.goto (-59), 3) := by decide +kernel
theorem d_Mo_readVertex_93 : decode b_Mo_readVertex 93 = .ok (.return_, 1) := by decide +kernel
theorem d_Mo_readTexture_0 : decode b_Mo_readTexture 0 = .ok (.aload_n 0, 1) := by decide +kernel
theorem d_Mo_readTexture_1 : decode b_Mo_readTexture 1 = .ok (.iconst 0, 1) := by decide +kernel
theorem d_Mo_readTexture_2 : decode b_Mo_readTexture 2 = .ok (.iconst 4, 1) := by decide +kernel
theorem d_Mo_readTexture_3 : decode b_Mo_readTexture 3 = .ok (.invokevirtual 52, 3) := by decide +kernel
theorem d_Mo_readTexture_6 : decode b_Mo_readTexture 6 = .ok (.istore_n 1, 1) := by decide +kernel
theorem d_Mo_readTexture_7 : decode b_Mo_readTexture 7 = .ok (.aload_n 0, 1) := by decide +kernel
theorem d_Mo_readTexture_8 : decode b_Mo_readTexture 8 = .ok (.iconst 0, 1) := by decide +kernel
theorem d_Mo_readTexture_9 : decode b_Mo_readTexture 9 = .ok (.iconst 4, 1) := by decide +kernel
theorem d_Mo_readTexture_10 : decode b_Mo_readTexture 10 = .ok (.invokevirtual 52, 3) := by decide +kernel
theorem d_Mo_readTexture_13 : decode b_Mo_readTexture 13 = .ok (.istore_n 2, 1) := by decide +kernel
theorem d_Mo_readTexture_14 : decode b_Mo_readTexture 14 = .ok (.iconst 0, 1) := by decide +kernel
theorem d_Mo_readTexture_15 : decode b_Mo_readTexture 15 = .ok (.istore_n 3, 1) := by decide +kernel
theorem d_Mo_readTexture_16 : decode b_Mo_readTexture 16 = .ok (.iload_n 3, 1) := by decide +kernel
theorem d_Mo_readTexture_17 : decode b_Mo_readTexture 17 = .ok (.iconst 1, 1) := by decide +kernel
theorem d_Mo_readTexture_18 : decode b_Mo_readTexture 18 = .ok (.iload_n 1, 1) := by decide +kernel
theorem d_Mo_readTexture_19 : decode b_Mo_readTexture 19 = .ok (.iload_n 2, 1) := by decide +kernel
theorem d_Mo_readTexture_20 : decode b_Mo_readTexture 20 = .ok (.iadd, 1) := by decide +kernel
theorem d_Mo_readTexture_21 : decode b_Mo_readTexture 21 = .ok (.ishl, 1) := by decide +kernel
theorem d_Mo_readTexture_22 : decode b_Mo_readTexture 22 = .ok (.if_icmp .ge 25, 3) := by decide +kernel
theorem d_Mo_readTexture_25 : decode b_Mo_readTexture 25 = .ok (.aload_n 0, 1) := by decide +kernel
theorem d_Mo_readTexture_26 : decode b_Mo_readTexture 26 = .ok (.getfield 42, 3) := by decide +kernel
theorem d_Mo_readTexture_29 : decode b_Mo_readTexture 29 = .ok (.ifCond .ne 18, 3) := by decide +kernel
theorem d_Mo_readTexture_32 : decode b_Mo_readTexture 32 = .ok (.aload_n 0, 1) := by decide +kernel
theorem d_Mo_readTexture_33 : decode b_Mo_readTexture 33 = .ok (.iconst 0, 1) := by decide +kernel
theorem d_Mo_readTexture_34 : decode b_Mo_readTexture 34 = .ok (.bipush 15, 2) := by decide +kernel
theorem d_Mo_readTexture_36 : decode b_Mo_readTexture 36 = .ok (.invokevirtual 52, 3) := by decide +kernel
theorem d_Mo_readTexture_39 : decode b_Mo_readTexture 39 = .ok (.istore 4, 2) := by decide +kernel
theorem d_Mo_readTexture_41 : decode b_Mo_readTexture 41 = .ok (.iinc 3 1, 3) := by decide +kernel
theorem d_Mo_readTexture_44 : decode b_Mo_readTexture 44 = .ok (.goto (-28), 3) := by decide +kernel
theorem d_Mo_readTexture_47 : decode b_Mo_readTexture 47 = .ok (.return_, 1) := by decide +kernel
theorem d_Mo_readSector_0 : decode b_Mo_readSector 0 = .ok (.aload_n 0, 1) := by decide +kernel
theorem d_Mo_readSector_1 : decode b_Mo_readSector 1 = .ok (.sipush (-1024), 3) := by decide +kernel
theorem d_Mo_readSector_4 : decode b_Mo_readSector 4 = .ok (.sipush 1024, 3) := by decide +kernel
theorem d_Mo_readSector_7 : decode b_Mo_readSector 7 = .ok (.invokevirtual 57, 3) := by decide +kernel
theorem d_Mo_readSector_10 : decode b_Mo_readSector 10 = .ok (.istore_n 2, 1) := by decide +kernel
theorem d_Mo_readSector_11 : decode b_Mo_readSector 11 = .ok (.aload_n 0, 1) := by decide +kernel
theorem d_Mo_readSector_12 : decode b_Mo_readSector 12 = .ok (.getfield 45, 3) := by decide +kernel
theorem d_Mo_readSector_15 : decode b_Mo_readSector 15 = .ok (.istore_n 3, 1) := by decide +kernel
theorem d_Mo_readSector_16 : decode b_Mo_readSector 16 = .ok (.aload_n 0, 1) := by decide +kernel
theorem d_Mo_readSector_17 : decode b_Mo_readSector 17 = .ok (.sipush (-1024), 3) := by decide +kernel
theorem d_Mo_readSector_20 : decode b_Mo_readSector 20 = .ok (.sipush 1024, 3) := by decide +kernel
theorem d_Mo_readSector_23 : decode b_Mo_readSector 23 = .ok (.invokevirtual 57, 3) := by decide +kernel
theorem d_Mo_readSector_26 : decode b_Mo_readSector 26 = .ok (.istore 4, 2) := by decide +kernel
theorem d_Mo_readSector_28 : decode b_Mo_readSector 28 = .ok (.aload_n 0, 1) := by decide +kernel
theorem d_Mo_readSector_29 : decode b_Mo_readSector 29 = .ok (.getfield 42, 3) := by decide +kernel
theorem d_Mo_readSector_32 : decode b_Mo_readSector 32 = .ok (.ifCond .ne 15, 3) := by decide +kernel
theorem d_Mo_readSector_35 : decode b_Mo_readSector 35 = .ok (.iload 4, 2) := by decide +kernel
theorem d_Mo_readSector_37 : decode b_Mo_readSector 37 = .ok (.iload_n 2, 1) := by decide +kernel
theorem d_Mo_readSector_38 : decode b_Mo_readSector 38 = .ok (.if_icmp .gt 9, 3) := by decide +kernel
theorem d_Mo_readSector_41 : decode b_Mo_readSector 41 = .ok (.aload_n 0, 1) := by decide +kernel
theorem d_Mo_readSector_42 : decode b_Mo_readSector 42 = .ok (.iconst 3, 1) := by decide +kernel
theorem d_Mo_readSector_43 : decode b_Mo_readSector 43 = .ok (.iload_n 3, 1) := by decide +kernel
theorem d_Mo_readSector_44 : decode b_Mo_readSector 44 = .ok (.invokevirtual 48, 3) := by decide +kernel
theorem d_Mo_readSector_47 : decode b_Mo_readSector 47 = .ok (.aload_n 0, 1) := by decide +kernel
theorem d_Mo_readSector_48 : decode b_Mo_readSector 48 = .ok (.iconst 0, 1) := by decide +kernel
theorem d_Mo_readSector_49 : decode b_Mo_readSector 49 = .ok (.iload_n 1, 1) := by decide +kernel
theorem d_Mo_readSector_50 : decode b_Mo_readSector 50 = .ok (.iconst 1, 1) := by decide +kernel
theorem d_Mo_readSector_51 : decode b_Mo_readSector 51 = .ok (.isub, 1) := by decide +kernel
theorem d_Mo_readSector_52 : decode b_Mo_readSector 52 = .ok (.invokevirtual 52, 3) := by decide +kernel
theorem d_Mo_readSector_55 : decode b_Mo_readSector 55 = .ok (.istore 5, 2) := by decide +kernel
theorem d_Mo_readSector_57 : decode b_Mo_readSector 57 = .ok (.aload_n 0, 1) := by decide +kernel
theorem d_Mo_readSector_58 : decode b_Mo_readSector 58 = .ok (.iload_n 1, 1) := by decide +kernel
theorem d_Mo_readSector_59 : decode b_Mo_readSector 59 = .ok (.invokevirtual 64, 3) := by decide +kernel
theorem d_Mo_readSector_62 : decode b_Mo_readSector 62 = .ok (.istore 6, 2) := by decide +kernel
theorem d_Mo_readSector_64 : decode b_Mo_readSector 64 = .ok (.aload_n 0, 1) := by decide +kernel
theorem d_Mo_readSector_65 : decode b_Mo_readSector 65 = .ok (.iconst 0, 1) := by decide +kernel
theorem d_Mo_readSector_66 : decode b_Mo_readSector 66 = .ok (.bipush 15, 2) := by decide +kernel
theorem d_Mo_readSector_68 : decode b_Mo_readSector 68 = .ok (.invokevirtual 52, 3) := by decide +kernel
theorem d_Mo_readSector_71 : decode b_Mo_readSector 71 = .ok (.istore 7, 2) := by decide +kernel
theorem d_Mo_readSector_73 : decode b_Mo_readSector 73 = .ok (.aload_n 0, 1) := by decide +kernel
theorem d_Mo_readSector_74 : decode b_Mo_readSector 74 = .ok (.iconst 0, 1) := by decide +kernel
theorem d_Mo_readSector_75 : decode b_Mo_readSector 75 = .ok (.iconst 3, 1) := by decide +kernel
theorem d_Mo_readSector_76 : decode b_Mo_readSector 76 = .ok (.invokevirtual 52, 3) := by decide +kernel
theorem d_Mo_readSector_79 : decode b_Mo_readSector 79 = .ok (.istore 8, 2) := by decide +kernel
theorem d_Mo_readSector_81 : decode b_Mo_readSector 81 = .ok (.aload_n 0, 1) := by decide +kernel
theorem d_Mo_readSector_82 : decode b_Mo_readSector 82 = .ok (.iconst 0, 1) := by decide +kernel
theorem d_Mo_readSector_83 : decode b_Mo_readSector 83 = .ok (.sipush 255, 3) := by decide +kernel
theorem d_Mo_readSector_86 : decode b_Mo_readSector 86 = .ok (.invokevirtual 52, 3) := by decide +kernel
theorem d_Mo_readSector_89 : decode b_Mo_readSector 89 = .ok (.istore 9, 2) := by decide +kernel
theorem d_Mo_readSector_91 : decode b_Mo_readSector 91 = .ok (.return_, 1) := by decide +kernel
theorem d_Mo_readWall_0 : decode b_Mo_readWall 0 = .ok (.aload_n 0, 1) := by decide +kernel
theorem d_Mo_readWall_1 : decode b_Mo_readWall 1 = .ok (.iconst 0, 1) := by decide +kernel
theorem d_Mo_readWall_2 : decode b_Mo_readWall 2 = .ok (.iload_n 1, 1) := by decide +kernel
theorem d_Mo_readWall_3 : decode b_Mo_readWall 3 = .ok (.iconst 1, 1) := by decide +kernel
theorem d_Mo_readWall_4 : decode b_Mo_readWall 4 = .ok (.isub, 1) := by decide +kernel
theorem d_Mo_readWall_5 : decode b_Mo_readWall 5 = .ok (.invokevirtual 52, 3) := by decide +kernel
theorem d_Mo_readWall_8 : decode b_Mo_readWall 8 = .ok (.istore 4, 2) := by decide +kernel
theorem d_Mo_readWall_10 : decode b_Mo_readWall 10 = .ok (.aload_n 0, 1) := by decide +kernel
theorem d_Mo_readWall_11 : decode b_Mo_readWall 11 = .ok (.iconst 0, 1) := by decide +kernel
theorem d_Mo_readWall_12 : decode b_Mo_readWall 12 = .ok (.iload_n 1, 1) := by decide +kernel
theorem d_Mo_readWall_13 : decode b_Mo_readWall 13 = .ok (.iconst 1, 1) := by decide +kernel
theorem d_Mo_readWall_14 : decode b_Mo_readWall 14 = .ok (.isub, 1) := by decide +kernel
theorem d_Mo_readWall_15 : decode b_Mo_readWall 15 = .ok (.invokevirtual 52, 3) := by decide +kernel
theorem d_Mo_readWall_18 : decode b_Mo_readWall 18 = .ok (.istore 5, 2) := by decide +kernel
theorem d_Mo_readWall_20 : decode b_Mo_readWall 20 = .ok (.aload_n 0, 1) := by decide +kernel
theorem d_Mo_readWall_21 : decode b_Mo_readWall 21 = .ok (.getfield 42, 3) := by decide +kernel
theorem d_Mo_readWall_24 : decode b_Mo_readWall 24 = .ok (.ifCond .ne 21, 3) := by decide +kernel
theorem d_Mo_readWall_27 : decode b_Mo_readWall 27 = .ok (.iload 4, 2) := by decide +kernel
theorem d_Mo_readWall_29 : decode b_Mo_readWall 29 = .ok (.iload 5, 2) := by decide +kernel
theorem d_Mo_readWall_31 : decode b_Mo_readWall 31 = .ok (.if_icmp .ne 14, 3) := by decide +kernel
theorem d_Mo_readWall_34 : decode b_Mo_readWall 34 = .ok (.aload_n 0, 1) := by decide +kernel
theorem d_Mo_readWall_35 : decode b_Mo_readWall 35 = .ok (.iconst 3, 1) := by decide +kernel
theorem d_Mo_readWall_36 : decode b_Mo_readWall 36 = .ok (.aload_n 0, 1) := by decide +kernel
theorem d_Mo_readWall_37 : decode b_Mo_readWall 37 = .ok (.getfield 45, 3) := by decide +kernel
theorem d_Mo_readWall_40 : decode b_Mo_readWall 40 = .ok (.iconst 1, 1) := by decide +kernel
theorem d_Mo_readWall_41 : decode b_Mo_readWall 41 = .ok (.isub, 1) := by decide +kernel
theorem d_Mo_readWall_42 : decode b_Mo_readWall 42 = .ok (.invokevirtual 48, 3) := by decide +kernel
theorem d_Mo_readWall_45 : decode b_Mo_readWall 45 = .ok (.aload_n 0, 1) := by decide +kernel
theorem d_Mo_readWall_46 : decode b_Mo_readWall 46 = .ok (.iconst 0, 1) := by decide +kernel
theorem d_Mo_readWall_47 : decode b_Mo_readWall 47 = .ok (.iload_n 3, 1) := by decide +kernel
theorem d_Mo_readWall_48 : decode b_Mo_readWall 48 = .ok (.iconst 1, 1) := by decide +kernel
theorem d_Mo_readWall_49 : decode b_Mo_readWall 49 = .ok (.isub, 1) := by decide +kernel
theorem d_Mo_readWall_50 : decode b_Mo_readWall 50 = .ok (.invokevirtual 52, 3) := by decide +kernel
theorem d_Mo_readWall_53 : decode b_Mo_readWall 53 = .ok (.istore 6, 2) := by decide +kernel
theorem d_Mo_readWall_55 : decode b_Mo_readWall 55 = .ok (.aload_n 0, 1) := by decide +kernel
theorem d_Mo_readWall_56 : decode b_Mo_readWall 56 = .ok (.iload_n 3, 1) := by decide +kernel
theorem d_Mo_readWall_57 : decode b_Mo_readWall 57 = .ok (.invokevirtual 64, 3) := by decide +kernel
theorem d_Mo_readWall_60 : decode b_Mo_readWall 60 = .ok (.istore 7, 2) := by decide +kernel
theorem d_Mo_readWall_62 : decode b_Mo_readWall 62 = .ok (.iconst 0, 1) := by decide +kernel
theorem d_Mo_readWall_63 : decode b_Mo_readWall 63 = .ok (.istore 8, 2) := by decide +kernel
theorem d_Mo_readWall_65 : decode b_Mo_readWall 65 = .ok (.iload 8, 2) := by decide +kernel
theorem d_Mo_readWall_67 : decode b_Mo_readWall 67 = .ok (.bipush 6, 2) := by decide +kernel
theorem d_Mo_readWall_69 : decode b_Mo_readWall 69 = .ok (.if_icmp .ge 56, 3) := by decide +kernel
theorem d_Mo_readWall_72 : decode b_Mo_readWall 72 = .ok (.aload_n 0, 1) := by decide +kernel
theorem d_Mo_readWall_73 : decode b_Mo_readWall 73 = .ok (.iload_n 2, 1) := by decide +kernel
theorem d_Mo_readWall_74 : decode b_Mo_readWall 74 = .ok (.invokevirtual 64, 3) := by decide +kernel
theorem d_Mo_readWall_77 : decode b_Mo_readWall 77 = .ok (.istore 9, 2) := by decide +kernel
theorem d_Mo_readWall_79 : decode b_Mo_readWall 79 = .ok (.aload_n 0, 1) := by decide +kernel
theorem d_Mo_readWall_80 : decode b_Mo_readWall 80 = .ok (.getfield 42, 3) := by decide +kernel
theorem d_Mo_readWall_83 : decode b_Mo_readWall 83 = .ok (.ifCond .ne 36, 3) := by decide +kernel
theorem d_Mo_readWall_86 : decode b_Mo_readWall 86 = .ok (.iload 8, 2) := by decide +kernel
theorem d_Mo_readWall_88 : decode b_Mo_readWall 88 = .ok (.iconst 2, 1) := by decide +kernel
theorem d_Mo_readWall_89 : decode b_Mo_readWall 89 = .ok (.if_icmp .le 30, 3) := by decide +kernel
theorem d_Mo_readWall_92 : decode b_Mo_readWall 92 = .ok (.iload 7, 2) := by decide +kernel
theorem d_Mo_readWall_94 : decode b_Mo_readWall 94 = .ok (.sipush 255, 3) := by decide +kernel
theorem d_Mo_readWall_97 : decode b_Mo_readWall 97 = .ok (.if_icmp .ne 22, 3) := by decide +kernel
theorem d_Mo_readWall_100 : decode b_Mo_readWall 100 = .ok (.iload 9, 2) := by decide +kernel
theorem d_Mo_readWall_102 : decode b_Mo_readWall 102 = .ok (.sipush 255, 3) := by decide +kernel
theorem d_Mo_readWall_105 : decode b_Mo_readWall 105 = .ok (.if_icmp .eq 14, 3) := by decide +kernel
theorem d_Mo_readWall_108 : decode b_Mo_readWall 108 = .ok (.aload_n 0, 1) := by decide +kernel
theorem d_Mo_readWall_109 : decode b_Mo_readWall 109 = .ok (.iconst 3, 1) := by decide +kernel
theorem d_Mo_readWall_110 : decode b_Mo_readWall 110 = .ok (.aload_n 0, 1) := by decide +kernel
theorem d_Mo_readWall_111 : decode b_Mo_readWall 111 = .ok (.getfield 45, 3) := by decide +kernel
theorem d_Mo_readWall_114 : decode b_Mo_readWall 114 = .ok (.iconst 1, 1) := by decide +kernel
theorem d_Mo_readWall_115 : decode b_Mo_readWall 115 = .ok (.isub, 1) := by decide +kernel
theorem d_Mo_readWall_116 : decode b_Mo_readWall 116 = .ok (.invokevirtual 48, 3) := by decide +kernel
theorem d_Mo_readWall_119 : decode b_Mo_readWall 119 = .ok (.iinc 8 1, 3) := by decide +kernel
theorem d_Mo_readWall_122 : decode b_Mo_readWall 122 = .ok (.goto (-57), 3) := by decide +kernel
theorem d_Mo_readWall_125 : decode b_Mo_readWall 125 = .ok (.aload_n 0, 1) := by decide +kernel
theorem d_Mo_readWall_126 : decode b_Mo_readWall 126 = .ok (.iconst 0, 1) := by decide +kernel
theorem d_Mo_readWall_127 : decode b_Mo_readWall 127 = .ok (.sipush 255, 3) := by decide +kernel
theorem d_Mo_readWall_130 : decode b_Mo_readWall 130 = .ok (.invokevirtual 52, 3) := by decide +kernel
theorem d_Mo_readWall_133 : decode b_Mo_readWall 133 = .ok (.istore 8, 2) := by decide +kernel
theorem d_Mo_readWall_135 : decode b_Mo_readWall 135 = .ok (.aload_n 0, 1) := by decide +kernel
theorem d_Mo_readWall_136 : decode b_Mo_readWall 136 = .ok (.iconst 0, 1) := by decide +kernel
theorem d_Mo_readWall_137 : decode b_Mo_readWall 137 = .ok (.iconst 3, 1) := by decide +kernel
theorem d_Mo_readWall_138 : decode b_Mo_readWall 138 = .ok (.invokevirtual 52, 3) := by decide +kernel
theorem d_Mo_readWall_141 : decode b_Mo_readWall 141 = .ok (.istore 9, 2) := by decide +kernel
theorem d_Mo_readWall_143 : decode b_Mo_readWall 143 = .ok (.aload_n 0, 1) := by decide +kernel
theorem d_Mo_readWall_144 : decode b_Mo_readWall 144 = .ok (.iconst 0, 1) := by decide +kernel
theorem d_Mo_readWall_145 : decode b_Mo_readWall 145 = .ok (.iconst 5, 1) := by decide +kernel
theorem d_Mo_readWall_146 : decode b_Mo_readWall 146 = .ok (.invokevirtual 52, 3) := by decide +kernel
theorem d_Mo_readWall_149 : decode b_Mo_readWall 149 = .ok (.istore 10, 2) := by decide +kernel
theorem d_Mo_readWall_151 : decode b_Mo_readWall 151 = .ok (.aload_n 0, 1) := by decide +kernel
theorem d_Mo_readWall_152 : decode b_Mo_readWall 152 = .ok (.iconst 0, 1) := by decide +kernel
theorem d_Mo_readWall_153 : decode b_Mo_readWall 153 = .ok (.sipush 255, 3) := by decide +kernel
theorem d_Mo_readWall_156 : decode b_Mo_readWall 156 = .ok (.invokevirtual 52, 3) := by decide +kernel
theorem d_Mo_readWall_159 : decode b_Mo_readWall 159 = .ok (.istore 11, 2) := by decide +kernel
theorem d_Mo_readWall_161 : decode b_Mo_readWall 161 = .ok (.return_, 1) := by decide +kernel
theorem d_Mo_readAll_0 : decode b_Mo_readAll 0 = .ok (.iconst 0, 1) := by decide +kernel
theorem d_Mo_readAll_1 : decode b_Mo_readAll 1 = .ok (.istore_n 1, 1) := by decide +kernel
theorem d_Mo_readAll_2 : decode b_Mo_readAll 2 = .ok (.iload_n 1, 1) := by decide +kernel
theorem d_Mo_readAll_3 : decode b_Mo_readAll 3 = .ok (.iconst 3, 1) := by decide +kernel
theorem d_Mo_readAll_4 : decode b_Mo_readAll 4 = .ok (.if_icmp .ge 64, 3) := by decide +kernel
theorem d_Mo_readAll_7 : decode b_Mo_readAll 7 = .ok (.aload_n 0, 1) := by decide +kernel
theorem d_Mo_readAll_8 : decode b_Mo_readAll 8 = .ok (.getfield 42, 3) := by decide +kernel
theorem d_Mo_readAll_11 : decode b_Mo_readAll 11 = .ok (.ifCond .ne 57, 3) := by decide +kernel
theorem d_Mo_readAll_14 : decode b_Mo_readAll 14 = .ok (.iload_n 1, 1) := by decide +kernel
theorem d_Mo_readAll_15 : decode b_Mo_readAll 15 = .ok (.ifCond .ne 8, 3) := by decide +kernel
theorem d_Mo_readAll_18 : decode b_Mo_readAll 18 = .ok (.bipush 77, 2) := by decide +kernel
theorem d_Mo_readAll_20 : decode b_Mo_readAll 20 = .ok (.goto 14, 3) := by decide +kernel
theorem d_Mo_readAll_23 : decode b_Mo_readAll 23 = .ok (.iload_n 1, 1) := by decide +kernel
theorem d_Mo_readAll_24 : decode b_Mo_readAll 24 = .ok (.iconst 1, 1) := by decide +kernel
theorem d_Mo_readAll_25 : decode b_Mo_readAll 25 = .ok (.if_icmp .ne 8, 3) := by decide +kernel
theorem d_Mo_readAll_28 : decode b_Mo_readAll 28 = .ok (.bipush 72, 2) := by decide +kernel
theorem d_Mo_readAll_30 : decode b_Mo_readAll 30 = .ok (.goto 4, 3) := by decide +kernel
theorem d_Mo_readAll_33 : decode b_Mo_readAll 33 = .ok (.iconst 1, 1) := by decide +kernel
theorem d_Mo_readAll_34 : decode b_Mo_readAll 34 = .ok (.istore_n 2, 1) := by decide +kernel
theorem d_Mo_readAll_35 : decode b_Mo_readAll 35 = .ok (.aload_n 0, 1) := by decide +kernel
theorem d_Mo_readAll_36 : decode b_Mo_readAll 36 = .ok (.iconst 0, 1) := by decide +kernel
theorem d_Mo_readAll_37 : decode b_Mo_readAll 37 = .ok (.sipush 255, 3) := by decide +kernel
theorem d_Mo_readAll_40 : decode b_Mo_readAll 40 = .ok (.invokevirtual 52, 3) := by decide +kernel
theorem d_Mo_readAll_43 : decode b_Mo_readAll 43 = .ok (.istore_n 3, 1) := by decide +kernel
theorem d_Mo_readAll_44 : decode b_Mo_readAll 44 = .ok (.aload_n 0, 1) := by decide +kernel
theorem d_Mo_readAll_45 : decode b_Mo_readAll 45 = .ok (.getfield 42, 3) := by decide +kernel
theorem d_Mo_readAll_48 : decode b_Mo_readAll 48 = .ok (.ifCond .ne 14, 3) := by decide +kernel
theorem d_Mo_readAll_51 : decode b_Mo_readAll 51 = .ok (.iload_n 3, 1) := by decide +kernel
theorem d_Mo_readAll_52 : decode b_Mo_readAll 52 = .ok (.iload_n 2, 1) := by decide +kernel
theorem d_Mo_readAll_53 : decode b_Mo_readAll 53 = .ok (.if_icmp .eq 9, 3) := by decide +kernel
theorem d_Mo_readAll_56 : decode b_Mo_readAll 56 = .ok (.aload_n 0, 1) := by decide +kernel
theorem d_Mo_readAll_57 : decode b_Mo_readAll 57 = .ok (.iconst 2, 1) := by decide +kernel
theorem d_Mo_readAll_58 : decode b_Mo_readAll 58 = .ok (.iload_n 1, 1) := by decide +kernel
theorem d_Mo_readAll_59 : decode b_Mo_readAll 59 = .ok (.invokevirtual 48, 3) := by decide +kernel
theorem d_Mo_readAll_62 : decode b_Mo_readAll 62 = .ok (.iinc 1 1, 3) := by decide +kernel
theorem d_Mo_readAll_65 : decode b_Mo_readAll 65 = .ok (.goto (-63), 3) := by decide +kernel
theorem d_Mo_readAll_68 : decode b_Mo_readAll 68 = .ok (.aload_n 0, 1) := by decide +kernel
theorem d_Mo_readAll_69 : decode b_Mo_readAll 69 = .ok (.iconst 0, 1) := by decide +kernel
theorem d_Mo_readAll_70 : decode b_Mo_readAll 70 = .ok (.sipush 128, 3) := by decide +kernel
theorem d_Mo_readAll_73 : decode b_Mo_readAll 73 = .ok (.invokevirtual 52, 3) := by decide +kernel
theorem d_Mo_readAll_76 : decode b_Mo_readAll 76 = .ok (.istore_n 1, 1) := by decide +kernel
theorem d_Mo_readAll_77 : decode b_Mo_readAll 77 = .ok (.aload_n 0, 1) := by decide +kernel
theorem d_Mo_readAll_78 : decode b_Mo_readAll 78 = .ok (.iconst 0, 1) := by decide +kernel
theorem d_Mo_readAll_79 : decode b_Mo_readAll 79 = .ok (.bipush 16, 2) := by decide +kernel
theorem d_Mo_readAll_81 : decode b_Mo_readAll 81 = .ok (.invokevirtual 52, 3) := by decide +kernel
theorem d_Mo_readAll_84 : decode b_Mo_readAll 84 = .ok (.istore_n 2, 1) := by decide +kernel
theorem d_Mo_readAll_85 : decode b_Mo_readAll 85 = .ok (.aload_n 0, 1) := by decide +kernel
theorem d_Mo_readAll_86 : decode b_Mo_readAll 86 = .ok (.iconst 1, 1) := by decide +kernel
theorem d_Mo_readAll_87 : decode b_Mo_readAll 87 = .ok (.bipush 32, 2) := by decide +kernel
theorem d_Mo_readAll_89 : decode b_Mo_readAll 89 = .ok (.invokevirtual 52, 3) := by decide +kernel
theorem d_Mo_readAll_92 : decode b_Mo_readAll 92 = .ok (.istore_n 3, 1) := by decide +kernel
theorem d_Mo_readAll_93 : decode b_Mo_readAll 93 = .ok (.aload_n 0, 1) := by decide +kernel
theorem d_Mo_readAll_94 : decode b_Mo_readAll 94 = .ok (.iconst 0, 1) := by decide +kernel
theorem d_Mo_readAll_95 : decode b_Mo_readAll 95 = .ok (.sipush 128, 3) := by decide +kernel
theorem d_Mo_readAll_98 : decode b_Mo_readAll 98 = .ok (.invokevirtual 52, 3) := by decide +kernel
theorem d_Mo_readAll_101 : decode b_Mo_readAll 101 = .ok (.istore 4, 2) := by decide +kernel
theorem d_Mo_readAll_103 : decode b_Mo_readAll 103 = .ok (.iconst 0, 1) := by decide +kernel
theorem d_Mo_readAll_104 : decode b_Mo_readAll 104 = .ok (.istore 5, 2) := by decide +kernel
theorem d_Mo_readAll_106 : decode b_Mo_readAll 106 = .ok (.iload 5, 2) := by decide +kernel
theorem d_Mo_readAll_108 : decode b_Mo_readAll 108 = .ok (.iload_n 1, 1) := by decide +kernel
theorem d_Mo_readAll_109 : decode b_Mo_readAll 109 = .ok (.if_icmp .ge 22, 3) := by decide +kernel
theorem d_Mo_readAll_112 : decode b_Mo_readAll 112 = .ok (.aload_n 0, 1) := by decide +kernel
theorem d_Mo_readAll_113 : decode b_Mo_readAll 113 = .ok (.getfield 42, 3) := by decide +kernel
theorem d_Mo_readAll_116 : decode b_Mo_readAll 116 = .ok (.ifCond .ne 15, 3) := by decide +kernel
theorem d_Mo_readAll_119 : decode b_Mo_readAll 119 = .ok (.aload_n 0, 1) := by decide +kernel
theorem d_Mo_readAll_120 : decode b_Mo_readAll 120 = .ok (.iload 5, 2) := by decide +kernel
theorem d_Mo_readAll_122 : decode b_Mo_readAll 122 = .ok (.invokevirtual 68, 3) := by decide +kernel
theorem d_Mo_readAll_125 : decode b_Mo_readAll 125 = .ok (.iinc 5 1, 3) := by decide +kernel
theorem d_Mo_readAll_128 : decode b_Mo_readAll 128 = .ok (.goto (-22), 3) := by decide +kernel
theorem d_Mo_readAll_131 : decode b_Mo_readAll 131 = .ok (.iconst 0, 1) := by decide +kernel
theorem d_Mo_readAll_132 : decode b_Mo_readAll 132 = .ok (.istore 5, 2) := by decide +kernel
theorem d_Mo_readAll_134 : decode b_Mo_readAll 134 = .ok (.iload 5, 2) := by decide +kernel
theorem d_Mo_readAll_136 : decode b_Mo_readAll 136 = .ok (.iload_n 2, 1) := by decide +kernel
theorem d_Mo_readAll_137 : decode b_Mo_readAll 137 = .ok (.if_icmp .ge 20, 3) := by decide +kernel
theorem d_Mo_readAll_140 : decode b_Mo_readAll 140 = .ok (.aload_n 0, 1) := by decide +kernel
theorem d_Mo_readAll_141 : decode b_Mo_readAll 141 = .ok (.getfield 42, 3) := by decide +kernel
theorem d_Mo_readAll_144 : decode b_Mo_readAll 144 = .ok (.ifCond .ne 13, 3) := by decide +kernel
theorem d_Mo_readAll_147 : decode b_Mo_readAll 147 = .ok (.aload_n 0, 1) := by decide +kernel
theorem d_Mo_readAll_148 : decode b_Mo_readAll 148 = .ok (.invokevirtual 71, 3) := by decide +kernel
theorem d_Mo_readAll_151 : decode b_Mo_readAll 151 = .ok (.iinc 5 1, 3) := by decide +kernel
theorem d_Mo_readAll_154 : decode b_Mo_readAll 154 = .ok (.goto (-20), 3) := by decide +kernel
theorem d_Mo_readAll_157 : decode b_Mo_readAll 157 = .ok (.iconst 0, 1) := by decide +kernel
theorem d_Mo_readAll_158 : decode b_Mo_readAll 158 = .ok (.istore 5, 2) := by decide +kernel
theorem d_Mo_readAll_160 : decode b_Mo_readAll 160 = .ok (.iload 5, 2) := by decide +kernel
theorem d_Mo_readAll_162 : decode b_Mo_readAll 162 = .ok (.iload_n 3, 1) := by decide +kernel
theorem d_Mo_readAll_163 : decode b_Mo_readAll 163 = .ok (.if_icmp .ge 21, 3) := by decide +kernel
theorem d_Mo_readAll_166 : decode b_Mo_readAll 166 = .ok (.aload_n 0, 1) := by decide +kernel
theorem d_Mo_readAll_167 : decode b_Mo_readAll 167 = .ok (.getfield 42, 3) := by decide +kernel
theorem d_Mo_readAll_170 : decode b_Mo_readAll 170 = .ok (.ifCond .ne 14, 3) := by decide +kernel
theorem d_Mo_readAll_173 : decode b_Mo_readAll 173 = .ok (.aload_n 0, 1) := by decide +kernel
theorem d_Mo_readAll_174 : decode b_Mo_readAll 174 = .ok (.iload_n 2, 1) := by decide +kernel
theorem d_Mo_readAll_175 : decode b_Mo_readAll 175 = .ok (.invokevirtual 74, 3) := by decide +kernel
theorem d_Mo_readAll_178 : decode b_Mo_readAll 178 = .ok (.iinc 5 1, 3) := by decide +kernel
theorem d_Mo_readAll_181 : decode b_Mo_readAll 181 = .ok (.goto (-21), 3) := by decide +kernel
theorem d_Mo_readAll_184 : decode b_Mo_readAll 184 = .ok (.aload_n 0, 1) := by decide +kernel
theorem d_Mo_readAll_185 : decode b_Mo_readAll 185 = .ok (.getfield 45, 3) := by decide +kernel
theorem d_Mo_readAll_188 : decode b_Mo_readAll 188 = .ok (.istore 5, 2) := by decide +kernel
theorem d_Mo_readAll_190 : decode b_Mo_readAll 190 = .ok (.iconst 0, 1) := by decide +kernel
theorem d_Mo_readAll_191 : decode b_Mo_readAll 191 = .ok (.istore 6, 2) := by decide +kernel
theorem d_Mo_readAll_193 : decode b_Mo_readAll 193 = .ok (.iload 6, 2) := by decide +kernel
theorem d_Mo_readAll_195 : decode b_Mo_readAll 195 = .ok (.iload 4, 2) := by decide +kernel
theorem d_Mo_readAll_197 : decode b_Mo_readAll 197 = .ok (.if_icmp .ge 23, 3) := by decide +kernel
theorem d_Mo_readAll_200 : decode b_Mo_readAll 200 = .ok (.aload_n 0, 1) := by decide +kernel
theorem d_Mo_readAll_201 : decode b_Mo_readAll 201 = .ok (.getfield 42, 3) := by decide +kernel
theorem d_Mo_readAll_204 : decode b_Mo_readAll 204 = .ok (.ifCond .ne 16, 3) := by decide +kernel
theorem d_Mo_readAll_207 : decode b_Mo_readAll 207 = .ok (.aload_n 0, 1) := by decide +kernel
theorem d_Mo_readAll_208 : decode b_Mo_readAll 208 = .ok (.iload_n 1, 1) := by decide +kernel
theorem d_Mo_readAll_209 : decode b_Mo_readAll 209 = .ok (.iload_n 2, 1) := by decide +kernel
theorem d_Mo_readAll_210 : decode b_Mo_readAll 210 = .ok (.iload_n 3, 1) := by decide +kernel
theorem d_Mo_readAll_211 : decode b_Mo_readAll 211 = .ok (.invokevirtual 77, 3) := by decide +kernel
theorem d_Mo_readAll_214 : decode b_Mo_readAll 214 = .ok (.iinc 6 1, 3) := by decide +kernel
theorem d_Mo_readAll_217 : decode b_Mo_readAll 217 = .ok (.goto (-24), 3) := by decide +kernel
theorem d_Mo_readAll_220 : decode b_Mo_readAll 220 = .ok (.aload_n 0, 1) := by decide +kernel
theorem d_Mo_readAll_221 : decode b_Mo_readAll 221 = .ok (.sipush (-32768), 3) := by decide +kernel
theorem d_Mo_readAll_224 : decode b_Mo_readAll 224 = .ok (.sipush 32767, 3) := by decide +kernel
theorem d_Mo_readAll_227 : decode b_Mo_readAll 227 = .ok (.invokevirtual 57, 3) := by decide +kernel
theorem d_Mo_readAll_230 : decode b_Mo_readAll 230 = .ok (.istore 6, 2) := by decide +kernel
theorem d_Mo_readAll_232 : decode b_Mo_readAll 232 = .ok (.aload_n 0, 1) := by decide +kernel
theorem d_Mo_readAll_233 : decode b_Mo_readAll 233 = .ok (.sipush (-32768), 3) := by decide +kernel
theorem d_Mo_readAll_236 : decode b_Mo_readAll 236 = .ok (.sipush 32767, 3) := by decide +kernel
theorem d_Mo_readAll_239 : decode b_Mo_readAll 239 = .ok (.invokevirtual 57, 3) := by decide +kernel
theorem d_Mo_readAll_242 : decode b_Mo_readAll 242 = .ok (.istore 7, 2) := by decide +kernel
theorem d_Mo_readAll_244 : decode b_Mo_readAll 244 = .ok (.aload_n 0, 1) := by decide +kernel
theorem d_Mo_readAll_245 : decode b_Mo_readAll 245 = .ok (.iconst 0, 1) := by decide +kernel
theorem d_Mo_readAll_246 : decode b_Mo_readAll 246 = .ok (.bipush 63, 2) := by decide +kernel
theorem d_Mo_readAll_248 : decode b_Mo_readAll 248 = .ok (.invokevirtual 52, 3) := by decide +kernel
theorem d_Mo_readAll_251 : decode b_Mo_readAll 251 = .ok (.istore 8, 2) := by decide +kernel
theorem d_Mo_readAll_253 : decode b_Mo_readAll 253 = .ok (.aload_n 0, 1) := by decide +kernel
theorem d_Mo_readAll_254 : decode b_Mo_readAll 254 = .ok (.iconst 0, 1) := by decide +kernel
theorem d_Mo_readAll_255 : decode b_Mo_readAll 255 = .ok (.iload_n 3, 1) := by decide +kernel
theorem d_Mo_readAll_256 : decode b_Mo_readAll 256 = .ok (.iconst 1, 1) := by decide +kernel
theorem d_Mo_readAll_257 : decode b_Mo_readAll 257 = .ok (.isub, 1) := by decide +kernel
theorem d_Mo_readAll_258 : decode b_Mo_readAll 258 = .ok (.invokevirtual 52, 3) := by decide +kernel
theorem d_Mo_readAll_261 : decode b_Mo_readAll 261 = .ok (.istore 9, 2) := by decide +kernel
theorem d_Mo_readAll_263 : decode b_Mo_readAll 263 = .ok (.aload_n 0, 1) := by decide +kernel
theorem d_Mo_readAll_264 : decode b_Mo_readAll 264 = .ok (.getfield 32, 3) := by decide +kernel
theorem d_Mo_readAll_267 : decode b_Mo_readAll 267 = .ok (.istore 10, 2) := by decide +kernel
theorem d_Mo_readAll_269 : decode b_Mo_readAll 269 = .ok (.aload_n 0, 1) := by decide +kernel
theorem d_Mo_readAll_270 : decode b_Mo_readAll 270 = .ok (.getfield 35, 3) := by decide +kernel
theorem d_Mo_readAll_273 : decode b_Mo_readAll 273 = .ok (.istore 11, 2) := by decide +kernel
theorem d_Mo_readAll_275 : decode b_Mo_readAll 275 = .ok (.aload_n 0, 1) := by decide +kernel
theorem d_Mo_readAll_276 : decode b_Mo_readAll 276 = .ok (.iload 10, 2) := by decide +kernel
theorem d_Mo_readAll_278 : decode b_Mo_readAll 278 = .ok (.invokevirtual 81, 3) := by decide +kernel
theorem d_Mo_readAll_281 : decode b_Mo_readAll 281 = .ok (.aload_n 0, 1) := by decide +kernel
theorem d_Mo_readAll_282 : decode b_Mo_readAll 282 = .ok (.iload 11, 2) := by decide +kernel
theorem d_Mo_readAll_284 : decode b_Mo_readAll 284 = .ok (.invokevirtual 81, 3) := by decide +kernel
theorem d_Mo_readAll_287 : decode b_Mo_readAll 287 = .ok (.aload_n 0, 1) := by decide +kernel
theorem d_Mo_readAll_288 : decode b_Mo_readAll 288 = .ok (.getfield 42, 3) := by decide +kernel
theorem d_Mo_readAll_291 : decode b_Mo_readAll 291 = .ok (.ifCond .ne 23, 3) := by decide +kernel
theorem d_Mo_readAll_294 : decode b_Mo_readAll 294 = .ok (.aload_n 0, 1) := by decide +kernel
theorem d_Mo_readAll_295 : decode b_Mo_readAll 295 = .ok (.getfield 45, 3) := by decide +kernel
theorem d_Mo_readAll_298 : decode b_Mo_readAll 298 = .ok (.aload_n 0, 1) := by decide +kernel
theorem d_Mo_readAll_299 : decode b_Mo_readAll 299 = .ok (.getfield 29, 3) := by decide +kernel
theorem d_Mo_readAll_302 : decode b_Mo_readAll 302 = .ok (.if_icmp .ge 12, 3) := by decide +kernel
theorem d_Mo_readAll_305 : decode b_Mo_readAll 305 = .ok (.aload_n 0, 1) := by decide +kernel
theorem d_Mo_readAll_306 : decode b_Mo_readAll 306 = .ok (.iconst 5, 1) := by decide +kernel
theorem d_Mo_readAll_307 : decode b_Mo_readAll 307 = .ok (.aload_n 0, 1) := by decide +kernel
theorem d_Mo_readAll_308 : decode b_Mo_readAll 308 = .ok (.getfield 45, 3) := by decide +kernel
theorem d_Mo_readAll_311 : decode b_Mo_readAll 311 = .ok (.invokevirtual 48, 3) := by decide +kernel
theorem d_Mo_readAll_314 : decode b_Mo_readAll 314 = .ok (.iconst 0, 1) := by decide +kernel
theorem d_Mo_readAll_315 : decode b_Mo_readAll 315 = .ok (.istore 12, 2) := by decide +kernel
theorem d_Mo_readAll_317 : decode b_Mo_readAll 317 = .ok (.iload 12, 2) := by decide +kernel
theorem d_Mo_readAll_319 : decode b_Mo_readAll 319 = .ok (.iload 4, 2) := by decide +kernel
theorem d_Mo_readAll_321 : decode b_Mo_readAll 321 = .ok (.if_icmp .ge 82, 3) := by decide +kernel
theorem d_Mo_readAll_324 : decode b_Mo_readAll 324 = .ok (.aload_n 0, 1) := by decide +kernel
theorem d_Mo_readAll_325 : decode b_Mo_readAll 325 = .ok (.getfield 42, 3) := by decide +kernel
theorem d_Mo_readAll_328 : decode b_Mo_readAll 328 = .ok (.ifCond .ne 75, 3) := by decide +kernel
theorem d_Mo_readAll_331 : decode b_Mo_readAll 331 = .ok (.iconst 0, 1) := by decide +kernel
theorem d_Mo_readAll_332 : decode b_Mo_readAll 332 = .ok (.istore 13, 2) := by decide +kernel
theorem d_Mo_readAll_334 : decode b_Mo_readAll 334 = .ok (.iload 13, 2) := by decide +kernel
theorem d_Mo_readAll_336 : decode b_Mo_readAll 336 = .ok (.iload 12, 2) := by decide +kernel
theorem d_Mo_readAll_338 : decode b_Mo_readAll 338 = .ok (.if_icmp .ge 59, 3) := by decide +kernel
theorem d_Mo_readAll_341 : decode b_Mo_readAll 341 = .ok (.aload_n 0, 1) := by decide +kernel
theorem d_Mo_readAll_342 : decode b_Mo_readAll 342 = .ok (.getfield 42, 3) := by decide +kernel
theorem d_Mo_readAll_345 : decode b_Mo_readAll 345 = .ok (.ifCond .ne 52, 3) := by decide +kernel
theorem d_Mo_readAll_348 : decode b_Mo_readAll 348 = .ok (.aload_n 0, 1) := by decide +kernel
theorem d_Mo_readAll_349 : decode b_Mo_readAll 349 = .ok (.iload 5, 2) := by decide +kernel
theorem d_Mo_readAll_351 : decode b_Mo_readAll 351 = .ok (.bipush 14, 2) := by decide +kernel
theorem d_Mo_readAll_353 : decode b_Mo_readAll 353 = .ok (.iload 13, 2) := by decide +kernel
theorem d_Mo_readAll_355 : decode b_Mo_readAll 355 = .ok (.imul, 1) := by decide +kernel
theorem d_Mo_readAll_356 : decode b_Mo_readAll 356 = .ok (.iadd, 1) := by decide +kernel
theorem d_Mo_readAll_357 : decode b_Mo_readAll 357 = .ok (.iload 5, 2) := by decide +kernel
theorem d_Mo_readAll_359 : decode b_Mo_readAll 359 = .ok (.bipush 14, 2) := by decide +kernel
theorem d_Mo_readAll_361 : decode b_Mo_readAll 361 = .ok (.iload 12, 2) := by decide +kernel
theorem d_Mo_readAll_363 : decode b_Mo_readAll 363 = .ok (.imul, 1) := by decide +kernel
theorem d_Mo_readAll_364 : decode b_Mo_readAll 364 = .ok (.iadd, 1) := by decide +kernel
theorem d_Mo_readAll_365 : decode b_Mo_readAll 365 = .ok (.invokevirtual 84, 3) := by decide +kernel
theorem d_Mo_readAll_368 : decode b_Mo_readAll 368 = .ok (.ifCond .eq 23, 3) := by decide +kernel
theorem d_Mo_readAll_371 : decode b_Mo_readAll 371 = .ok (.aload_n 0, 1) := by decide +kernel
theorem d_Mo_readAll_372 : decode b_Mo_readAll 372 = .ok (.bipush 6, 2) := by decide +kernel
theorem d_Mo_readAll_374 : decode b_Mo_readAll 374 = .ok (.iload 5, 2) := by decide +kernel
theorem d_Mo_readAll_376 : decode b_Mo_readAll 376 = .ok (.bipush 14, 2) := by decide +kernel
theorem d_Mo_readAll_378 : decode b_Mo_readAll 378 = .ok (.iload 12, 2) := by decide +kernel
theorem d_Mo_readAll_380 : decode b_Mo_readAll 380 = .ok (.imul, 1) := by decide +kernel
theorem d_Mo_readAll_381 : decode b_Mo_readAll 381 = .ok (.iadd, 1) := by decide +kernel
theorem d_Mo_readAll_382 : decode b_Mo_readAll 382 = .ok (.invokevirtual 48, 3) := by decide +kernel
theorem d_Mo_readAll_385 : decode b_Mo_readAll 385 = .ok (.aload_n 0, 1) := by decide +kernel
theorem d_Mo_readAll_386 : decode b_Mo_readAll 386 = .ok (.iload 12, 2) := by decide +kernel
theorem d_Mo_readAll_388 : decode b_Mo_readAll 388 = .ok (.putfield 23, 3) := by decide +kernel
theorem d_Mo_readAll_391 : decode b_Mo_readAll 391 = .ok (.iinc 13 1, 3) := by decide +kernel
theorem d_Mo_readAll_394 : decode b_Mo_readAll 394 = .ok (.goto (-60), 3) := by decide +kernel
theorem d_Mo_readAll_397 : decode b_Mo_readAll 397 = .ok (.iinc 12 1, 3) := by decide +kernel
theorem d_Mo_readAll_400 : decode b_Mo_readAll 400 = .ok (.goto (-83), 3) := by decide +kernel
theorem d_Mo_readAll_403 : decode b_Mo_readAll 403 = .ok (.return_, 1) := by decide +kernel
theorem d_Mo_readCheck_0 : decode b_Mo_readCheck 0 = .ok (.aload_n 0, 1) := by decide +kernel
theorem d_Mo_readCheck_1 : decode b_Mo_readCheck 1 = .ok (.getfield 45, 3) := by decide +kernel
theorem d_Mo_readCheck_4 : decode b_Mo_readCheck 4 = .ok (.istore_n 2, 1) := by decide +kernel
theorem d_Mo_readCheck_5 : decode b_Mo_readCheck 5 = .ok (.aload_n 0, 1) := by decide +kernel
theorem d_Mo_readCheck_6 : decode b_Mo_readCheck 6 = .ok (.iconst 0, 1) := by decide +kernel
theorem d_Mo_readCheck_7 : decode b_Mo_readCheck 7 = .ok (.sipush 255, 3) := by decide +kernel
theorem d_Mo_readCheck_10 : decode b_Mo_readCheck 10 = .ok (.invokevirtual 52, 3) := by decide +kernel
theorem d_Mo_readCheck_13 : decode b_Mo_readCheck 13 = .ok (.istore_n 3, 1) := by decide +kernel
theorem d_Mo_readCheck_14 : decode b_Mo_readCheck 14 = .ok (.aload_n 0, 1) := by decide +kernel
theorem d_Mo_readCheck_15 : decode b_Mo_readCheck 15 = .ok (.getfield 42, 3) := by decide +kernel
theorem d_Mo_readCheck_18 : decode b_Mo_readCheck 18 = .ok (.ifCond .ne 14, 3) := by decide +kernel
theorem d_Mo_readCheck_21 : decode b_Mo_readCheck 21 = .ok (.iload_n 3, 1) := by decide +kernel
theorem d_Mo_readCheck_22 : decode b_Mo_readCheck 22 = .ok (.iload_n 1, 1) := by decide +kernel
theorem d_Mo_readCheck_23 : decode b_Mo_readCheck 23 = .ok (.if_icmp .eq 9, 3) := by decide +kernel
theorem d_Mo_readCheck_26 : decode b_Mo_readCheck 26 = .ok (.aload_n 0, 1) := by decide +kernel
theorem d_Mo_readCheck_27 : decode b_Mo_readCheck 27 = .ok (.iconst 4, 1) := by decide +kernel
theorem d_Mo_readCheck_28 : decode b_Mo_readCheck 28 = .ok (.iload_n 2, 1) := by decide +kernel
theorem d_Mo_readCheck_29 : decode b_Mo_readCheck 29 = .ok (.invokevirtual 48, 3) := by decide +kernel
theorem d_Mo_readCheck_32 : decode b_Mo_readCheck 32 = .ok (.return_, 1) := by decide +kernel
theorem d_Mo_vertexOf_0 : decode b_Mo_vertexOf 0 = .ok (.aload_n 0, 1) := by decide +kernel
theorem d_Mo_vertexOf_1 : decode b_Mo_vertexOf 1 = .ok (.getfield 7, 3) := by decide +kernel
theorem d_Mo_vertexOf_4 : decode b_Mo_vertexOf 4 = .ok (.iload_n 1, 1) := by decide +kernel
theorem d_Mo_vertexOf_5 : decode b_Mo_vertexOf 5 = .ok (.iload_n 2, 1) := by decide +kernel
theorem d_Mo_vertexOf_6 : decode b_Mo_vertexOf 6 = .ok (.iadd, 1) := by decide +kernel
theorem d_Mo_vertexOf_7 : decode b_Mo_vertexOf 7 = .ok (.baload, 1) := by decide +kernel
theorem d_Mo_vertexOf_8 : decode b_Mo_vertexOf 8 = .ok (.sipush 255, 3) := by decide +kernel
theorem d_Mo_vertexOf_11 : decode b_Mo_vertexOf 11 = .ok (.iand, 1) := by decide +kernel
theorem d_Mo_vertexOf_12 : decode b_Mo_vertexOf 12 = .ok (.ireturn, 1) := by decide +kernel
theorem d_Mo_cross_0 : decode b_Mo_cross 0 = .ok (.lload_n 0, 1) := by decide +kernel
theorem d_Mo_cross_1 : decode b_Mo_cross 1 = .ok (.lload 6, 2) := by decide +kernel
theorem d_Mo_cross_3 : decode b_Mo_cross 3 = .ok (.lmul, 1) := by decide +kernel
theorem d_Mo_cross_4 : decode b_Mo_cross 4 = .ok (.lload_n 2, 1) := by decide +kernel
theorem d_Mo_cross_5 : decode b_Mo_cross 5 = .ok (.lload 4, 2) := by decide +kernel
theorem d_Mo_cross_7 : decode b_Mo_cross 7 = .ok (.lmul, 1) := by decide +kernel
theorem d_Mo_cross_8 : decode b_Mo_cross 8 = .ok (.lsub, 1) := by decide +kernel
theorem d_Mo_cross_9 : decode b_Mo_cross 9 = .ok (.lreturn, 1) := by decide +kernel
theorem d_Mo_side_0 : decode b_Mo_side 0 = .ok (.aload_n 0, 1) := by decide +kernel
theorem d_Mo_side_1 : decode b_Mo_side 1 = .ok (.getfield 7, 3) := by decide +kernel
theorem d_Mo_side_4 : decode b_Mo_side 4 = .ok (.bipush 7, 2) := by decide +kernel
theorem d_Mo_side_6 : decode b_Mo_side 6 = .ok (.iconst 4, 1) := by decide +kernel
theorem d_Mo_side_7 : decode b_Mo_side 7 = .ok (.aload_n 0, 1) := by decide +kernel
theorem d_Mo_side_8 : decode b_Mo_side 8 = .ok (.iload_n 1, 1) := by decide +kernel
theorem d_Mo_side_9 : decode b_Mo_side 9 = .ok (.iconst 0, 1) := by decide +kernel
theorem d_Mo_side_10 : decode b_Mo_side 10 = .ok (.invokevirtual 88, 3) := by decide +kernel
theorem d_Mo_side_13 : decode b_Mo_side 13 = .ok (.imul, 1) := by decide +kernel
theorem d_Mo_side_14 : decode b_Mo_side 14 = .ok (.iadd, 1) := by decide +kernel
theorem d_Mo_side_15 : decode b_Mo_side 15 = .ok (.invokestatic 60, 3) := by decide +kernel
theorem d_Mo_side_18 : decode b_Mo_side 18 = .ok (.i2l, 1) := by decide +kernel
theorem d_Mo_side_19 : decode b_Mo_side 19 = .ok (.lstore_n 3, 1) := by decide +kernel
theorem d_Mo_side_20 : decode b_Mo_side 20 = .ok (.aload_n 0, 1) := by decide +kernel
theorem d_Mo_side_21 : decode b_Mo_side 21 = .ok (.getfield 7, 3) := by decide +kernel
theorem d_Mo_side_24 : decode b_Mo_side 24 = .ok (.bipush 9, 2) := by decide +kernel
theorem d_Mo_side_26 : decode b_Mo_side 26 = .ok (.iconst 4, 1) := by decide +kernel
theorem d_Mo_side_27 : decode b_Mo_side 27 = .ok (.aload_n 0, 1) := by decide +kernel
theorem d_Mo_side_28 : decode b_Mo_side 28 = .ok (.iload_n 1, 1) := by decide +kernel
theorem d_Mo_side_29 : decode b_Mo_side 29 = .ok (.iconst 0, 1) := by decide +kernel
theorem d_Mo_side_30 : decode b_Mo_side 30 = .ok (.invokevirtual 88, 3) := by decide +kernel
theorem d_Mo_side_33 : decode b_Mo_side 33 = .ok (.imul, 1) := by decide +kernel
theorem d_Mo_side_34 : decode b_Mo_side 34 = .ok (.iadd, 1) := by decide +kernel
theorem d_Mo_side_35 : decode b_Mo_side 35 = .ok (.invokestatic 60, 3) := by decide +kernel
theorem d_Mo_side_38 : decode b_Mo_side 38 = .ok (.i2l, 1) := by decide +kernel
theorem d_Mo_side_39 : decode b_Mo_side 39 = .ok (.lstore 5, 2) := by decide +kernel
theorem d_Mo_side_41 : decode b_Mo_side 41 = .ok (.aload_n 0, 1) := by decide +kernel
theorem d_Mo_side_42 : decode b_Mo_side 42 = .ok (.getfield 7, 3) := by decide +kernel
theorem d_Mo_side_45 : decode b_Mo_side 45 = .ok (.bipush 7, 2) := by decide +kernel
theorem d_Mo_side_47 : decode b_Mo_side 47 = .ok (.iconst 4, 1) := by decide +kernel
theorem d_Mo_side_48 : decode b_Mo_side 48 = .ok (.aload_n 0, 1) := by decide +kernel
theorem d_Mo_side_49 : decode b_Mo_side 49 = .ok (.iload_n 1, 1) := by decide +kernel
theorem d_Mo_side_50 : decode b_Mo_side 50 = .ok (.iconst 1, 1) := by decide +kernel
theorem d_Mo_side_51 : decode b_Mo_side 51 = .ok (.invokevirtual 88, 3) := by decide +kernel
theorem d_Mo_side_54 : decode b_Mo_side 54 = .ok (.imul, 1) := by decide +kernel
theorem d_Mo_side_55 : decode b_Mo_side 55 = .ok (.iadd, 1) := by decide +kernel
theorem d_Mo_side_56 : decode b_Mo_side 56 = .ok (.invokestatic 60, 3) := by decide +kernel
theorem d_Mo_side_59 : decode b_Mo_side 59 = .ok (.i2l, 1) := by decide +kernel
theorem d_Mo_side_60 : decode b_Mo_side 60 = .ok (.lstore 7, 2) := by decide +kernel
theorem d_Mo_side_62 : decode b_Mo_side 62 = .ok (.aload_n 0, 1) := by decide +kernel
theorem d_Mo_side_63 : decode b_Mo_side 63 = .ok (.getfield 7, 3) := by decide +kernel
theorem d_Mo_side_66 : decode b_Mo_side 66 = .ok (.bipush 9, 2) := by decide +kernel
theorem d_Mo_side_68 : decode b_Mo_side 68 = .ok (.iconst 4, 1) := by decide +kernel
theorem d_Mo_side_69 : decode b_Mo_side 69 = .ok (.aload_n 0, 1) := by decide +kernel
theorem d_Mo_side_70 : decode b_Mo_side 70 = .ok (.iload_n 1, 1) := by decide +kernel
theorem d_Mo_side_71 : decode b_Mo_side 71 = .ok (.iconst 1, 1) := by decide +kernel
theorem d_Mo_side_72 : decode b_Mo_side 72 = .ok (.invokevirtual 88, 3) := by decide +kernel
theorem d_Mo_side_75 : decode b_Mo_side 75 = .ok (.imul, 1) := by decide +kernel
theorem d_Mo_side_76 : decode b_Mo_side 76 = .ok (.iadd, 1) := by decide +kernel
theorem d_Mo_side_77 : decode b_Mo_side 77 = .ok (.invokestatic 60, 3) := by decide +kernel
theorem d_Mo_side_80 : decode b_Mo_side 80 = .ok (.i2l, 1) := by decide +kernel
theorem d_Mo_side_81 : decode b_Mo_side 81 = .ok (.lstore 9, 2) := by decide +kernel
theorem d_Mo_side_83 : decode b_Mo_side 83 = .ok (.lload 7, 2) := by decide +kernel
theorem d_Mo_side_85 : decode b_Mo_side 85 = .ok (.lload_n 3, 1) := by decide +kernel
theorem d_Mo_side_86 : decode b_Mo_side 86 = .ok (.lsub, 1) := by decide +kernel
theorem d_Mo_side_87 : decode b_Mo_side 87 = .ok (.lload 9, 2) := by decide +kernel
theorem d_Mo_side_89 : decode b_Mo_side 89 = .ok (.lload 5, 2) := by decide +kernel
theorem d_Mo_side_91 : decode b_Mo_side 91 = .ok (.lsub, 1) := by decide +kernel
theorem d_Mo_side_92 : decode b_Mo_side 92 = .ok (.aload_n 0, 1) := by decide +kernel
theorem d_Mo_side_93 : decode b_Mo_side 93 = .ok (.getfield 7, 3) := by decide +kernel
theorem d_Mo_side_96 : decode b_Mo_side 96 = .ok (.bipush 7, 2) := by decide +kernel
theorem d_Mo_side_98 : decode b_Mo_side 98 = .ok (.iconst 4, 1) := by decide +kernel
theorem d_Mo_side_99 : decode b_Mo_side 99 = .ok (.iload_n 2, 1) := by decide +kernel
theorem d_Mo_side_100 : decode b_Mo_side 100 = .ok (.imul, 1) := by decide +kernel
theorem d_Mo_side_101 : decode b_Mo_side 101 = .ok (.iadd, 1) := by decide +kernel
theorem d_Mo_side_102 : decode b_Mo_side 102 = .ok (.invokestatic 60, 3) := by decide +kernel
theorem d_Mo_side_105 : decode b_Mo_side 105 = .ok (.i2l, 1) := by decide +kernel
theorem d_Mo_side_106 : decode b_Mo_side 106 = .ok (.lload_n 3, 1) := by decide +kernel
theorem d_Mo_side_107 : decode b_Mo_side 107 = .ok (.lsub, 1) := by decide +kernel
theorem d_Mo_side_108 : decode b_Mo_side 108 = .ok (.aload_n 0, 1) := by decide +kernel
theorem d_Mo_side_109 : decode b_Mo_side 109 = .ok (.getfield 7, 3) := by decide +kernel
theorem d_Mo_side_112 : decode b_Mo_side 112 = .ok (.bipush 9, 2) := by decide +kernel
theorem d_Mo_side_114 : decode b_Mo_side 114 = .ok (.iconst 4, 1) := by decide +kernel
theorem d_Mo_side_115 : decode b_Mo_side 115 = .ok (.iload_n 2, 1) := by decide +kernel
theorem d_Mo_side_116 : decode b_Mo_side 116 = .ok (.imul, 1) := by decide +kernel
theorem d_Mo_side_117 : decode b_Mo_side 117 = .ok (.iadd, 1) := by decide +kernel
theorem d_Mo_side_118 : decode b_Mo_side 118 = .ok (.invokestatic 60, 3) := by decide +kernel
theorem d_Mo_side_121 : decode b_Mo_side 121 = .ok (.i2l, 1) := by decide +kernel
theorem d_Mo_side_122 : decode b_Mo_side 122 = .ok (.lload 5, 2) := by decide +kernel
theorem d_Mo_side_124 : decode b_Mo_side 124 = .ok (.lsub, 1) := by decide +kernel
theorem d_Mo_side_125 : decode b_Mo_side 125 = .ok (.invokestatic 91, 3) := by decide +kernel
theorem d_Mo_side_128 : decode b_Mo_side 128 = .ok (.lstore 11, 2) := by decide +kernel
theorem d_Mo_side_130 : decode b_Mo_side 130 = .ok (.lload 11, 2) := by decide +kernel
theorem d_Mo_side_132 : decode b_Mo_side 132 = .ok (.lconst 0, 1) := by decide +kernel
theorem d_Mo_side_133 : decode b_Mo_side 133 = .ok (.lcmp, 1) := by decide +kernel
theorem d_Mo_side_134 : decode b_Mo_side 134 = .ok (.ifCond .ge 7, 3) := by decide +kernel
theorem d_Mo_side_137 : decode b_Mo_side 137 = .ok (.iconst (-1), 1) := by decide +kernel
theorem d_Mo_side_138 : decode b_Mo_side 138 = .ok (.goto 15, 3) := by decide +kernel
theorem d_Mo_side_141 : decode b_Mo_side 141 = .ok (.lload 11, 2) := by decide +kernel
theorem d_Mo_side_143 : decode b_Mo_side 143 = .ok (.lconst 0, 1) := by decide +kernel
theorem d_Mo_side_144 : decode b_Mo_side 144 = .ok (.lcmp, 1) := by decide +kernel
theorem d_Mo_side_145 : decode b_Mo_side 145 = .ok (.ifCond .le 7, 3) := by decide +kernel
theorem d_Mo_side_148 : decode b_Mo_side 148 = .ok (.iconst 1, 1) := by decide +kernel
theorem d_Mo_side_149 : decode b_Mo_side 149 = .ok (.goto 4, 3) := by decide +kernel
theorem d_Mo_side_152 : decode b_Mo_side 152 = .ok (.iconst 0, 1) := by decide +kernel
theorem d_Mo_side_153 : decode b_Mo_side 153 = .ok (.ireturn, 1) := by decide +kernel
theorem d_Mo_lies_0 : decode b_Mo_lies 0 = .ok (.aload_n 0, 1) := by decide +kernel
theorem d_Mo_lies_1 : decode b_Mo_lies 1 = .ok (.iload_n 1, 1) := by decide +kernel
theorem d_Mo_lies_2 : decode b_Mo_lies 2 = .ok (.iconst 0, 1) := by decide +kernel
theorem d_Mo_lies_3 : decode b_Mo_lies 3 = .ok (.invokevirtual 88, 3) := by decide +kernel
theorem d_Mo_lies_6 : decode b_Mo_lies 6 = .ok (.istore_n 3, 1) := by decide +kernel
theorem d_Mo_lies_7 : decode b_Mo_lies 7 = .ok (.aload_n 0, 1) := by decide +kernel
theorem d_Mo_lies_8 : decode b_Mo_lies 8 = .ok (.iload_n 1, 1) := by decide +kernel
theorem d_Mo_lies_9 : decode b_Mo_lies 9 = .ok (.iconst 1, 1) := by decide +kernel
theorem d_Mo_lies_10 : decode b_Mo_lies 10 = .ok (.invokevirtual 88, 3) := by decide +kernel
theorem d_Mo_lies_13 : decode b_Mo_lies 13 = .ok (.istore 4, 2) := by decide +kernel
theorem d_Mo_lies_15 : decode b_Mo_lies 15 = .ok (.iload_n 2, 1) := by decide +kernel
theorem d_Mo_lies_16 : decode b_Mo_lies 16 = .ok (.iload_n 3, 1) := by decide +kernel
theorem d_Mo_lies_17 : decode b_Mo_lies 17 = .ok (.if_icmp .eq 18, 3) := by decide +kernel
theorem d_Mo_lies_20 : decode b_Mo_lies 20 = .ok (.iload_n 2, 1) := by decide +kernel
theorem d_Mo_lies_21 : decode b_Mo_lies 21 = .ok (.iload 4, 2) := by decide +kernel
theorem d_Mo_lies_23 : decode b_Mo_lies 23 = .ok (.if_icmp .eq 12, 3) := by decide +kernel
theorem d_Mo_lies_26 : decode b_Mo_lies 26 = .ok (.aload_n 0, 1) := by decide +kernel
theorem d_Mo_lies_27 : decode b_Mo_lies 27 = .ok (.iload_n 1, 1) := by decide +kernel
theorem d_Mo_lies_28 : decode b_Mo_lies 28 = .ok (.iload_n 2, 1) := by decide +kernel
theorem d_Mo_lies_29 : decode b_Mo_lies 29 = .ok (.invokevirtual 95, 3) := by decide +kernel
theorem d_Mo_lies_32 : decode b_Mo_lies 32 = .ok (.ifCond .eq 5, 3) := by decide +kernel
theorem d_Mo_lies_35 : decode b_Mo_lies 35 = .ok (.iconst 0, 1) := by decide +kernel
theorem d_Mo_lies_36 : decode b_Mo_lies 36 = .ok (.ireturn, 1) := by decide +kernel
theorem d_Mo_lies_37 : decode b_Mo_lies 37 = .ok (.aload_n 0, 1) := by decide +kernel
theorem d_Mo_lies_38 : decode b_Mo_lies 38 = .ok (.getfield 7, 3) := by decide +kernel
theorem d_Mo_lies_41 : decode b_Mo_lies 41 = .ok (.bipush 7, 2) := by decide +kernel
theorem d_Mo_lies_43 : decode b_Mo_lies 43 = .ok (.iconst 4, 1) := by decide +kernel
theorem d_Mo_lies_44 : decode b_Mo_lies 44 = .ok (.iload_n 2, 1) := by decide +kernel
theorem d_Mo_lies_45 : decode b_Mo_lies 45 = .ok (.imul, 1) := by decide +kernel
theorem d_Mo_lies_46 : decode b_Mo_lies 46 = .ok (.iadd, 1) := by decide +kernel
theorem d_Mo_lies_47 : decode b_Mo_lies 47 = .ok (.invokestatic 60, 3) := by decide +kernel
theorem d_Mo_lies_50 : decode b_Mo_lies 50 = .ok (.i2l, 1) := by decide +kernel
theorem d_Mo_lies_51 : decode b_Mo_lies 51 = .ok (.lstore 5, 2) := by decide +kernel
theorem d_Mo_lies_53 : decode b_Mo_lies 53 = .ok (.aload_n 0, 1) := by decide +kernel
theorem d_Mo_lies_54 : decode b_Mo_lies 54 = .ok (.getfield 7, 3) := by decide +kernel
theorem d_Mo_lies_57 : decode b_Mo_lies 57 = .ok (.bipush 9, 2) := by decide +kernel
theorem d_Mo_lies_59 : decode b_Mo_lies 59 = .ok (.iconst 4, 1) := by decide +kernel
theorem d_Mo_lies_60 : decode b_Mo_lies 60 = .ok (.iload_n 2, 1) := by decide +kernel
theorem d_Mo_lies_61 : decode b_Mo_lies 61 = .ok (.imul, 1) := by decide +kernel
theorem d_Mo_lies_62 : decode b_Mo_lies 62 = .ok (.iadd, 1) := by decide +kernel
theorem d_Mo_lies_63 : decode b_Mo_lies 63 = .ok (.invokestatic 60, 3) := by decide +kernel
theorem d_Mo_lies_66 : decode b_Mo_lies 66 = .ok (.i2l, 1) := by decide +kernel
theorem d_Mo_lies_67 : decode b_Mo_lies 67 = .ok (.lstore 7, 2) := by decide +kernel
theorem d_Mo_lies_69 : decode b_Mo_lies 69 = .ok (.aload_n 0, 1) := by decide +kernel
theorem d_Mo_lies_70 : decode b_Mo_lies 70 = .ok (.getfield 7, 3) := by decide +kernel
theorem d_Mo_lies_73 : decode b_Mo_lies 73 = .ok (.bipush 7, 2) := by decide +kernel
theorem d_Mo_lies_75 : decode b_Mo_lies 75 = .ok (.iconst 4, 1) := by decide +kernel
theorem d_Mo_lies_76 : decode b_Mo_lies 76 = .ok (.iload_n 3, 1) := by decide +kernel
theorem d_Mo_lies_77 : decode b_Mo_lies 77 = .ok (.imul, 1) := by decide +kernel
theorem d_Mo_lies_78 : decode b_Mo_lies 78 = .ok (.iadd, 1) := by decide +kernel
theorem d_Mo_lies_79 : decode b_Mo_lies 79 = .ok (.invokestatic 60, 3) := by decide +kernel
theorem d_Mo_lies_82 : decode b_Mo_lies 82 = .ok (.i2l, 1) := by decide +kernel
theorem d_Mo_lies_83 : decode b_Mo_lies 83 = .ok (.lload 5, 2) := by decide +kernel
theorem d_Mo_lies_85 : decode b_Mo_lies 85 = .ok (.lsub, 1) := by decide +kernel
theorem d_Mo_lies_86 : decode b_Mo_lies 86 = .ok (.aload_n 0, 1) := by decide +kernel
theorem d_Mo_lies_87 : decode b_Mo_lies 87 = .ok (.getfield 7, 3) := by decide +kernel
theorem d_Mo_lies_90 : decode b_Mo_lies 90 = .ok (.bipush 7, 2) := by decide +kernel
theorem d_Mo_lies_92 : decode b_Mo_lies 92 = .ok (.iconst 4, 1) := by decide +kernel
theorem d_Mo_lies_93 : decode b_Mo_lies 93 = .ok (.iload 4, 2) := by decide +kernel
theorem d_Mo_lies_95 : decode b_Mo_lies 95 = .ok (.imul, 1) := by decide +kernel
theorem d_Mo_lies_96 : decode b_Mo_lies 96 = .ok (.iadd, 1) := by decide +kernel
theorem d_Mo_lies_97 : decode b_Mo_lies 97 = .ok (.invokestatic 60, 3) := by decide +kernel
theorem d_Mo_lies_100 : decode b_Mo_lies 100 = .ok (.i2l, 1) := by decide +kernel
theorem d_Mo_lies_101 : decode b_Mo_lies 101 = .ok (.lload 5, 2) := by decide +kernel
theorem d_Mo_lies_103 : decode b_Mo_lies 103 = .ok (.lsub, 1) := by decide +kernel
theorem d_Mo_lies_104 : decode b_Mo_lies 104 = .ok (.lmul, 1) := by decide +kernel
theorem d_Mo_lies_105 : decode b_Mo_lies 105 = .ok (.aload_n 0, 1) := by decide +kernel
theorem d_Mo_lies_106 : decode b_Mo_lies 106 = .ok (.getfield 7, 3) := by decide +kernel
theorem d_Mo_lies_109 : decode b_Mo_lies 109 = .ok (.bipush 9, 2) := by decide +kernel
theorem d_Mo_lies_111 : decode b_Mo_lies 111 = .ok (.iconst 4, 1) := by decide +kernel
theorem d_Mo_lies_112 : decode b_Mo_lies 112 = .ok (.iload_n 3, 1) := by decide +kernel
theorem d_Mo_lies_113 : decode b_Mo_lies 113 = .ok (.imul, 1) := by decide +kernel
theorem d_Mo_lies_114 : decode b_Mo_lies 114 = .ok (.iadd, 1) := by decide +kernel
theorem d_Mo_lies_115 : decode b_Mo_lies 115 = .ok (.invokestatic 60, 3) := by decide +kernel
theorem d_Mo_lies_118 : decode b_Mo_lies 118 = .ok (.i2l, 1) := by decide +kernel
theorem d_Mo_lies_119 : decode b_Mo_lies 119 = .ok (.lload 7, 2) := by decide +kernel
theorem d_Mo_lies_121 : decode b_Mo_lies 121 = .ok (.lsub, 1) := by decide +kernel
theorem d_Mo_lies_122 : decode b_Mo_lies 122 = .ok (.aload_n 0, 1) := by decide +kernel
theorem d_Mo_lies_123 : decode b_Mo_lies 123 = .ok (.getfield 7, 3) := by decide +kernel
theorem d_Mo_lies_126 : decode b_Mo_lies 126 = .ok (.bipush 9, 2) := by decide +kernel
theorem d_Mo_lies_128 : decode b_Mo_lies 128 = .ok (.iconst 4, 1) := by decide +kernel
theorem d_Mo_lies_129 : decode b_Mo_lies 129 = .ok (.iload 4, 2) := by decide +kernel
theorem d_Mo_lies_131 : decode b_Mo_lies 131 = .ok (.imul, 1) := by decide +kernel
theorem d_Mo_lies_132 : decode b_Mo_lies 132 = .ok (.iadd, 1) := by decide +kernel
theorem d_Mo_lies_133 : decode b_Mo_lies 133 = .ok (.invokestatic 60, 3) := by decide +kernel
theorem d_Mo_lies_136 : decode b_Mo_lies 136 = .ok (.i2l, 1) := by decide +kernel
theorem d_Mo_lies_137 : decode b_Mo_lies 137 = .ok (.lload 7, 2) := by decide +kernel
theorem d_Mo_lies_139 : decode b_Mo_lies 139 = .ok (.lsub, 1) := by decide +kernel
theorem d_Mo_lies_140 : decode b_Mo_lies 140 = .ok (.lmul, 1) := by decide +kernel
theorem d_Mo_lies_141 : decode b_Mo_lies 141 = .ok (.ladd, 1) := by decide +kernel
theorem d_Mo_lies_142 : decode b_Mo_lies 142 = .ok (.lstore 9, 2) := by decide +kernel
theorem d_Mo_lies_144 : decode b_Mo_lies 144 = .ok (.lload 9, 2) := by decide +kernel
theorem d_Mo_lies_146 : decode b_Mo_lies 146 = .ok (.lconst 0, 1) := by decide +kernel
theorem d_Mo_lies_147 : decode b_Mo_lies 147 = .ok (.lcmp, 1) := by decide +kernel
theorem d_Mo_lies_148 : decode b_Mo_lies 148 = .ok (.ifCond .ge 7, 3) := by decide +kernel
theorem d_Mo_lies_151 : decode b_Mo_lies 151 = .ok (.iconst 1, 1) := by decide +kernel
theorem d_Mo_lies_152 : decode b_Mo_lies 152 = .ok (.goto 4, 3) := by decide +kernel
theorem d_Mo_lies_155 : decode b_Mo_lies 155 = .ok (.iconst 0, 1) := by decide +kernel
theorem d_Mo_lies_156 : decode b_Mo_lies 156 = .ok (.ireturn, 1) := by decide +kernel
theorem d_Mo_touch_0 : decode b_Mo_touch 0 = .ok (.aload_n 0, 1) := by decide +kernel
theorem d_Mo_touch_1 : decode b_Mo_touch 1 = .ok (.iload_n 1, 1) := by decide +kernel
theorem d_Mo_touch_2 : decode b_Mo_touch 2 = .ok (.iconst 0, 1) := by decide +kernel
theorem d_Mo_touch_3 : decode b_Mo_touch 3 = .ok (.invokevirtual 88, 3) := by decide +kernel
theorem d_Mo_touch_6 : decode b_Mo_touch 6 = .ok (.istore_n 3, 1) := by decide +kernel
theorem d_Mo_touch_7 : decode b_Mo_touch 7 = .ok (.aload_n 0, 1) := by decide +kernel
theorem d_Mo_touch_8 : decode b_Mo_touch 8 = .ok (.iload_n 1, 1) := by decide +kernel
theorem d_Mo_touch_9 : decode b_Mo_touch 9 = .ok (.iconst 1, 1) := by decide +kernel
theorem d_Mo_touch_10 : decode b_Mo_touch 10 = .ok (.invokevirtual 88, 3) := by decide +kernel
theorem d_Mo_touch_13 : decode b_Mo_touch 13 = .ok (.istore 4, 2) := by decide +kernel
theorem d_Mo_touch_15 : decode b_Mo_touch 15 = .ok (.aload_n 0, 1) := by decide +kernel
theorem d_Mo_touch_16 : decode b_Mo_touch 16 = .ok (.iload_n 2, 1) := by decide +kernel
theorem d_Mo_touch_17 : decode b_Mo_touch 17 = .ok (.iconst 0, 1) := by decide +kernel
theorem d_Mo_touch_18 : decode b_Mo_touch 18 = .ok (.invokevirtual 88, 3) := by decide +kernel
theorem d_Mo_touch_21 : decode b_Mo_touch 21 = .ok (.istore 5, 2) := by decide +kernel
theorem d_Mo_touch_23 : decode b_Mo_touch 23 = .ok (.aload_n 0, 1) := by decide +kernel
theorem d_Mo_touch_24 : decode b_Mo_touch 24 = .ok (.iload_n 2, 1) := by decide +kernel
theorem d_Mo_touch_25 : decode b_Mo_touch 25 = .ok (.iconst 1, 1) := by decide +kernel
theorem d_Mo_touch_26 : decode b_Mo_touch 26 = .ok (.invokevirtual 88, 3) := by decide +kernel
theorem d_Mo_touch_29 : decode b_Mo_touch 29 = .ok (.istore 6, 2) := by decide +kernel
theorem d_Mo_touch_31 : decode b_Mo_touch 31 = .ok (.iload_n 3, 1) := by decide +kernel
theorem d_Mo_touch_32 : decode b_Mo_touch 32 = .ok (.iload 5, 2) := by decide +kernel
theorem d_Mo_touch_34 : decode b_Mo_touch 34 = .ok (.if_icmp .eq 9, 3) := by decide +kernel
theorem d_Mo_touch_37 : decode b_Mo_touch 37 = .ok (.iload_n 3, 1) := by decide +kernel
theorem d_Mo_touch_38 : decode b_Mo_touch 38 = .ok (.iload 6, 2) := by decide +kernel
theorem d_Mo_touch_40 : decode b_Mo_touch 40 = .ok (.if_icmp .ne 21, 3) := by decide +kernel
theorem d_Mo_touch_43 : decode b_Mo_touch 43 = .ok (.iload 4, 2) := by decide +kernel
theorem d_Mo_touch_45 : decode b_Mo_touch 45 = .ok (.iload 5, 2) := by decide +kernel
theorem d_Mo_touch_47 : decode b_Mo_touch 47 = .ok (.if_icmp .eq 10, 3) := by decide +kernel
theorem d_Mo_touch_50 : decode b_Mo_touch 50 = .ok (.iload 4, 2) := by decide +kernel
theorem d_Mo_touch_52 : decode b_Mo_touch 52 = .ok (.iload 6, 2) := by decide +kernel
theorem d_Mo_touch_54 : decode b_Mo_touch 54 = .ok (.if_icmp .ne 7, 3) := by decide +kernel
theorem d_Mo_touch_57 : decode b_Mo_touch 57 = .ok (.iconst 1, 1) := by decide +kernel
theorem d_Mo_touch_58 : decode b_Mo_touch 58 = .ok (.goto 4, 3) := by decide +kernel
theorem d_Mo_touch_61 : decode b_Mo_touch 61 = .ok (.iconst 0, 1) := by decide +kernel
theorem d_Mo_touch_62 : decode b_Mo_touch 62 = .ok (.istore 7, 2) := by decide +kernel
theorem d_Mo_touch_64 : decode b_Mo_touch 64 = .ok (.aload_n 0, 1) := by decide +kernel
theorem d_Mo_touch_65 : decode b_Mo_touch 65 = .ok (.iload_n 1, 1) := by decide +kernel
theorem d_Mo_touch_66 : decode b_Mo_touch 66 = .ok (.iload 5, 2) := by decide +kernel
theorem d_Mo_touch_68 : decode b_Mo_touch 68 = .ok (.invokevirtual 95, 3) := by decide +kernel
theorem d_Mo_touch_71 : decode b_Mo_touch 71 = .ok (.aload_n 0, 1) := by decide +kernel
theorem d_Mo_touch_72 : decode b_Mo_touch 72 = .ok (.iload_n 1, 1) := by decide +kernel
theorem d_Mo_touch_73 : decode b_Mo_touch 73 = .ok (.iload 6, 2) := by decide +kernel
theorem d_Mo_touch_75 : decode b_Mo_touch 75 = .ok (.invokevirtual 95, 3) := by decide +kernel
theorem d_Mo_touch_78 : decode b_Mo_touch 78 = .ok (.imul, 1) := by decide +kernel
theorem d_Mo_touch_79 : decode b_Mo_touch 79 = .ok (.ifCond .ge 24, 3) := by decide +kernel
theorem d_Mo_touch_82 : decode b_Mo_touch 82 = .ok (.aload_n 0, 1) := by decide +kernel
theorem d_Mo_touch_83 : decode b_Mo_touch 83 = .ok (.iload_n 2, 1) := by decide +kernel
theorem d_Mo_touch_84 : decode b_Mo_touch 84 = .ok (.iload_n 3, 1) := by decide +kernel
theorem d_Mo_touch_85 : decode b_Mo_touch 85 = .ok (.invokevirtual 95, 3) := by decide +kernel
theorem d_Mo_touch_88 : decode b_Mo_touch 88 = .ok (.aload_n 0, 1) := by decide +kernel
theorem d_Mo_touch_89 : decode b_Mo_touch 89 = .ok (.iload_n 2, 1) := by decide +kernel
theorem d_Mo_touch_90 : decode b_Mo_touch 90 = .ok (.iload 4, 2) := by decide +kernel
theorem d_Mo_touch_92 : decode b_Mo_touch 92 = .ok (.invokevirtual 95, 3) := by decide +kernel
theorem d_Mo_touch_95 : decode b_Mo_touch 95 = .ok (.imul, 1) := by decide +kernel
theorem d_Mo_touch_96 : decode b_Mo_touch 96 = .ok (.ifCond .ge 7, 3) := by decide +kernel
theorem d_Mo_touch_99 : decode b_Mo_touch 99 = .ok (.iconst 1, 1) := by decide +kernel
theorem d_Mo_touch_100 : decode b_Mo_touch 100 = .ok (.goto 4, 3) := by decide +kernel
theorem d_Mo_touch_103 : decode b_Mo_touch 103 = .ok (.iconst 0, 1) := by decide +kernel
theorem d_Mo_touch_104 : decode b_Mo_touch 104 = .ok (.istore 8, 2) := by decide +kernel
theorem d_Mo_touch_106 : decode b_Mo_touch 106 = .ok (.iload 7, 2) := by decide +kernel
theorem d_Mo_touch_108 : decode b_Mo_touch 108 = .ok (.ifCond .ne 47, 3) := by decide +kernel
theorem d_Mo_touch_111 : decode b_Mo_touch 111 = .ok (.iload 8, 2) := by decide +kernel
theorem d_Mo_touch_113 : decode b_Mo_touch 113 = .ok (.ifCond .ne 42, 3) := by decide +kernel
theorem d_Mo_touch_116 : decode b_Mo_touch 116 = .ok (.aload_n 0, 1) := by decide +kernel
theorem d_Mo_touch_117 : decode b_Mo_touch 117 = .ok (.iload_n 1, 1) := by decide +kernel
theorem d_Mo_touch_118 : decode b_Mo_touch 118 = .ok (.iload 5, 2) := by decide +kernel
theorem d_Mo_touch_120 : decode b_Mo_touch 120 = .ok (.invokevirtual 98, 3) := by decide +kernel
theorem d_Mo_touch_123 : decode b_Mo_touch 123 = .ok (.ifCond .ne 32, 3) := by decide +kernel
theorem d_Mo_touch_126 : decode b_Mo_touch 126 = .ok (.aload_n 0, 1) := by decide +kernel
theorem d_Mo_touch_127 : decode b_Mo_touch 127 = .ok (.iload_n 1, 1) := by decide +kernel
theorem d_Mo_touch_128 : decode b_Mo_touch 128 = .ok (.iload 6, 2) := by decide +kernel
theorem d_Mo_touch_130 : decode b_Mo_touch 130 = .ok (.invokevirtual 98, 3) := by decide +kernel
theorem d_Mo_touch_133 : decode b_Mo_touch 133 = .ok (.ifCond .ne 22, 3) := by decide +kernel
theorem d_Mo_touch_136 : decode b_Mo_touch 136 = .ok (.aload_n 0, 1) := by decide +kernel
theorem d_Mo_touch_137 : decode b_Mo_touch 137 = .ok (.iload_n 2, 1) := by decide +kernel
theorem d_Mo_touch_138 : decode b_Mo_touch 138 = .ok (.iload_n 3, 1) := by decide +kernel
theorem d_Mo_touch_139 : decode b_Mo_touch 139 = .ok (.invokevirtual 98, 3) := by decide +kernel
theorem d_Mo_touch_142 : decode b_Mo_touch 142 = .ok (.ifCond .ne 13, 3) := by decide +kernel
theorem d_Mo_touch_145 : decode b_Mo_touch 145 = .ok (.aload_n 0, 1) := by decide +kernel
theorem d_Mo_touch_146 : decode b_Mo_touch 146 = .ok (.iload_n 2, 1) := by decide +kernel
theorem d_Mo_touch_147 : decode b_Mo_touch 147 = .ok (.iload 4, 2) := by decide +kernel
theorem d_Mo_touch_149 : decode b_Mo_touch 149 = .ok (.invokevirtual 98, 3) := by decide +kernel
theorem d_Mo_touch_152 : decode b_Mo_touch 152 = .ok (.ifCond .eq 7, 3) := by decide +kernel
theorem d_Mo_touch_155 : decode b_Mo_touch 155 = .ok (.iconst 1, 1) := by decide +kernel
theorem d_Mo_touch_156 : decode b_Mo_touch 156 = .ok (.goto 4, 3) := by decide +kernel
theorem d_Mo_touch_159 : decode b_Mo_touch 159 = .ok (.iconst 0, 1) := by decide +kernel
theorem d_Mo_touch_160 : decode b_Mo_touch 160 = .ok (.ireturn, 1) := by decide +kernel
