theorem d_Mo_read_0 : decode b_Mo_read 0 = .ok (.aload_n 0, 1) := by decide +kernel
theorem d_Mo_read_1 : decode b_Mo_read 1 = .ok (.iconst 0, 1) := by decide +kernel
theorem d_Mo_read_2 : decode b_Mo_read 2 = .ok (.putfield 26, 3) := by decide +kernel
theorem d_Mo_read_5 : decode b_Mo_read 5 = .ok (.aload_n 0, 1) := by decide +kernel
theorem d_Mo_read_6 : decode b_Mo_read 6 = .ok (.iconst 0, 1) := by decide +kernel
theorem d_Mo_read_7 : decode b_Mo_read 7 = .ok (.putfield 45, 3) := by decide +kernel
theorem d_Mo_read_10 : decode b_Mo_read 10 = .ok (.aload_n 0, 1) := by decide +kernel
theorem d_Mo_read_11 : decode b_Mo_read 11 = .ok (.iconst 0, 1) := by decide +kernel
theorem d_Mo_read_12 : decode b_Mo_read 12 = .ok (.putfield 32, 3) := by decide +kernel
theorem d_Mo_read_15 : decode b_Mo_read 15 = .ok (.aload_n 0, 1) := by decide +kernel
theorem d_Mo_read_16 : decode b_Mo_read 16 = .ok (.iconst 0, 1) := by decide +kernel
theorem d_Mo_read_17 : decode b_Mo_read 17 = .ok (.putfield 35, 3) := by decide +kernel
theorem d_Mo_read_20 : decode b_Mo_read 20 = .ok (.aload_n 0, 1) := by decide +kernel
theorem d_Mo_read_21 : decode b_Mo_read 21 = .ok (.iconst 0, 1) := by decide +kernel
theorem d_Mo_read_22 : decode b_Mo_read 22 = .ok (.putfield 42, 3) := by decide +kernel
theorem d_Mo_read_25 : decode b_Mo_read 25 = .ok (.aload_n 0, 1) := by decide +kernel
theorem d_Mo_read_26 : decode b_Mo_read 26 = .ok (.iconst (-1), 1) := by decide +kernel
theorem d_Mo_read_27 : decode b_Mo_read 27 = .ok (.putfield 19, 3) := by decide +kernel
theorem d_Mo_read_30 : decode b_Mo_read 30 = .ok (.aload_n 0, 1) := by decide +kernel
theorem d_Mo_read_31 : decode b_Mo_read 31 = .ok (.iconst (-1), 1) := by decide +kernel
theorem d_Mo_read_32 : decode b_Mo_read 32 = .ok (.putfield 23, 3) := by decide +kernel
theorem d_Mo_read_35 : decode b_Mo_read 35 = .ok (.aload_n 0, 1) := by decide +kernel
theorem d_Mo_read_36 : decode b_Mo_read 36 = .ok (.invokevirtual 101, 3) := by decide +kernel
theorem d_Mo_read_39 : decode b_Mo_read 39 = .ok (.aload_n 0, 1) := by decide +kernel
theorem d_Mo_read_40 : decode b_Mo_read 40 = .ok (.getfield 42, 3) := by decide +kernel
theorem d_Mo_read_43 : decode b_Mo_read 43 = .ok (.ifCond .ne 39, 3) := by decide +kernel
theorem d_Mo_read_46 : decode b_Mo_read 46 = .ok (.iconst 0, 1) := by decide +kernel
theorem d_Mo_read_47 : decode b_Mo_read 47 = .ok (.istore_n 1, 1) := by decide +kernel
theorem d_Mo_read_48 : decode b_Mo_read 48 = .ok (.iload_n 1, 1) := by decide +kernel
theorem d_Mo_read_49 : decode b_Mo_read 49 = .ok (.aload_n 0, 1) := by decide +kernel
theorem d_Mo_read_50 : decode b_Mo_read 50 = .ok (.getfield 29, 3) := by decide +kernel
theorem d_Mo_read_53 : decode b_Mo_read 53 = .ok (.if_icmp .ge 21, 3) := by decide +kernel
theorem d_Mo_read_56 : decode b_Mo_read 56 = .ok (.aload_n 0, 1) := by decide +kernel
theorem d_Mo_read_57 : decode b_Mo_read 57 = .ok (.getfield 13, 3) := by decide +kernel
theorem d_Mo_read_60 : decode b_Mo_read 60 = .ok (.iload_n 1, 1) := by decide +kernel
theorem d_Mo_read_61 : decode b_Mo_read 61 = .ok (.aload_n 0, 1) := by decide +kernel
theorem d_Mo_read_62 : decode b_Mo_read 62 = .ok (.getfield 7, 3) := by decide +kernel
theorem d_Mo_read_65 : decode b_Mo_read 65 = .ok (.iload_n 1, 1) := by decide +kernel
theorem d_Mo_read_66 : decode b_Mo_read 66 = .ok (.baload, 1) := by decide +kernel
theorem d_Mo_read_67 : decode b_Mo_read 67 = .ok (.bastore, 1) := by decide +kernel
theorem d_Mo_read_68 : decode b_Mo_read 68 = .ok (.iinc 1 1, 3) := by decide +kernel
theorem d_Mo_read_71 : decode b_Mo_read 71 = .ok (.goto (-23), 3) := by decide +kernel
theorem d_Mo_read_74 : decode b_Mo_read 74 = .ok (.aload_n 0, 1) := by decide +kernel
theorem d_Mo_read_75 : decode b_Mo_read 75 = .ok (.aload_n 0, 1) := by decide +kernel
theorem d_Mo_read_76 : decode b_Mo_read 76 = .ok (.getfield 29, 3) := by decide +kernel
theorem d_Mo_read_79 : decode b_Mo_read 79 = .ok (.putfield 104, 3) := by decide +kernel
theorem d_Mo_read_82 : decode b_Mo_read 82 = .ok (.aload_n 0, 1) := by decide +kernel
theorem d_Mo_read_83 : decode b_Mo_read 83 = .ok (.getfield 42, 3) := by decide +kernel
theorem d_Mo_read_86 : decode b_Mo_read 86 = .ok (.ireturn, 1) := by decide +kernel
theorem d_Mo_write_0 : decode b_Mo_write 0 = .ok (.aload_n 0, 1) := by decide +kernel
theorem d_Mo_write_1 : decode b_Mo_write 1 = .ok (.iconst 0, 1) := by decide +kernel
theorem d_Mo_write_2 : decode b_Mo_write 2 = .ok (.putfield 26, 3) := by decide +kernel
theorem d_Mo_write_5 : decode b_Mo_write 5 = .ok (.aload_n 0, 1) := by decide +kernel
theorem d_Mo_write_6 : decode b_Mo_write 6 = .ok (.getfield 104, 3) := by decide +kernel
theorem d_Mo_write_9 : decode b_Mo_write 9 = .ok (.ifCond .ne 5, 3) := by decide +kernel
theorem d_Mo_write_12 : decode b_Mo_write 12 = .ok (.iconst (-1), 1) := by decide +kernel
theorem d_Mo_write_13 : decode b_Mo_write 13 = .ok (.ireturn, 1) := by decide +kernel
theorem d_Mo_write_14 : decode b_Mo_write 14 = .ok (.iconst 0, 1) := by decide +kernel
theorem d_Mo_write_15 : decode b_Mo_write 15 = .ok (.istore_n 1, 1) := by decide +kernel
theorem d_Mo_write_16 : decode b_Mo_write 16 = .ok (.iload_n 1, 1) := by decide +kernel
theorem d_Mo_write_17 : decode b_Mo_write 17 = .ok (.aload_n 0, 1) := by decide +kernel
theorem d_Mo_write_18 : decode b_Mo_write 18 = .ok (.getfield 104, 3) := by decide +kernel
theorem d_Mo_write_21 : decode b_Mo_write 21 = .ok (.if_icmp .ge 21, 3) := by decide +kernel
theorem d_Mo_write_24 : decode b_Mo_write 24 = .ok (.aload_n 0, 1) := by decide +kernel
theorem d_Mo_write_25 : decode b_Mo_write 25 = .ok (.getfield 16, 3) := by decide +kernel
theorem d_Mo_write_28 : decode b_Mo_write 28 = .ok (.iload_n 1, 1) := by decide +kernel
theorem d_Mo_write_29 : decode b_Mo_write 29 = .ok (.aload_n 0, 1) := by decide +kernel
theorem d_Mo_write_30 : decode b_Mo_write 30 = .ok (.getfield 13, 3) := by decide +kernel
theorem d_Mo_write_33 : decode b_Mo_write 33 = .ok (.iload_n 1, 1) := by decide +kernel
theorem d_Mo_write_34 : decode b_Mo_write 34 = .ok (.baload, 1) := by decide +kernel
theorem d_Mo_write_35 : decode b_Mo_write 35 = .ok (.bastore, 1) := by decide +kernel
theorem d_Mo_write_36 : decode b_Mo_write 36 = .ok (.iinc 1 1, 3) := by decide +kernel
theorem d_Mo_write_39 : decode b_Mo_write 39 = .ok (.goto (-23), 3) := by decide +kernel
theorem d_Mo_write_42 : decode b_Mo_write 42 = .ok (.aload_n 0, 1) := by decide +kernel
theorem d_Mo_write_43 : decode b_Mo_write 43 = .ok (.aload_n 0, 1) := by decide +kernel
theorem d_Mo_write_44 : decode b_Mo_write 44 = .ok (.getfield 104, 3) := by decide +kernel
theorem d_Mo_write_47 : decode b_Mo_write 47 = .ok (.putfield 107, 3) := by decide +kernel
theorem d_Mo_write_50 : decode b_Mo_write 50 = .ok (.aload_n 0, 1) := by decide +kernel
theorem d_Mo_write_51 : decode b_Mo_write 51 = .ok (.getfield 107, 3) := by decide +kernel
theorem d_Mo_write_54 : decode b_Mo_write 54 = .ok (.ireturn, 1) := by decide +kernel
theorem d_Mo_byteAt_0 : decode b_Mo_byteAt 0 = .ok (.aload_n 0, 1) := by decide +kernel
theorem d_Mo_byteAt_1 : decode b_Mo_byteAt 1 = .ok (.iconst 0, 1) := by decide +kernel
theorem d_Mo_byteAt_2 : decode b_Mo_byteAt 2 = .ok (.putfield 26, 3) := by decide +kernel
theorem d_Mo_byteAt_5 : decode b_Mo_byteAt 5 = .ok (.iload_n 1, 1) := by decide +kernel
theorem d_Mo_byteAt_6 : decode b_Mo_byteAt 6 = .ok (.ifCond .lt 22, 3) := by decide +kernel
theorem d_Mo_byteAt_9 : decode b_Mo_byteAt 9 = .ok (.iload_n 1, 1) := by decide +kernel
theorem d_Mo_byteAt_10 : decode b_Mo_byteAt 10 = .ok (.iload_n 2, 1) := by decide +kernel
theorem d_Mo_byteAt_11 : decode b_Mo_byteAt 11 = .ok (.ifCond .eq 10, 3) := by decide +kernel
theorem d_Mo_byteAt_14 : decode b_Mo_byteAt 14 = .ok (.aload_n 0, 1) := by decide +kernel
theorem d_Mo_byteAt_15 : decode b_Mo_byteAt 15 = .ok (.getfield 29, 3) := by decide +kernel
theorem d_Mo_byteAt_18 : decode b_Mo_byteAt 18 = .ok (.goto 7, 3) := by decide +kernel
theorem d_Mo_byteAt_21 : decode b_Mo_byteAt 21 = .ok (.aload_n 0, 1) := by decide +kernel
theorem d_Mo_byteAt_22 : decode b_Mo_byteAt 22 = .ok (.getfield 107, 3) := by decide +kernel
theorem d_Mo_byteAt_25 : decode b_Mo_byteAt 25 = .ok (.if_icmp .lt 5, 3) := by decide +kernel
theorem d_Mo_byteAt_28 : decode b_Mo_byteAt 28 = .ok (.iconst (-1), 1) := by decide +kernel
theorem d_Mo_byteAt_29 : decode b_Mo_byteAt 29 = .ok (.ireturn, 1) := by decide +kernel
theorem d_Mo_byteAt_30 : decode b_Mo_byteAt 30 = .ok (.iload_n 2, 1) := by decide +kernel
theorem d_Mo_byteAt_31 : decode b_Mo_byteAt 31 = .ok (.ifCond .eq 12, 3) := by decide +kernel
theorem d_Mo_byteAt_34 : decode b_Mo_byteAt 34 = .ok (.aload_n 0, 1) := by decide +kernel
theorem d_Mo_byteAt_35 : decode b_Mo_byteAt 35 = .ok (.getfield 7, 3) := by decide +kernel
theorem d_Mo_byteAt_38 : decode b_Mo_byteAt 38 = .ok (.iload_n 1, 1) := by decide +kernel
theorem d_Mo_byteAt_39 : decode b_Mo_byteAt 39 = .ok (.baload, 1) := by decide +kernel
theorem d_Mo_byteAt_40 : decode b_Mo_byteAt 40 = .ok (.goto 9, 3) := by decide +kernel
theorem d_Mo_byteAt_43 : decode b_Mo_byteAt 43 = .ok (.aload_n 0, 1) := by decide +kernel
theorem d_Mo_byteAt_44 : decode b_Mo_byteAt 44 = .ok (.getfield 16, 3) := by decide +kernel
theorem d_Mo_byteAt_47 : decode b_Mo_byteAt 47 = .ok (.iload_n 1, 1) := by decide +kernel
theorem d_Mo_byteAt_48 : decode b_Mo_byteAt 48 = .ok (.baload, 1) := by decide +kernel
theorem d_Mo_byteAt_49 : decode b_Mo_byteAt 49 = .ok (.sipush 255, 3) := by decide +kernel
theorem d_Mo_byteAt_52 : decode b_Mo_byteAt 52 = .ok (.iand, 1) := by decide +kernel
theorem d_Mo_byteAt_53 : decode b_Mo_byteAt 53 = .ok (.ireturn, 1) := by decide +kernel
theorem d_Mo_many_0 : decode b_Mo_many 0 = .ok (.aload_n 0, 1) := by decide +kernel
theorem d_Mo_many_1 : decode b_Mo_many 1 = .ok (.getfield 104, 3) := by decide +kernel
theorem d_Mo_many_4 : decode b_Mo_many 4 = .ok (.ifCond .ne 7, 3) := by decide +kernel
theorem d_Mo_many_7 : decode b_Mo_many 7 = .ok (.iconst 0, 1) := by decide +kernel
theorem d_Mo_many_8 : decode b_Mo_many 8 = .ok (.goto 13, 3) := by decide +kernel
theorem d_Mo_many_11 : decode b_Mo_many 11 = .ok (.aload_n 0, 1) := by decide +kernel
theorem d_Mo_many_12 : decode b_Mo_many 12 = .ok (.getfield 13, 3) := by decide +kernel
theorem d_Mo_many_15 : decode b_Mo_many 15 = .ok (.iload_n 1, 1) := by decide +kernel
theorem d_Mo_many_16 : decode b_Mo_many 16 = .ok (.baload, 1) := by decide +kernel
theorem d_Mo_many_17 : decode b_Mo_many 17 = .ok (.sipush 255, 3) := by decide +kernel
theorem d_Mo_many_20 : decode b_Mo_many 20 = .ok (.iand, 1) := by decide +kernel
theorem d_Mo_many_21 : decode b_Mo_many 21 = .ok (.ireturn, 1) := by decide +kernel
theorem d_Mo_textureAt_0 : decode b_Mo_textureAt 0 = .ok (.bipush 7, 2) := by decide +kernel
theorem d_Mo_textureAt_2 : decode b_Mo_textureAt 2 = .ok (.iconst 4, 1) := by decide +kernel
theorem d_Mo_textureAt_3 : decode b_Mo_textureAt 3 = .ok (.aload_n 0, 1) := by decide +kernel
theorem d_Mo_textureAt_4 : decode b_Mo_textureAt 4 = .ok (.iconst 3, 1) := by decide +kernel
theorem d_Mo_textureAt_5 : decode b_Mo_textureAt 5 = .ok (.invokevirtual 110, 3) := by decide +kernel
theorem d_Mo_textureAt_8 : decode b_Mo_textureAt 8 = .ok (.imul, 1) := by decide +kernel
theorem d_Mo_textureAt_9 : decode b_Mo_textureAt 9 = .ok (.iadd, 1) := by decide +kernel
theorem d_Mo_textureAt_10 : decode b_Mo_textureAt 10 = .ok (.istore_n 2, 1) := by decide +kernel
theorem d_Mo_textureAt_11 : decode b_Mo_textureAt 11 = .ok (.iconst 0, 1) := by decide +kernel
theorem d_Mo_textureAt_12 : decode b_Mo_textureAt 12 = .ok (.istore_n 3, 1) := by decide +kernel
theorem d_Mo_textureAt_13 : decode b_Mo_textureAt 13 = .ok (.iload_n 3, 1) := by decide +kernel
theorem d_Mo_textureAt_14 : decode b_Mo_textureAt 14 = .ok (.iload_n 1, 1) := by decide +kernel
theorem d_Mo_textureAt_15 : decode b_Mo_textureAt 15 = .ok (.if_icmp .ge 31, 3) := by decide +kernel
theorem d_Mo_textureAt_18 : decode b_Mo_textureAt 18 = .ok (.iload_n 2, 1) := by decide +kernel
theorem d_Mo_textureAt_19 : decode b_Mo_textureAt 19 = .ok (.iconst 2, 1) := by decide +kernel
theorem d_Mo_textureAt_20 : decode b_Mo_textureAt 20 = .ok (.iconst 1, 1) := by decide +kernel
theorem d_Mo_textureAt_21 : decode b_Mo_textureAt 21 = .ok (.aload_n 0, 1) := by decide +kernel
theorem d_Mo_textureAt_22 : decode b_Mo_textureAt 22 = .ok (.getfield 13, 3) := by decide +kernel
theorem d_Mo_textureAt_25 : decode b_Mo_textureAt 25 = .ok (.iload_n 2, 1) := by decide +kernel
theorem d_Mo_textureAt_26 : decode b_Mo_textureAt 26 = .ok (.baload, 1) := by decide +kernel
theorem d_Mo_textureAt_27 : decode b_Mo_textureAt 27 = .ok (.aload_n 0, 1) := by decide +kernel
theorem d_Mo_textureAt_28 : decode b_Mo_textureAt 28 = .ok (.getfield 13, 3) := by decide +kernel
theorem d_Mo_textureAt_31 : decode b_Mo_textureAt 31 = .ok (.iload_n 2, 1) := by decide +kernel
theorem d_Mo_textureAt_32 : decode b_Mo_textureAt 32 = .ok (.iconst 1, 1) := by decide +kernel
theorem d_Mo_textureAt_33 : decode b_Mo_textureAt 33 = .ok (.iadd, 1) := by decide +kernel
theorem d_Mo_textureAt_34 : decode b_Mo_textureAt 34 = .ok (.baload, 1) := by decide +kernel
theorem d_Mo_textureAt_35 : decode b_Mo_textureAt 35 = .ok (.iadd, 1) := by decide +kernel
theorem d_Mo_textureAt_36 : decode b_Mo_textureAt 36 = .ok (.ishl, 1) := by decide +kernel
theorem d_Mo_textureAt_37 : decode b_Mo_textureAt 37 = .ok (.iadd, 1) := by decide +kernel
theorem d_Mo_textureAt_38 : decode b_Mo_textureAt 38 = .ok (.iadd, 1) := by decide +kernel
theorem d_Mo_textureAt_39 : decode b_Mo_textureAt 39 = .ok (.istore_n 2, 1) := by decide +kernel
theorem d_Mo_textureAt_40 : decode b_Mo_textureAt 40 = .ok (.iinc 3 1, 3) := by decide +kernel
theorem d_Mo_textureAt_43 : decode b_Mo_textureAt 43 = .ok (.goto (-30), 3) := by decide +kernel
theorem d_Mo_textureAt_46 : decode b_Mo_textureAt 46 = .ok (.iload_n 2, 1) := by decide +kernel
theorem d_Mo_textureAt_47 : decode b_Mo_textureAt 47 = .ok (.ireturn, 1) := by decide +kernel
theorem d_Mo_sectorAt_0 : decode b_Mo_sectorAt 0 = .ok (.aload_n 0, 1) := by decide +kernel
theorem d_Mo_sectorAt_1 : decode b_Mo_sectorAt 1 = .ok (.aload_n 0, 1) := by decide +kernel
theorem d_Mo_sectorAt_2 : decode b_Mo_sectorAt 2 = .ok (.iconst 4, 1) := by decide +kernel
theorem d_Mo_sectorAt_3 : decode b_Mo_sectorAt 3 = .ok (.invokevirtual 110, 3) := by decide +kernel
theorem d_Mo_sectorAt_6 : decode b_Mo_sectorAt 6 = .ok (.invokevirtual 113, 3) := by decide +kernel
theorem d_Mo_sectorAt_9 : decode b_Mo_sectorAt 9 = .ok (.bipush 9, 2) := by decide +kernel
theorem d_Mo_sectorAt_11 : decode b_Mo_sectorAt 11 = .ok (.iload_n 1, 1) := by decide +kernel
theorem d_Mo_sectorAt_12 : decode b_Mo_sectorAt 12 = .ok (.imul, 1) := by decide +kernel
theorem d_Mo_sectorAt_13 : decode b_Mo_sectorAt 13 = .ok (.iadd, 1) := by decide +kernel
theorem d_Mo_sectorAt_14 : decode b_Mo_sectorAt 14 = .ok (.ireturn, 1) := by decide +kernel
theorem d_Mo_wallAt_0 : decode b_Mo_wallAt 0 = .ok (.aload_n 0, 1) := by decide +kernel
theorem d_Mo_wallAt_1 : decode b_Mo_wallAt 1 = .ok (.aload_n 0, 1) := by decide +kernel
theorem d_Mo_wallAt_2 : decode b_Mo_wallAt 2 = .ok (.iconst 5, 1) := by decide +kernel
theorem d_Mo_wallAt_3 : decode b_Mo_wallAt 3 = .ok (.invokevirtual 110, 3) := by decide +kernel
theorem d_Mo_wallAt_6 : decode b_Mo_wallAt 6 = .ok (.invokevirtual 116, 3) := by decide +kernel
theorem d_Mo_wallAt_9 : decode b_Mo_wallAt 9 = .ok (.bipush 14, 2) := by decide +kernel
theorem d_Mo_wallAt_11 : decode b_Mo_wallAt 11 = .ok (.iload_n 1, 1) := by decide +kernel
theorem d_Mo_wallAt_12 : decode b_Mo_wallAt 12 = .ok (.imul, 1) := by decide +kernel
theorem d_Mo_wallAt_13 : decode b_Mo_wallAt 13 = .ok (.iadd, 1) := by decide +kernel
theorem d_Mo_wallAt_14 : decode b_Mo_wallAt 14 = .ok (.ireturn, 1) := by decide +kernel
theorem d_Mo_has_0 : decode b_Mo_has 0 = .ok (.iload_n 2, 1) := by decide +kernel
theorem d_Mo_has_1 : decode b_Mo_has 1 = .ok (.ifCond .lt 16, 3) := by decide +kernel
theorem d_Mo_has_4 : decode b_Mo_has 4 = .ok (.iload_n 2, 1) := by decide +kernel
theorem d_Mo_has_5 : decode b_Mo_has 5 = .ok (.aload_n 0, 1) := by decide +kernel
theorem d_Mo_has_6 : decode b_Mo_has 6 = .ok (.iload_n 1, 1) := by decide +kernel
theorem d_Mo_has_7 : decode b_Mo_has 7 = .ok (.invokevirtual 110, 3) := by decide +kernel
theorem d_Mo_has_10 : decode b_Mo_has 10 = .ok (.if_icmp .ge 7, 3) := by decide +kernel
theorem d_Mo_has_13 : decode b_Mo_has 13 = .ok (.iconst 1, 1) := by decide +kernel
theorem d_Mo_has_14 : decode b_Mo_has 14 = .ok (.goto 4, 3) := by decide +kernel
theorem d_Mo_has_17 : decode b_Mo_has 17 = .ok (.iconst 0, 1) := by decide +kernel
theorem d_Mo_has_18 : decode b_Mo_has 18 = .ok (.ireturn, 1) := by decide +kernel
theorem d_Mo_vertex_0 : decode b_Mo_vertex 0 = .ok (.aload_n 0, 1) := by decide +kernel
theorem d_Mo_vertex_1 : decode b_Mo_vertex 1 = .ok (.iconst 0, 1) := by decide +kernel
theorem d_Mo_vertex_2 : decode b_Mo_vertex 2 = .ok (.putfield 26, 3) := by decide +kernel
theorem d_Mo_vertex_5 : decode b_Mo_vertex 5 = .ok (.aload_n 0, 1) := by decide +kernel
theorem d_Mo_vertex_6 : decode b_Mo_vertex 6 = .ok (.iconst 3, 1) := by decide +kernel
theorem d_Mo_vertex_7 : decode b_Mo_vertex 7 = .ok (.iload_n 1, 1) := by decide +kernel
theorem d_Mo_vertex_8 : decode b_Mo_vertex 8 = .ok (.invokevirtual 119, 3) := by decide +kernel
theorem d_Mo_vertex_11 : decode b_Mo_vertex 11 = .ok (.ifCond .eq 28, 3) := by decide +kernel
theorem d_Mo_vertex_14 : decode b_Mo_vertex 14 = .ok (.aload_n 0, 1) := by decide +kernel
theorem d_Mo_vertex_15 : decode b_Mo_vertex 15 = .ok (.getfield 13, 3) := by decide +kernel
theorem d_Mo_vertex_18 : decode b_Mo_vertex 18 = .ok (.iload_n 2, 1) := by decide +kernel
theorem d_Mo_vertex_19 : decode b_Mo_vertex 19 = .ok (.ifCond .eq 8, 3) := by decide +kernel
theorem d_Mo_vertex_22 : decode b_Mo_vertex 22 = .ok (.bipush 7, 2) := by decide +kernel
theorem d_Mo_vertex_24 : decode b_Mo_vertex 24 = .ok (.goto 5, 3) := by decide +kernel
theorem d_Mo_vertex_27 : decode b_Mo_vertex 27 = .ok (.bipush 9, 2) := by decide +kernel
theorem d_Mo_vertex_29 : decode b_Mo_vertex 29 = .ok (.iconst 4, 1) := by decide +kernel
theorem d_Mo_vertex_30 : decode b_Mo_vertex 30 = .ok (.iload_n 1, 1) := by decide +kernel
theorem d_Mo_vertex_31 : decode b_Mo_vertex 31 = .ok (.imul, 1) := by decide +kernel
theorem d_Mo_vertex_32 : decode b_Mo_vertex 32 = .ok (.iadd, 1) := by decide +kernel
theorem d_Mo_vertex_33 : decode b_Mo_vertex 33 = .ok (.invokestatic 60, 3) := by decide +kernel
theorem d_Mo_vertex_36 : decode b_Mo_vertex 36 = .ok (.goto 5, 3) := by decide +kernel
theorem d_Mo_vertex_39 : decode b_Mo_vertex 39 = .ok (.ldc 122, 2) := by decide +kernel
theorem d_Mo_vertex_41 : decode b_Mo_vertex 41 = .ok (.ireturn, 1) := by decide +kernel
theorem d_Mo_texture_0 : decode b_Mo_texture 0 = .ok (.aload_n 0, 1) := by decide +kernel
theorem d_Mo_texture_1 : decode b_Mo_texture 1 = .ok (.iconst 0, 1) := by decide +kernel
theorem d_Mo_texture_2 : decode b_Mo_texture 2 = .ok (.putfield 26, 3) := by decide +kernel
theorem d_Mo_texture_5 : decode b_Mo_texture 5 = .ok (.aload_n 0, 1) := by decide +kernel
theorem d_Mo_texture_6 : decode b_Mo_texture 6 = .ok (.iconst 4, 1) := by decide +kernel
theorem d_Mo_texture_7 : decode b_Mo_texture 7 = .ok (.iload_n 1, 1) := by decide +kernel
theorem d_Mo_texture_8 : decode b_Mo_texture 8 = .ok (.invokevirtual 119, 3) := by decide +kernel
theorem d_Mo_texture_11 : decode b_Mo_texture 11 = .ok (.ifCond .eq 7, 3) := by decide +kernel
theorem d_Mo_texture_14 : decode b_Mo_texture 14 = .ok (.iload_n 2, 1) := by decide +kernel
theorem d_Mo_texture_15 : decode b_Mo_texture 15 = .ok (.ifCond .ge 5, 3) := by decide +kernel
theorem d_Mo_texture_18 : decode b_Mo_texture 18 = .ok (.iconst (-1), 1) := by decide +kernel
theorem d_Mo_texture_19 : decode b_Mo_texture 19 = .ok (.ireturn, 1) := by decide +kernel
theorem d_Mo_texture_20 : decode b_Mo_texture 20 = .ok (.aload_n 0, 1) := by decide +kernel
theorem d_Mo_texture_21 : decode b_Mo_texture 21 = .ok (.iload_n 1, 1) := by decide +kernel
theorem d_Mo_texture_22 : decode b_Mo_texture 22 = .ok (.invokevirtual 113, 3) := by decide +kernel
theorem d_Mo_texture_25 : decode b_Mo_texture 25 = .ok (.istore_n 3, 1) := by decide +kernel
theorem d_Mo_texture_26 : decode b_Mo_texture 26 = .ok (.iconst 1, 1) := by decide +kernel
theorem d_Mo_texture_27 : decode b_Mo_texture 27 = .ok (.aload_n 0, 1) := by decide +kernel
theorem d_Mo_texture_28 : decode b_Mo_texture 28 = .ok (.getfield 13, 3) := by decide +kernel
theorem d_Mo_texture_31 : decode b_Mo_texture 31 = .ok (.iload_n 3, 1) := by decide +kernel
theorem d_Mo_texture_32 : decode b_Mo_texture 32 = .ok (.baload, 1) := by decide +kernel
theorem d_Mo_texture_33 : decode b_Mo_texture 33 = .ok (.ishl, 1) := by decide +kernel
theorem d_Mo_texture_34 : decode b_Mo_texture 34 = .ok (.istore 4, 2) := by decide +kernel
theorem d_Mo_texture_36 : decode b_Mo_texture 36 = .ok (.iconst 1, 1) := by decide +kernel
theorem d_Mo_texture_37 : decode b_Mo_texture 37 = .ok (.aload_n 0, 1) := by decide +kernel
theorem d_Mo_texture_38 : decode b_Mo_texture 38 = .ok (.getfield 13, 3) := by decide +kernel
theorem d_Mo_texture_41 : decode b_Mo_texture 41 = .ok (.iload_n 3, 1) := by decide +kernel
theorem d_Mo_texture_42 : decode b_Mo_texture 42 = .ok (.iconst 1, 1) := by decide +kernel
theorem d_Mo_texture_43 : decode b_Mo_texture 43 = .ok (.iadd, 1) := by decide +kernel
theorem d_Mo_texture_44 : decode b_Mo_texture 44 = .ok (.baload, 1) := by decide +kernel
theorem d_Mo_texture_45 : decode b_Mo_texture 45 = .ok (.ishl, 1) := by decide +kernel
theorem d_Mo_texture_46 : decode b_Mo_texture 46 = .ok (.istore 5, 2) := by decide +kernel
theorem d_Mo_texture_48 : decode b_Mo_texture 48 = .ok (.iload_n 2, 1) := by decide +kernel
theorem d_Mo_texture_49 : decode b_Mo_texture 49 = .ok (.iconst 2, 1) := by decide +kernel
theorem d_Mo_texture_50 : decode b_Mo_texture 50 = .ok (.if_icmp .ge 15, 3) := by decide +kernel
theorem d_Mo_texture_53 : decode b_Mo_texture 53 = .ok (.iload_n 2, 1) := by decide +kernel
theorem d_Mo_texture_54 : decode b_Mo_texture 54 = .ok (.ifCond .ne 8, 3) := by decide +kernel
theorem d_Mo_texture_57 : decode b_Mo_texture 57 = .ok (.iload 4, 2) := by decide +kernel
theorem d_Mo_texture_59 : decode b_Mo_texture 59 = .ok (.goto 5, 3) := by decide +kernel
theorem d_Mo_texture_62 : decode b_Mo_texture 62 = .ok (.iload 5, 2) := by decide +kernel
theorem d_Mo_texture_64 : decode b_Mo_texture 64 = .ok (.ireturn, 1) := by decide +kernel
theorem d_Mo_texture_65 : decode b_Mo_texture 65 = .ok (.iload_n 2, 1) := by decide +kernel
theorem d_Mo_texture_66 : decode b_Mo_texture 66 = .ok (.iconst 2, 1) := by decide +kernel
theorem d_Mo_texture_67 : decode b_Mo_texture 67 = .ok (.isub, 1) := by decide +kernel
theorem d_Mo_texture_68 : decode b_Mo_texture 68 = .ok (.bipush 16, 2) := by decide +kernel
theorem d_Mo_texture_70 : decode b_Mo_texture 70 = .ok (.idiv, 1) := by decide +kernel
theorem d_Mo_texture_71 : decode b_Mo_texture 71 = .ok (.istore 6, 2) := by decide +kernel
theorem d_Mo_texture_73 : decode b_Mo_texture 73 = .ok (.iload_n 2, 1) := by decide +kernel
theorem d_Mo_texture_74 : decode b_Mo_texture 74 = .ok (.iconst 2, 1) := by decide +kernel
theorem d_Mo_texture_75 : decode b_Mo_texture 75 = .ok (.isub, 1) := by decide +kernel
theorem d_Mo_texture_76 : decode b_Mo_texture 76 = .ok (.bipush 16, 2) := by decide +kernel
theorem d_Mo_texture_78 : decode b_Mo_texture 78 = .ok (.irem, 1) := by decide +kernel
theorem d_Mo_texture_79 : decode b_Mo_texture 79 = .ok (.istore 7, 2) := by decide +kernel
theorem d_Mo_texture_81 : decode b_Mo_texture 81 = .ok (.iload 6, 2) := by decide +kernel
theorem d_Mo_texture_83 : decode b_Mo_texture 83 = .ok (.iload 5, 2) := by decide +kernel
theorem d_Mo_texture_85 : decode b_Mo_texture 85 = .ok (.if_icmp .ge 30, 3) := by decide +kernel
theorem d_Mo_texture_88 : decode b_Mo_texture 88 = .ok (.iload 7, 2) := by decide +kernel
theorem d_Mo_texture_90 : decode b_Mo_texture 90 = .ok (.iload 4, 2) := by decide +kernel
theorem d_Mo_texture_92 : decode b_Mo_texture 92 = .ok (.if_icmp .ge 23, 3) := by decide +kernel
theorem d_Mo_texture_95 : decode b_Mo_texture 95 = .ok (.aload_n 0, 1) := by decide +kernel
theorem d_Mo_texture_96 : decode b_Mo_texture 96 = .ok (.getfield 13, 3) := by decide +kernel
theorem d_Mo_texture_99 : decode b_Mo_texture 99 = .ok (.iload_n 3, 1) := by decide +kernel
theorem d_Mo_texture_100 : decode b_Mo_texture 100 = .ok (.iconst 2, 1) := by decide +kernel
theorem d_Mo_texture_101 : decode b_Mo_texture 101 = .ok (.iadd, 1) := by decide +kernel
theorem d_Mo_texture_102 : decode b_Mo_texture 102 = .ok (.iload 4, 2) := by decide +kernel
theorem d_Mo_texture_104 : decode b_Mo_texture 104 = .ok (.iload 6, 2) := by decide +kernel
theorem d_Mo_texture_106 : decode b_Mo_texture 106 = .ok (.imul, 1) := by decide +kernel
theorem d_Mo_texture_107 : decode b_Mo_texture 107 = .ok (.iadd, 1) := by decide +kernel
theorem d_Mo_texture_108 : decode b_Mo_texture 108 = .ok (.iload 7, 2) := by decide +kernel
theorem d_Mo_texture_110 : decode b_Mo_texture 110 = .ok (.iadd, 1) := by decide +kernel
theorem d_Mo_texture_111 : decode b_Mo_texture 111 = .ok (.baload, 1) := by decide +kernel
theorem d_Mo_texture_112 : decode b_Mo_texture 112 = .ok (.goto 4, 3) := by decide +kernel
theorem d_Mo_texture_115 : decode b_Mo_texture 115 = .ok (.iconst (-1), 1) := by decide +kernel
theorem d_Mo_texture_116 : decode b_Mo_texture 116 = .ok (.ireturn, 1) := by decide +kernel
theorem d_Mo_sector_0 : decode b_Mo_sector 0 = .ok (.aload_n 0, 1) := by decide +kernel
theorem d_Mo_sector_1 : decode b_Mo_sector 1 = .ok (.iconst 0, 1) := by decide +kernel
theorem d_Mo_sector_2 : decode b_Mo_sector 2 = .ok (.putfield 26, 3) := by decide +kernel
theorem d_Mo_sector_5 : decode b_Mo_sector 5 = .ok (.aload_n 0, 1) := by decide +kernel
theorem d_Mo_sector_6 : decode b_Mo_sector 6 = .ok (.iconst 5, 1) := by decide +kernel
theorem d_Mo_sector_7 : decode b_Mo_sector 7 = .ok (.iload_n 1, 1) := by decide +kernel
theorem d_Mo_sector_8 : decode b_Mo_sector 8 = .ok (.invokevirtual 119, 3) := by decide +kernel
theorem d_Mo_sector_11 : decode b_Mo_sector 11 = .ok (.ifCond .eq 13, 3) := by decide +kernel
theorem d_Mo_sector_14 : decode b_Mo_sector 14 = .ok (.iload_n 2, 1) := by decide +kernel
theorem d_Mo_sector_15 : decode b_Mo_sector 15 = .ok (.ifCond .lt 9, 3) := by decide +kernel
theorem d_Mo_sector_18 : decode b_Mo_sector 18 = .ok (.iload_n 2, 1) := by decide +kernel
theorem d_Mo_sector_19 : decode b_Mo_sector 19 = .ok (.bipush 6, 2) := by decide +kernel
theorem d_Mo_sector_21 : decode b_Mo_sector 21 = .ok (.if_icmp .le 6, 3) := by decide +kernel
theorem d_Mo_sector_24 : decode b_Mo_sector 24 = .ok (.ldc 122, 2) := by decide +kernel
theorem d_Mo_sector_26 : decode b_Mo_sector 26 = .ok (.ireturn, 1) := by decide +kernel
theorem d_Mo_sector_27 : decode b_Mo_sector 27 = .ok (.aload_n 0, 1) := by decide +kernel
theorem d_Mo_sector_28 : decode b_Mo_sector 28 = .ok (.iload_n 1, 1) := by decide +kernel
theorem d_Mo_sector_29 : decode b_Mo_sector 29 = .ok (.invokevirtual 116, 3) := by decide +kernel
theorem d_Mo_sector_32 : decode b_Mo_sector 32 = .ok (.istore_n 3, 1) := by decide +kernel
theorem d_Mo_sector_33 : decode b_Mo_sector 33 = .ok (.iload_n 2, 1) := by decide +kernel
theorem d_Mo_sector_34 : decode b_Mo_sector 34 = .ok (.iconst 2, 1) := by decide +kernel
theorem d_Mo_sector_35 : decode b_Mo_sector 35 = .ok (.if_icmp .ge 18, 3) := by decide +kernel
theorem d_Mo_sector_38 : decode b_Mo_sector 38 = .ok (.aload_n 0, 1) := by decide +kernel
theorem d_Mo_sector_39 : decode b_Mo_sector 39 = .ok (.getfield 13, 3) := by decide +kernel
theorem d_Mo_sector_42 : decode b_Mo_sector 42 = .ok (.iload_n 3, 1) := by decide +kernel
theorem d_Mo_sector_43 : decode b_Mo_sector 43 = .ok (.iconst 2, 1) := by decide +kernel
theorem d_Mo_sector_44 : decode b_Mo_sector 44 = .ok (.iload_n 2, 1) := by decide +kernel
theorem d_Mo_sector_45 : decode b_Mo_sector 45 = .ok (.imul, 1) := by decide +kernel
theorem d_Mo_sector_46 : decode b_Mo_sector 46 = .ok (.iadd, 1) := by decide +kernel
theorem d_Mo_sector_47 : decode b_Mo_sector 47 = .ok (.invokestatic 60, 3) := by decide +kernel
theorem d_Mo_sector_50 : decode b_Mo_sector 50 = .ok (.goto 17, 3) := by decide +kernel
theorem d_Mo_sector_53 : decode b_Mo_sector 53 = .ok (.aload_n 0, 1) := by decide +kernel
theorem d_Mo_sector_54 : decode b_Mo_sector 54 = .ok (.getfield 13, 3) := by decide +kernel
theorem d_Mo_sector_57 : decode b_Mo_sector 57 = .ok (.iload_n 3, 1) := by decide +kernel
theorem d_Mo_sector_58 : decode b_Mo_sector 58 = .ok (.iconst 2, 1) := by decide +kernel
theorem d_Mo_sector_59 : decode b_Mo_sector 59 = .ok (.iadd, 1) := by decide +kernel
theorem d_Mo_sector_60 : decode b_Mo_sector 60 = .ok (.iload_n 2, 1) := by decide +kernel
theorem d_Mo_sector_61 : decode b_Mo_sector 61 = .ok (.iadd, 1) := by decide +kernel
theorem d_Mo_sector_62 : decode b_Mo_sector 62 = .ok (.baload, 1) := by decide +kernel
theorem d_Mo_sector_63 : decode b_Mo_sector 63 = .ok (.sipush 255, 3) := by decide +kernel
theorem d_Mo_sector_66 : decode b_Mo_sector 66 = .ok (.iand, 1) := by decide +kernel
theorem d_Mo_sector_67 : decode b_Mo_sector 67 = .ok (.ireturn, 1) := by decide +kernel
theorem d_Mo_wall_0 : decode b_Mo_wall 0 = .ok (.aload_n 0, 1) := by decide +kernel
theorem d_Mo_wall_1 : decode b_Mo_wall 1 = .ok (.iconst 0, 1) := by decide +kernel
theorem d_Mo_wall_2 : decode b_Mo_wall 2 = .ok (.putfield 26, 3) := by decide +kernel
theorem d_Mo_wall_5 : decode b_Mo_wall 5 = .ok (.aload_n 0, 1) := by decide +kernel
theorem d_Mo_wall_6 : decode b_Mo_wall 6 = .ok (.bipush 6, 2) := by decide +kernel
theorem d_Mo_wall_8 : decode b_Mo_wall 8 = .ok (.iload_n 1, 1) := by decide +kernel
theorem d_Mo_wall_9 : decode b_Mo_wall 9 = .ok (.invokevirtual 119, 3) := by decide +kernel
theorem d_Mo_wall_12 : decode b_Mo_wall 12 = .ok (.ifCond .eq 13, 3) := by decide +kernel
theorem d_Mo_wall_15 : decode b_Mo_wall 15 = .ok (.iload_n 2, 1) := by decide +kernel
theorem d_Mo_wall_16 : decode b_Mo_wall 16 = .ok (.ifCond .lt 9, 3) := by decide +kernel
theorem d_Mo_wall_19 : decode b_Mo_wall 19 = .ok (.iload_n 2, 1) := by decide +kernel
theorem d_Mo_wall_20 : decode b_Mo_wall 20 = .ok (.bipush 14, 2) := by decide +kernel
theorem d_Mo_wall_22 : decode b_Mo_wall 22 = .ok (.if_icmp .le 5, 3) := by decide +kernel
theorem d_Mo_wall_25 : decode b_Mo_wall 25 = .ok (.iconst (-1), 1) := by decide +kernel
theorem d_Mo_wall_26 : decode b_Mo_wall 26 = .ok (.ireturn, 1) := by decide +kernel
theorem d_Mo_wall_27 : decode b_Mo_wall 27 = .ok (.aload_n 0, 1) := by decide +kernel
theorem d_Mo_wall_28 : decode b_Mo_wall 28 = .ok (.iload_n 1, 1) := by decide +kernel
theorem d_Mo_wall_29 : decode b_Mo_wall 29 = .ok (.invokevirtual 123, 3) := by decide +kernel
theorem d_Mo_wall_32 : decode b_Mo_wall 32 = .ok (.istore_n 3, 1) := by decide +kernel
theorem d_Mo_wall_33 : decode b_Mo_wall 33 = .ok (.iload_n 2, 1) := by decide +kernel
theorem d_Mo_wall_34 : decode b_Mo_wall 34 = .ok (.bipush 10, 2) := by decide +kernel
theorem d_Mo_wall_36 : decode b_Mo_wall 36 = .ok (.if_icmp .eq 9, 3) := by decide +kernel
theorem d_Mo_wall_39 : decode b_Mo_wall 39 = .ok (.iload_n 2, 1) := by decide +kernel
theorem d_Mo_wall_40 : decode b_Mo_wall 40 = .ok (.bipush 11, 2) := by decide +kernel
theorem d_Mo_wall_42 : decode b_Mo_wall 42 = .ok (.if_icmp .ne 45, 3) := by decide +kernel
theorem d_Mo_wall_45 : decode b_Mo_wall 45 = .ok (.iload_n 2, 1) := by decide +kernel
theorem d_Mo_wall_46 : decode b_Mo_wall 46 = .ok (.bipush 10, 2) := by decide +kernel
theorem d_Mo_wall_48 : decode b_Mo_wall 48 = .ok (.if_icmp .ne 22, 3) := by decide +kernel
theorem d_Mo_wall_51 : decode b_Mo_wall 51 = .ok (.aload_n 0, 1) := by decide +kernel
theorem d_Mo_wall_52 : decode b_Mo_wall 52 = .ok (.getfield 13, 3) := by decide +kernel
theorem d_Mo_wall_55 : decode b_Mo_wall 55 = .ok (.iload_n 3, 1) := by decide +kernel
theorem d_Mo_wall_56 : decode b_Mo_wall 56 = .ok (.bipush 10, 2) := by decide +kernel
theorem d_Mo_wall_58 : decode b_Mo_wall 58 = .ok (.iadd, 1) := by decide +kernel
theorem d_Mo_wall_59 : decode b_Mo_wall 59 = .ok (.baload, 1) := by decide +kernel
theorem d_Mo_wall_60 : decode b_Mo_wall 60 = .ok (.sipush 255, 3) := by decide +kernel
theorem d_Mo_wall_63 : decode b_Mo_wall 63 = .ok (.iand, 1) := by decide +kernel
theorem d_Mo_wall_64 : decode b_Mo_wall 64 = .ok (.bipush 16, 2) := by decide +kernel
theorem d_Mo_wall_66 : decode b_Mo_wall 66 = .ok (.idiv, 1) := by decide +kernel
theorem d_Mo_wall_67 : decode b_Mo_wall 67 = .ok (.goto 19, 3) := by decide +kernel
theorem d_Mo_wall_70 : decode b_Mo_wall 70 = .ok (.aload_n 0, 1) := by decide +kernel
theorem d_Mo_wall_71 : decode b_Mo_wall 71 = .ok (.getfield 13, 3) := by decide +kernel
theorem d_Mo_wall_74 : decode b_Mo_wall 74 = .ok (.iload_n 3, 1) := by decide +kernel
theorem d_Mo_wall_75 : decode b_Mo_wall 75 = .ok (.bipush 10, 2) := by decide +kernel
theorem d_Mo_wall_77 : decode b_Mo_wall 77 = .ok (.iadd, 1) := by decide +kernel
theorem d_Mo_wall_78 : decode b_Mo_wall 78 = .ok (.baload, 1) := by decide +kernel
theorem d_Mo_wall_79 : decode b_Mo_wall 79 = .ok (.sipush 255, 3) := by decide +kernel
theorem d_Mo_wall_82 : decode b_Mo_wall 82 = .ok (.iand, 1) := by decide +kernel
theorem d_Mo_wall_83 : decode b_Mo_wall 83 = .ok (.bipush 16, 2) := by decide +kernel
theorem d_Mo_wall_85 : decode b_Mo_wall 85 = .ok (.irem, 1) := by decide +kernel
theorem d_Mo_wall_86 : decode b_Mo_wall 86 = .ok (.ireturn, 1) := by decide +kernel
theorem d_Mo_wall_87 : decode b_Mo_wall 87 = .ok (.aload_n 0, 1) := by decide +kernel
theorem d_Mo_wall_88 : decode b_Mo_wall 88 = .ok (.getfield 13, 3) := by decide +kernel
theorem d_Mo_wall_91 : decode b_Mo_wall 91 = .ok (.iload_n 3, 1) := by decide +kernel
theorem d_Mo_wall_92 : decode b_Mo_wall 92 = .ok (.iload_n 2, 1) := by decide +kernel
theorem d_Mo_wall_93 : decode b_Mo_wall 93 = .ok (.bipush 11, 2) := by decide +kernel
theorem d_Mo_wall_95 : decode b_Mo_wall 95 = .ok (.if_icmp .le 9, 3) := by decide +kernel
theorem d_Mo_wall_98 : decode b_Mo_wall 98 = .ok (.iload_n 2, 1) := by decide +kernel
theorem d_Mo_wall_99 : decode b_Mo_wall 99 = .ok (.iconst 1, 1) := by decide +kernel
theorem d_Mo_wall_100 : decode b_Mo_wall 100 = .ok (.isub, 1) := by decide +kernel
theorem d_Mo_wall_101 : decode b_Mo_wall 101 = .ok (.goto 4, 3) := by decide +kernel
theorem d_Mo_wall_104 : decode b_Mo_wall 104 = .ok (.iload_n 2, 1) := by decide +kernel
theorem d_Mo_wall_105 : decode b_Mo_wall 105 = .ok (.iadd, 1) := by decide +kernel
theorem d_Mo_wall_106 : decode b_Mo_wall 106 = .ok (.baload, 1) := by decide +kernel
theorem d_Mo_wall_107 : decode b_Mo_wall 107 = .ok (.sipush 255, 3) := by decide +kernel
theorem d_Mo_wall_110 : decode b_Mo_wall 110 = .ok (.iand, 1) := by decide +kernel
theorem d_Mo_wall_111 : decode b_Mo_wall 111 = .ok (.ireturn, 1) := by decide +kernel
theorem d_Mo_start_0 : decode b_Mo_start 0 = .ok (.aload_n 0, 1) := by decide +kernel
theorem d_Mo_start_1 : decode b_Mo_start 1 = .ok (.iconst 0, 1) := by decide +kernel
theorem d_Mo_start_2 : decode b_Mo_start 2 = .ok (.putfield 26, 3) := by decide +kernel
theorem d_Mo_start_5 : decode b_Mo_start 5 = .ok (.aload_n 0, 1) := by decide +kernel
theorem d_Mo_start_6 : decode b_Mo_start 6 = .ok (.getfield 104, 3) := by decide +kernel
theorem d_Mo_start_9 : decode b_Mo_start 9 = .ok (.ifCond .eq 12, 3) := by decide +kernel
theorem d_Mo_start_12 : decode b_Mo_start 12 = .ok (.iload_n 1, 1) := by decide +kernel
theorem d_Mo_start_13 : decode b_Mo_start 13 = .ok (.ifCond .lt 8, 3) := by decide +kernel
theorem d_Mo_start_16 : decode b_Mo_start 16 = .ok (.iload_n 1, 1) := by decide +kernel
theorem d_Mo_start_17 : decode b_Mo_start 17 = .ok (.iconst 3, 1) := by decide +kernel
theorem d_Mo_start_18 : decode b_Mo_start 18 = .ok (.if_icmp .le 6, 3) := by decide +kernel
theorem d_Mo_start_21 : decode b_Mo_start 21 = .ok (.ldc 122, 2) := by decide +kernel
theorem d_Mo_start_23 : decode b_Mo_start 23 = .ok (.ireturn, 1) := by decide +kernel
theorem d_Mo_start_24 : decode b_Mo_start 24 = .ok (.aload_n 0, 1) := by decide +kernel
theorem d_Mo_start_25 : decode b_Mo_start 25 = .ok (.aload_n 0, 1) := by decide +kernel
theorem d_Mo_start_26 : decode b_Mo_start 26 = .ok (.bipush 6, 2) := by decide +kernel
theorem d_Mo_start_28 : decode b_Mo_start 28 = .ok (.invokevirtual 110, 3) := by decide +kernel
theorem d_Mo_start_31 : decode b_Mo_start 31 = .ok (.invokevirtual 123, 3) := by decide +kernel
theorem d_Mo_start_34 : decode b_Mo_start 34 = .ok (.istore_n 2, 1) := by decide +kernel
theorem d_Mo_start_35 : decode b_Mo_start 35 = .ok (.iload_n 1, 1) := by decide +kernel
theorem d_Mo_start_36 : decode b_Mo_start 36 = .ok (.iconst 2, 1) := by decide +kernel
theorem d_Mo_start_37 : decode b_Mo_start 37 = .ok (.if_icmp .ge 18, 3) := by decide +kernel
theorem d_Mo_start_40 : decode b_Mo_start 40 = .ok (.aload_n 0, 1) := by decide +kernel
theorem d_Mo_start_41 : decode b_Mo_start 41 = .ok (.getfield 13, 3) := by decide +kernel
theorem d_Mo_start_44 : decode b_Mo_start 44 = .ok (.iload_n 2, 1) := by decide +kernel
theorem d_Mo_start_45 : decode b_Mo_start 45 = .ok (.iconst 2, 1) := by decide +kernel
theorem d_Mo_start_46 : decode b_Mo_start 46 = .ok (.iload_n 1, 1) := by decide +kernel
theorem d_Mo_start_47 : decode b_Mo_start 47 = .ok (.imul, 1) := by decide +kernel
theorem d_Mo_start_48 : decode b_Mo_start 48 = .ok (.iadd, 1) := by decide +kernel
theorem d_Mo_start_49 : decode b_Mo_start 49 = .ok (.invokestatic 60, 3) := by decide +kernel
theorem d_Mo_start_52 : decode b_Mo_start 52 = .ok (.goto 17, 3) := by decide +kernel
theorem d_Mo_start_55 : decode b_Mo_start 55 = .ok (.aload_n 0, 1) := by decide +kernel
theorem d_Mo_start_56 : decode b_Mo_start 56 = .ok (.getfield 13, 3) := by decide +kernel
theorem d_Mo_start_59 : decode b_Mo_start 59 = .ok (.iload_n 2, 1) := by decide +kernel
theorem d_Mo_start_60 : decode b_Mo_start 60 = .ok (.iconst 2, 1) := by decide +kernel
theorem d_Mo_start_61 : decode b_Mo_start 61 = .ok (.iadd, 1) := by decide +kernel
theorem d_Mo_start_62 : decode b_Mo_start 62 = .ok (.iload_n 1, 1) := by decide +kernel
theorem d_Mo_start_63 : decode b_Mo_start 63 = .ok (.iadd, 1) := by decide +kernel
theorem d_Mo_start_64 : decode b_Mo_start 64 = .ok (.baload, 1) := by decide +kernel
theorem d_Mo_start_65 : decode b_Mo_start 65 = .ok (.sipush 255, 3) := by decide +kernel
theorem d_Mo_start_68 : decode b_Mo_start 68 = .ok (.iand, 1) := by decide +kernel
theorem d_Mo_start_69 : decode b_Mo_start 69 = .ok (.ireturn, 1) := by decide +kernel
theorem d_Mo_look_0 : decode b_Mo_look 0 = .ok (.aload_n 0, 1) := by decide +kernel
theorem d_Mo_look_1 : decode b_Mo_look 1 = .ok (.iconst 0, 1) := by decide +kernel
theorem d_Mo_look_2 : decode b_Mo_look 2 = .ok (.putfield 26, 3) := by decide +kernel
theorem d_Mo_look_5 : decode b_Mo_look 5 = .ok (.iload_n 1, 1) := by decide +kernel
theorem d_Mo_look_6 : decode b_Mo_look 6 = .ok (.tableswitch 94 0 8 #[50, 55, 60, 60, 60, 60, 79, 84, 89], 50) := by decide +kernel
theorem d_Mo_look_56 : decode b_Mo_look 56 = .ok (.aload_n 0, 1) := by decide +kernel
theorem d_Mo_look_57 : decode b_Mo_look 57 = .ok (.getfield 29, 3) := by decide +kernel
theorem d_Mo_look_60 : decode b_Mo_look 60 = .ok (.ireturn, 1) := by decide +kernel
theorem d_Mo_look_61 : decode b_Mo_look 61 = .ok (.aload_n 0, 1) := by decide +kernel
theorem d_Mo_look_62 : decode b_Mo_look 62 = .ok (.getfield 107, 3) := by decide +kernel
theorem d_Mo_look_65 : decode b_Mo_look 65 = .ok (.ireturn, 1) := by decide +kernel
theorem d_Mo_look_66 : decode b_Mo_look 66 = .ok (.aload_n 0, 1) := by decide +kernel
theorem d_Mo_look_67 : decode b_Mo_look 67 = .ok (.getfield 104, 3) := by decide +kernel
theorem d_Mo_look_70 : decode b_Mo_look 70 = .ok (.ifCond .ne 7, 3) := by decide +kernel
theorem d_Mo_look_73 : decode b_Mo_look 73 = .ok (.iconst (-1), 1) := by decide +kernel
theorem d_Mo_look_74 : decode b_Mo_look 74 = .ok (.goto 10, 3) := by decide +kernel
theorem d_Mo_look_77 : decode b_Mo_look 77 = .ok (.aload_n 0, 1) := by decide +kernel
theorem d_Mo_look_78 : decode b_Mo_look 78 = .ok (.iload_n 1, 1) := by decide +kernel
theorem d_Mo_look_79 : decode b_Mo_look 79 = .ok (.iconst 1, 1) := by decide +kernel
theorem d_Mo_look_80 : decode b_Mo_look 80 = .ok (.iadd, 1) := by decide +kernel
theorem d_Mo_look_81 : decode b_Mo_look 81 = .ok (.invokevirtual 110, 3) := by decide +kernel
theorem d_Mo_look_84 : decode b_Mo_look 84 = .ok (.ireturn, 1) := by decide +kernel
theorem d_Mo_look_85 : decode b_Mo_look 85 = .ok (.aload_n 0, 1) := by decide +kernel
theorem d_Mo_look_86 : decode b_Mo_look 86 = .ok (.getfield 42, 3) := by decide +kernel
theorem d_Mo_look_89 : decode b_Mo_look 89 = .ok (.ireturn, 1) := by decide +kernel
theorem d_Mo_look_90 : decode b_Mo_look 90 = .ok (.aload_n 0, 1) := by decide +kernel
theorem d_Mo_look_91 : decode b_Mo_look 91 = .ok (.getfield 19, 3) := by decide +kernel
theorem d_Mo_look_94 : decode b_Mo_look 94 = .ok (.ireturn, 1) := by decide +kernel
theorem d_Mo_look_95 : decode b_Mo_look 95 = .ok (.aload_n 0, 1) := by decide +kernel
theorem d_Mo_look_96 : decode b_Mo_look 96 = .ok (.getfield 23, 3) := by decide +kernel
theorem d_Mo_look_99 : decode b_Mo_look 99 = .ok (.ireturn, 1) := by decide +kernel
theorem d_Mo_look_100 : decode b_Mo_look 100 = .ok (.iconst (-1), 1) := by decide +kernel
theorem d_Mo_look_101 : decode b_Mo_look 101 = .ok (.ireturn, 1) := by decide +kernel
theorem d_Rd_init_0 : decode b_Rd_init 0 = .ok (.aload_n 0, 1) := by decide +kernel
theorem d_Rd_init_1 : decode b_Rd_init 1 = .ok (.invokespecial 3, 3) := by decide +kernel
theorem d_Rd_init_4 : decode b_Rd_init 4 = .ok (.aload_n 0, 1) := by decide +kernel
theorem d_Rd_init_5 : decode b_Rd_init 5 = .ok (.new 9, 3) := by decide +kernel
theorem d_Rd_init_8 : decode b_Rd_init 8 = .ok (.dup, 1) := by decide +kernel
theorem d_Rd_init_9 : decode b_Rd_init 9 = .ok (.invokespecial 11, 3) := by decide +kernel
theorem d_Rd_init_12 : decode b_Rd_init 12 = .ok (.putfield 12, 3) := by decide +kernel
theorem d_Rd_init_15 : decode b_Rd_init 15 = .ok (.aload_n 0, 1) := by decide +kernel
theorem d_Rd_init_16 : decode b_Rd_init 16 = .ok (.sipush 128, 3) := by decide +kernel
theorem d_Rd_init_19 : decode b_Rd_init 19 = .ok (.newarray .int, 2) := by decide +kernel
theorem d_Rd_init_21 : decode b_Rd_init 21 = .ok (.putfield 18, 3) := by decide +kernel
theorem d_Rd_init_24 : decode b_Rd_init 24 = .ok (.aload_n 0, 1) := by decide +kernel
theorem d_Rd_init_25 : decode b_Rd_init 25 = .ok (.sipush 128, 3) := by decide +kernel
theorem d_Rd_init_28 : decode b_Rd_init 28 = .ok (.newarray .int, 2) := by decide +kernel
theorem d_Rd_init_30 : decode b_Rd_init 30 = .ok (.putfield 22, 3) := by decide +kernel
theorem d_Rd_init_33 : decode b_Rd_init 33 = .ok (.aload_n 0, 1) := by decide +kernel
theorem d_Rd_init_34 : decode b_Rd_init 34 = .ok (.sipush 128, 3) := by decide +kernel
theorem d_Rd_init_37 : decode b_Rd_init 37 = .ok (.anewarray 25, 3) := by decide +kernel
theorem d_Rd_init_40 : decode b_Rd_init 40 = .ok (.putfield 27, 3) := by decide +kernel
theorem d_Rd_init_43 : decode b_Rd_init 43 = .ok (.aload_n 0, 1) := by decide +kernel
theorem d_Rd_init_44 : decode b_Rd_init 44 = .ok (.iconst (-1), 1) := by decide +kernel
theorem d_Rd_init_45 : decode b_Rd_init 45 = .ok (.putfield 31, 3) := by decide +kernel
theorem d_Rd_init_48 : decode b_Rd_init 48 = .ok (.aload_n 0, 1) := by decide +kernel
theorem d_Rd_init_49 : decode b_Rd_init 49 = .ok (.iconst (-1), 1) := by decide +kernel
theorem d_Rd_init_50 : decode b_Rd_init 50 = .ok (.putfield 35, 3) := by decide +kernel
theorem d_Rd_init_53 : decode b_Rd_init 53 = .ok (.iconst 0, 1) := by decide +kernel
theorem d_Rd_init_54 : decode b_Rd_init 54 = .ok (.istore_n 1, 1) := by decide +kernel
theorem d_Rd_init_55 : decode b_Rd_init 55 = .ok (.iload_n 1, 1) := by decide +kernel
theorem d_Rd_init_56 : decode b_Rd_init 56 = .ok (.aload_n 0, 1) := by decide +kernel
theorem d_Rd_init_57 : decode b_Rd_init 57 = .ok (.getfield 27, 3) := by decide +kernel
theorem d_Rd_init_60 : decode b_Rd_init 60 = .ok (.arraylength, 1) := by decide +kernel
theorem d_Rd_init_61 : decode b_Rd_init 61 = .ok (.if_icmp .ge 22, 3) := by decide +kernel
theorem d_Rd_init_64 : decode b_Rd_init 64 = .ok (.aload_n 0, 1) := by decide +kernel
theorem d_Rd_init_65 : decode b_Rd_init 65 = .ok (.getfield 27, 3) := by decide +kernel
theorem d_Rd_init_68 : decode b_Rd_init 68 = .ok (.iload_n 1, 1) := by decide +kernel
theorem d_Rd_init_69 : decode b_Rd_init 69 = .ok (.new 25, 3) := by decide +kernel
theorem d_Rd_init_72 : decode b_Rd_init 72 = .ok (.dup, 1) := by decide +kernel
theorem d_Rd_init_73 : decode b_Rd_init 73 = .ok (.invokespecial 38, 3) := by decide +kernel
theorem d_Rd_init_76 : decode b_Rd_init 76 = .ok (.aastore, 1) := by decide +kernel
theorem d_Rd_init_77 : decode b_Rd_init 77 = .ok (.iinc 1 1, 3) := by decide +kernel
theorem d_Rd_init_80 : decode b_Rd_init 80 = .ok (.goto (-25), 3) := by decide +kernel
theorem d_Rd_init_83 : decode b_Rd_init 83 = .ok (.return_, 1) := by decide +kernel
theorem d_Rd_judge_0 : decode b_Rd_judge 0 = .ok (.aload_n 0, 1) := by decide +kernel
theorem d_Rd_judge_1 : decode b_Rd_judge 1 = .ok (.iconst 0, 1) := by decide +kernel
theorem d_Rd_judge_2 : decode b_Rd_judge 2 = .ok (.putfield 39, 3) := by decide +kernel
theorem d_Rd_judge_5 : decode b_Rd_judge 5 = .ok (.aload_n 0, 1) := by decide +kernel
theorem d_Rd_judge_6 : decode b_Rd_judge 6 = .ok (.iconst 0, 1) := by decide +kernel
theorem d_Rd_judge_7 : decode b_Rd_judge 7 = .ok (.putfield 42, 3) := by decide +kernel
theorem d_Rd_judge_10 : decode b_Rd_judge 10 = .ok (.aload_n 0, 1) := by decide +kernel
theorem d_Rd_judge_11 : decode b_Rd_judge 11 = .ok (.iconst (-1), 1) := by decide +kernel
theorem d_Rd_judge_12 : decode b_Rd_judge 12 = .ok (.putfield 31, 3) := by decide +kernel
theorem d_Rd_judge_15 : decode b_Rd_judge 15 = .ok (.aload_n 0, 1) := by decide +kernel
theorem d_Rd_judge_16 : decode b_Rd_judge 16 = .ok (.iconst (-1), 1) := by decide +kernel
theorem d_Rd_judge_17 : decode b_Rd_judge 17 = .ok (.putfield 35, 3) := by decide +kernel
theorem d_Rd_judge_20 : decode b_Rd_judge 20 = .ok (.aload_n 0, 1) := by decide +kernel
theorem d_Rd_judge_21 : decode b_Rd_judge 21 = .ok (.invokevirtual 45, 3) := by decide +kernel
theorem d_Rd_judge_24 : decode b_Rd_judge 24 = .ok (.aload_n 0, 1) := by decide +kernel
theorem d_Rd_judge_25 : decode b_Rd_judge 25 = .ok (.invokevirtual 48, 3) := by decide +kernel
theorem d_Rd_judge_28 : decode b_Rd_judge 28 = .ok (.aload_n 0, 1) := by decide +kernel
theorem d_Rd_judge_29 : decode b_Rd_judge 29 = .ok (.invokevirtual 51, 3) := by decide +kernel
theorem d_Rd_judge_32 : decode b_Rd_judge 32 = .ok (.aload_n 0, 1) := by decide +kernel
theorem d_Rd_judge_33 : decode b_Rd_judge 33 = .ok (.invokevirtual 54, 3) := by decide +kernel
theorem d_Rd_judge_36 : decode b_Rd_judge 36 = .ok (.aload_n 0, 1) := by decide +kernel
theorem d_Rd_judge_37 : decode b_Rd_judge 37 = .ok (.invokevirtual 57, 3) := by decide +kernel
theorem d_Rd_judge_40 : decode b_Rd_judge 40 = .ok (.aload_n 0, 1) := by decide +kernel
theorem d_Rd_judge_41 : decode b_Rd_judge 41 = .ok (.invokevirtual 60, 3) := by decide +kernel
theorem d_Rd_judge_44 : decode b_Rd_judge 44 = .ok (.aload_n 0, 1) := by decide +kernel
theorem d_Rd_judge_45 : decode b_Rd_judge 45 = .ok (.invokevirtual 63, 3) := by decide +kernel
theorem d_Rd_judge_48 : decode b_Rd_judge 48 = .ok (.aload_n 0, 1) := by decide +kernel
theorem d_Rd_judge_49 : decode b_Rd_judge 49 = .ok (.invokevirtual 66, 3) := by decide +kernel
theorem d_Rd_judge_52 : decode b_Rd_judge 52 = .ok (.aload_n 0, 1) := by decide +kernel
theorem d_Rd_judge_53 : decode b_Rd_judge 53 = .ok (.getfield 42, 3) := by decide +kernel
theorem d_Rd_judge_56 : decode b_Rd_judge 56 = .ok (.ireturn, 1) := by decide +kernel
theorem d_Rd_passHead_0 : decode b_Rd_passHead 0 = .ok (.aload_n 0, 1) := by decide +kernel
theorem d_Rd_passHead_1 : decode b_Rd_passHead 1 = .ok (.bipush 77, 2) := by decide +kernel
theorem d_Rd_passHead_3 : decode b_Rd_passHead 3 = .ok (.iconst 2, 1) := by decide +kernel
theorem d_Rd_passHead_4 : decode b_Rd_passHead 4 = .ok (.invokevirtual 69, 3) := by decide +kernel
theorem d_Rd_passHead_7 : decode b_Rd_passHead 7 = .ok (.aload_n 0, 1) := by decide +kernel
theorem d_Rd_passHead_8 : decode b_Rd_passHead 8 = .ok (.bipush 72, 2) := by decide +kernel
theorem d_Rd_passHead_10 : decode b_Rd_passHead 10 = .ok (.iconst 2, 1) := by decide +kernel
theorem d_Rd_passHead_11 : decode b_Rd_passHead 11 = .ok (.invokevirtual 69, 3) := by decide +kernel
theorem d_Rd_passHead_14 : decode b_Rd_passHead 14 = .ok (.aload_n 0, 1) := by decide +kernel
theorem d_Rd_passHead_15 : decode b_Rd_passHead 15 = .ok (.iconst 1, 1) := by decide +kernel
theorem d_Rd_passHead_16 : decode b_Rd_passHead 16 = .ok (.iconst 2, 1) := by decide +kernel
theorem d_Rd_passHead_17 : decode b_Rd_passHead 17 = .ok (.invokevirtual 69, 3) := by decide +kernel
theorem d_Rd_passHead_20 : decode b_Rd_passHead 20 = .ok (.aload_n 0, 1) := by decide +kernel
theorem d_Rd_passHead_21 : decode b_Rd_passHead 21 = .ok (.aload_n 0, 1) := by decide +kernel
theorem d_Rd_passHead_22 : decode b_Rd_passHead 22 = .ok (.iconst 0, 1) := by decide +kernel
theorem d_Rd_passHead_23 : decode b_Rd_passHead 23 = .ok (.sipush 128, 3) := by decide +kernel
theorem d_Rd_passHead_26 : decode b_Rd_passHead 26 = .ok (.invokevirtual 73, 3) := by decide +kernel
theorem d_Rd_passHead_29 : decode b_Rd_passHead 29 = .ok (.putfield 77, 3) := by decide +kernel
theorem d_Rd_passHead_32 : decode b_Rd_passHead 32 = .ok (.aload_n 0, 1) := by decide +kernel
theorem d_Rd_passHead_33 : decode b_Rd_passHead 33 = .ok (.aload_n 0, 1) := by decide +kernel
theorem d_Rd_passHead_34 : decode b_Rd_passHead 34 = .ok (.iconst 0, 1) := by decide +kernel
theorem d_Rd_passHead_35 : decode b_Rd_passHead 35 = .ok (.bipush 16, 2) := by decide +kernel
theorem d_Rd_passHead_37 : decode b_Rd_passHead 37 = .ok (.invokevirtual 73, 3) := by decide +kernel
theorem d_Rd_passHead_40 : decode b_Rd_passHead 40 = .ok (.putfield 80, 3) := by decide +kernel
theorem d_Rd_passHead_43 : decode b_Rd_passHead 43 = .ok (.aload_n 0, 1) := by decide +kernel
theorem d_Rd_passHead_44 : decode b_Rd_passHead 44 = .ok (.aload_n 0, 1) := by decide +kernel
theorem d_Rd_passHead_45 : decode b_Rd_passHead 45 = .ok (.iconst 1, 1) := by decide +kernel
theorem d_Rd_passHead_46 : decode b_Rd_passHead 46 = .ok (.bipush 32, 2) := by decide +kernel
theorem d_Rd_passHead_48 : decode b_Rd_passHead 48 = .ok (.invokevirtual 73, 3) := by decide +kernel
theorem d_Rd_passHead_51 : decode b_Rd_passHead 51 = .ok (.putfield 83, 3) := by decide +kernel
theorem d_Rd_passHead_54 : decode b_Rd_passHead 54 = .ok (.aload_n 0, 1) := by decide +kernel
theorem d_Rd_passHead_55 : decode b_Rd_passHead 55 = .ok (.aload_n 0, 1) := by decide +kernel
theorem d_Rd_passHead_56 : decode b_Rd_passHead 56 = .ok (.iconst 0, 1) := by decide +kernel
theorem d_Rd_passHead_57 : decode b_Rd_passHead 57 = .ok (.sipush 128, 3) := by decide +kernel
theorem d_Rd_passHead_60 : decode b_Rd_passHead 60 = .ok (.invokevirtual 73, 3) := by decide +kernel
theorem d_Rd_passHead_63 : decode b_Rd_passHead 63 = .ok (.putfield 86, 3) := by decide +kernel
theorem d_Rd_passHead_66 : decode b_Rd_passHead 66 = .ok (.return_, 1) := by decide +kernel
theorem d_Rd_passVertices_0 : decode b_Rd_passVertices 0 = .ok (.iconst 0, 1) := by decide +kernel
theorem d_Rd_passVertices_1 : decode b_Rd_passVertices 1 = .ok (.istore_n 1, 1) := by decide +kernel
theorem d_Rd_passVertices_2 : decode b_Rd_passVertices 2 = .ok (.iload_n 1, 1) := by decide +kernel
theorem d_Rd_passVertices_3 : decode b_Rd_passVertices 3 = .ok (.aload_n 0, 1) := by decide +kernel
theorem d_Rd_passVertices_4 : decode b_Rd_passVertices 4 = .ok (.getfield 77, 3) := by decide +kernel
theorem d_Rd_passVertices_7 : decode b_Rd_passVertices 7 = .ok (.if_icmp .ge 76, 3) := by decide +kernel
theorem d_Rd_passVertices_10 : decode b_Rd_passVertices 10 = .ok (.iload_n 1, 1) := by decide +kernel
theorem d_Rd_passVertices_11 : decode b_Rd_passVertices 11 = .ok (.aload_n 0, 1) := by decide +kernel
theorem d_Rd_passVertices_12 : decode b_Rd_passVertices 12 = .ok (.getfield 18, 3) := by decide +kernel
theorem d_Rd_passVertices_15 : decode b_Rd_passVertices 15 = .ok (.arraylength, 1) := by decide +kernel
theorem d_Rd_passVertices_16 : decode b_Rd_passVertices 16 = .ok (.if_icmp .ge 67, 3) := by decide +kernel
theorem d_Rd_passVertices_19 : decode b_Rd_passVertices 19 = .ok (.aload_n 0, 1) := by decide +kernel
theorem d_Rd_passVertices_20 : decode b_Rd_passVertices 20 = .ok (.getfield 42, 3) := by decide +kernel
theorem d_Rd_passVertices_23 : decode b_Rd_passVertices 23 = .ok (.ifCond .ne 60, 3) := by decide +kernel
theorem d_Rd_passVertices_26 : decode b_Rd_passVertices 26 = .ok (.aload_n 0, 1) := by decide +kernel
theorem d_Rd_passVertices_27 : decode b_Rd_passVertices 27 = .ok (.getfield 18, 3) := by decide +kernel
theorem d_Rd_passVertices_30 : decode b_Rd_passVertices 30 = .ok (.iload_n 1, 1) := by decide +kernel
theorem d_Rd_passVertices_31 : decode b_Rd_passVertices 31 = .ok (.aload_n 0, 1) := by decide +kernel
theorem d_Rd_passVertices_32 : decode b_Rd_passVertices 32 = .ok (.sipush (-32768), 3) := by decide +kernel
theorem d_Rd_passVertices_35 : decode b_Rd_passVertices 35 = .ok (.sipush 32767, 3) := by decide +kernel
theorem d_Rd_passVertices_38 : decode b_Rd_passVertices 38 = .ok (.invokevirtual 89, 3) := by decide +kernel
theorem d_Rd_passVertices_41 : decode b_Rd_passVertices 41 = .ok (.iastore, 1) := by decide +kernel
theorem d_Rd_passVertices_42 : decode b_Rd_passVertices 42 = .ok (.aload_n 0, 1) := by decide +kernel
theorem d_Rd_passVertices_43 : decode b_Rd_passVertices 43 = .ok (.getfield 39, 3) := by decide +kernel
theorem d_Rd_passVertices_46 : decode b_Rd_passVertices 46 = .ok (.istore_n 2, 1) := by decide +kernel
theorem d_Rd_passVertices_47 : decode b_Rd_passVertices 47 = .ok (.aload_n 0, 1) := by decide +kernel
theorem d_Rd_passVertices_48 : decode b_Rd_passVertices 48 = .ok (.getfield 22, 3) := by decide +kernel
theorem d_Rd_passVertices_51 : decode b_Rd_passVertices 51 = .ok (.iload_n 1, 1) := by decide +kernel
theorem d_Rd_passVertices_52 : decode b_Rd_passVertices 52 = .ok (.aload_n 0, 1) := by decide +kernel
theorem d_Rd_passVertices_53 : decode b_Rd_passVertices 53 = .ok (.sipush (-32768), 3) := by decide +kernel
theorem d_Rd_passVertices_56 : decode b_Rd_passVertices 56 = .ok (.sipush 32767, 3) := by decide +kernel
theorem d_Rd_passVertices_59 : decode b_Rd_passVertices 59 = .ok (.invokevirtual 89, 3) := by decide +kernel
theorem d_Rd_passVertices_62 : decode b_Rd_passVertices 62 = .ok (.iastore, 1) := by decide +kernel
theorem d_Rd_passVertices_63 : decode b_Rd_passVertices 63 = .ok (.aload_n 0, 1) := by decide +kernel
theorem d_Rd_passVertices_64 : decode b_Rd_passVertices 64 = .ok (.iload_n 1, 1) := by decide +kernel
theorem d_Rd_passVertices_65 : decode b_Rd_passVertices 65 = .ok (.invokevirtual 92, 3) := by decide +kernel
theorem d_Rd_passVertices_68 : decode b_Rd_passVertices 68 = .ok (.ifCond .eq 9, 3) := by decide +kernel
theorem d_Rd_passVertices_71 : decode b_Rd_passVertices 71 = .ok (.aload_n 0, 1) := by decide +kernel
theorem d_Rd_passVertices_72 : decode b_Rd_passVertices 72 = .ok (.iconst 3, 1) := by decide +kernel
theorem d_Rd_passVertices_73 : decode b_Rd_passVertices 73 = .ok (.iload_n 2, 1) := by decide +kernel
theorem d_Rd_passVertices_74 : decode b_Rd_passVertices 74 = .ok (.invokevirtual 96, 3) := by decide +kernel
theorem d_Rd_passVertices_77 : decode b_Rd_passVertices 77 = .ok (.iinc 1 1, 3) := by decide +kernel
theorem d_Rd_passVertices_80 : decode b_Rd_passVertices 80 = .ok (.goto (-78), 3) := by decide +kernel
theorem d_Rd_passVertices_83 : decode b_Rd_passVertices 83 = .ok (.return_, 1) := by decide +kernel
theorem d_Rd_isTaken_0 : decode b_Rd_isTaken 0 = .ok (.iconst 0, 1) := by decide +kernel
theorem d_Rd_isTaken_1 : decode b_Rd_isTaken 1 = .ok (.istore_n 2, 1) := by decide +kernel
theorem d_Rd_isTaken_2 : decode b_Rd_isTaken 2 = .ok (.iload_n 2, 1) := by decide +kernel
theorem d_Rd_isTaken_3 : decode b_Rd_isTaken 3 = .ok (.iload_n 1, 1) := by decide +kernel
theorem d_Rd_isTaken_4 : decode b_Rd_isTaken 4 = .ok (.if_icmp .ge 50, 3) := by decide +kernel
theorem d_Rd_isTaken_7 : decode b_Rd_isTaken 7 = .ok (.iload_n 1, 1) := by decide +kernel
theorem d_Rd_isTaken_8 : decode b_Rd_isTaken 8 = .ok (.aload_n 0, 1) := by decide +kernel
theorem d_Rd_isTaken_9 : decode b_Rd_isTaken 9 = .ok (.getfield 18, 3) := by decide +kernel
theorem d_Rd_isTaken_12 : decode b_Rd_isTaken 12 = .ok (.arraylength, 1) := by decide +kernel
theorem d_Rd_isTaken_13 : decode b_Rd_isTaken 13 = .ok (.if_icmp .ge 41, 3) := by decide +kernel
theorem d_Rd_isTaken_16 : decode b_Rd_isTaken 16 = .ok (.aload_n 0, 1) := by decide +kernel
theorem d_Rd_isTaken_17 : decode b_Rd_isTaken 17 = .ok (.getfield 18, 3) := by decide +kernel
theorem d_Rd_isTaken_20 : decode b_Rd_isTaken 20 = .ok (.iload_n 2, 1) := by decide +kernel
theorem d_Rd_isTaken_21 : decode b_Rd_isTaken 21 = .ok (.iaload, 1) := by decide +kernel
theorem d_Rd_isTaken_22 : decode b_Rd_isTaken 22 = .ok (.aload_n 0, 1) := by decide +kernel
theorem d_Rd_isTaken_23 : decode b_Rd_isTaken 23 = .ok (.getfield 18, 3) := by decide +kernel
theorem d_Rd_isTaken_26 : decode b_Rd_isTaken 26 = .ok (.iload_n 1, 1) := by decide +kernel
theorem d_Rd_isTaken_27 : decode b_Rd_isTaken 27 = .ok (.iaload, 1) := by decide +kernel
theorem d_Rd_isTaken_28 : decode b_Rd_isTaken 28 = .ok (.if_icmp .ne 20, 3) := by decide +kernel
theorem d_Rd_isTaken_31 : decode b_Rd_isTaken 31 = .ok (.aload_n 0, 1) := by decide +kernel
theorem d_Rd_isTaken_32 : decode b_Rd_isTaken 32 = .ok (.getfield 22, 3) := by decide +kernel
theorem d_Rd_isTaken_35 : decode b_Rd_isTaken 35 = .ok (.iload_n 2, 1) := by decide +kernel
theorem d_Rd_isTaken_36 : decode b_Rd_isTaken 36 = .ok (.iaload, 1) := by decide +kernel
theorem d_Rd_isTaken_37 : decode b_Rd_isTaken 37 = .ok (.aload_n 0, 1) := by decide +kernel
theorem d_Rd_isTaken_38 : decode b_Rd_isTaken 38 = .ok (.getfield 22, 3) := by decide +kernel
theorem d_Rd_isTaken_41 : decode b_Rd_isTaken 41 = .ok (.iload_n 1, 1) := by decide +kernel
theorem d_Rd_isTaken_42 : decode b_Rd_isTaken 42 = .ok (.iaload, 1) := by decide +kernel
theorem d_Rd_isTaken_43 : decode b_Rd_isTaken 43 = .ok (.if_icmp .ne 5, 3) := by decide +kernel
theorem d_Rd_isTaken_46 : decode b_Rd_isTaken 46 = .ok (.iconst 1, 1) := by decide +kernel
theorem d_Rd_isTaken_47 : decode b_Rd_isTaken 47 = .ok (.ireturn, 1) := by decide +kernel
theorem d_Rd_isTaken_48 : decode b_Rd_isTaken 48 = .ok (.iinc 2 1, 3) := by decide +kernel
theorem d_Rd_isTaken_51 : decode b_Rd_isTaken 51 = .ok (.goto (-49), 3) := by decide +kernel
theorem d_Rd_isTaken_54 : decode b_Rd_isTaken 54 = .ok (.iconst 0, 1) := by decide +kernel
theorem d_Rd_isTaken_55 : decode b_Rd_isTaken 55 = .ok (.ireturn, 1) := by decide +kernel
theorem d_Rd_passTextures_0 : decode b_Rd_passTextures 0 = .ok (.iconst 0, 1) := by decide +kernel
theorem d_Rd_passTextures_1 : decode b_Rd_passTextures 1 = .ok (.istore_n 1, 1) := by decide +kernel
theorem d_Rd_passTextures_2 : decode b_Rd_passTextures 2 = .ok (.iload_n 1, 1) := by decide +kernel
theorem d_Rd_passTextures_3 : decode b_Rd_passTextures 3 = .ok (.aload_n 0, 1) := by decide +kernel
theorem d_Rd_passTextures_4 : decode b_Rd_passTextures 4 = .ok (.getfield 80, 3) := by decide +kernel
theorem d_Rd_passTextures_7 : decode b_Rd_passTextures 7 = .ok (.if_icmp .ge 66, 3) := by decide +kernel
theorem d_Rd_passTextures_10 : decode b_Rd_passTextures 10 = .ok (.aload_n 0, 1) := by decide +kernel
theorem d_Rd_passTextures_11 : decode b_Rd_passTextures 11 = .ok (.getfield 42, 3) := by decide +kernel
theorem d_Rd_passTextures_14 : decode b_Rd_passTextures 14 = .ok (.ifCond .ne 59, 3) := by decide +kernel
theorem d_Rd_passTextures_17 : decode b_Rd_passTextures 17 = .ok (.iconst 1, 1) := by decide +kernel
theorem d_Rd_passTextures_18 : decode b_Rd_passTextures 18 = .ok (.aload_n 0, 1) := by decide +kernel
theorem d_Rd_passTextures_19 : decode b_Rd_passTextures 19 = .ok (.iconst 0, 1) := by decide +kernel
theorem d_Rd_passTextures_20 : decode b_Rd_passTextures 20 = .ok (.iconst 4, 1) := by decide +kernel
theorem d_Rd_passTextures_21 : decode b_Rd_passTextures 21 = .ok (.invokevirtual 73, 3) := by decide +kernel
theorem d_Rd_passTextures_24 : decode b_Rd_passTextures 24 = .ok (.ishl, 1) := by decide +kernel
theorem d_Rd_passTextures_25 : decode b_Rd_passTextures 25 = .ok (.istore_n 2, 1) := by decide +kernel
theorem d_Rd_passTextures_26 : decode b_Rd_passTextures 26 = .ok (.iconst 1, 1) := by decide +kernel
theorem d_Rd_passTextures_27 : decode b_Rd_passTextures 27 = .ok (.aload_n 0, 1) := by decide +kernel
theorem d_Rd_passTextures_28 : decode b_Rd_passTextures 28 = .ok (.iconst 0, 1) := by decide +kernel
theorem d_Rd_passTextures_29 : decode b_Rd_passTextures 29 = .ok (.iconst 4, 1) := by decide +kernel
theorem d_Rd_passTextures_30 : decode b_Rd_passTextures 30 = .ok (.invokevirtual 73, 3) := by decide +kernel
theorem d_Rd_passTextures_33 : decode b_Rd_passTextures 33 = .ok (.ishl, 1) := by decide +kernel
theorem d_Rd_passTextures_34 : decode b_Rd_passTextures 34 = .ok (.istore_n 3, 1) := by decide +kernel
theorem d_Rd_passTextures_35 : decode b_Rd_passTextures 35 = .ok (.iconst 0, 1) := by decide +kernel
theorem d_Rd_passTextures_36 : decode b_Rd_passTextures 36 = .ok (.istore 4, 2) := by decide +kernel
theorem d_Rd_passTextures_38 : decode b_Rd_passTextures 38 = .ok (.iload 4, 2) := by decide +kernel
theorem d_Rd_passTextures_40 : decode b_Rd_passTextures 40 = .ok (.iload_n 2, 1) := by decide +kernel
theorem d_Rd_passTextures_41 : decode b_Rd_passTextures 41 = .ok (.iload_n 3, 1) := by decide +kernel
theorem d_Rd_passTextures_42 : decode b_Rd_passTextures 42 = .ok (.imul, 1) := by decide +kernel
theorem d_Rd_passTextures_43 : decode b_Rd_passTextures 43 = .ok (.if_icmp .ge 24, 3) := by decide +kernel
theorem d_Rd_passTextures_46 : decode b_Rd_passTextures 46 = .ok (.aload_n 0, 1) := by decide +kernel
theorem d_Rd_passTextures_47 : decode b_Rd_passTextures 47 = .ok (.getfield 42, 3) := by decide +kernel
theorem d_Rd_passTextures_50 : decode b_Rd_passTextures 50 = .ok (.ifCond .ne 17, 3) := by decide +kernel
theorem d_Rd_passTextures_53 : decode b_Rd_passTextures 53 = .ok (.aload_n 0, 1) := by decide +kernel
theorem d_Rd_passTextures_54 : decode b_Rd_passTextures 54 = .ok (.iconst 0, 1) := by decide +kernel
theorem d_Rd_passTextures_55 : decode b_Rd_passTextures 55 = .ok (.bipush 15, 2) := by decide +kernel
theorem d_Rd_passTextures_57 : decode b_Rd_passTextures 57 = .ok (.invokevirtual 73, 3) := by decide +kernel
theorem d_Rd_passTextures_60 : decode b_Rd_passTextures 60 = .ok (.pop, 1) := by decide +kernel
theorem d_Rd_passTextures_61 : decode b_Rd_passTextures 61 = .ok (.iinc 4 1, 3) := by decide +kernel
theorem d_Rd_passTextures_64 : decode b_Rd_passTextures 64 = .ok (.goto (-26), 3) := by decide +kernel
theorem d_Rd_passTextures_67 : decode b_Rd_passTextures 67 = .ok (.iinc 1 1, 3) := by decide +kernel
theorem d_Rd_passTextures_70 : decode b_Rd_passTextures 70 = .ok (.goto (-68), 3) := by decide +kernel
theorem d_Rd_passTextures_73 : decode b_Rd_passTextures 73 = .ok (.return_, 1) := by decide +kernel
theorem d_Rd_passSectors_0 : decode b_Rd_passSectors 0 = .ok (.iconst 0, 1) := by decide +kernel
theorem d_Rd_passSectors_1 : decode b_Rd_passSectors 1 = .ok (.istore_n 1, 1) := by decide +kernel
theorem d_Rd_passSectors_2 : decode b_Rd_passSectors 2 = .ok (.iload_n 1, 1) := by decide +kernel
theorem d_Rd_passSectors_3 : decode b_Rd_passSectors 3 = .ok (.aload_n 0, 1) := by decide +kernel
theorem d_Rd_passSectors_4 : decode b_Rd_passSectors 4 = .ok (.getfield 83, 3) := by decide +kernel
theorem d_Rd_passSectors_7 : decode b_Rd_passSectors 7 = .ok (.if_icmp .ge 85, 3) := by decide +kernel
theorem d_Rd_passSectors_10 : decode b_Rd_passSectors 10 = .ok (.aload_n 0, 1) := by decide +kernel
theorem d_Rd_passSectors_11 : decode b_Rd_passSectors 11 = .ok (.getfield 42, 3) := by decide +kernel
theorem d_Rd_passSectors_14 : decode b_Rd_passSectors 14 = .ok (.ifCond .ne 78, 3) := by decide +kernel
theorem d_Rd_passSectors_17 : decode b_Rd_passSectors 17 = .ok (.aload_n 0, 1) := by decide +kernel
theorem d_Rd_passSectors_18 : decode b_Rd_passSectors 18 = .ok (.sipush (-1024), 3) := by decide +kernel
theorem d_Rd_passSectors_21 : decode b_Rd_passSectors 21 = .ok (.sipush 1024, 3) := by decide +kernel
theorem d_Rd_passSectors_24 : decode b_Rd_passSectors 24 = .ok (.invokevirtual 89, 3) := by decide +kernel
theorem d_Rd_passSectors_27 : decode b_Rd_passSectors 27 = .ok (.istore_n 2, 1) := by decide +kernel
theorem d_Rd_passSectors_28 : decode b_Rd_passSectors 28 = .ok (.aload_n 0, 1) := by decide +kernel
theorem d_Rd_passSectors_29 : decode b_Rd_passSectors 29 = .ok (.iload_n 2, 1) := by decide +kernel
theorem d_Rd_passSectors_30 : decode b_Rd_passSectors 30 = .ok (.iconst 1, 1) := by decide +kernel
theorem d_Rd_passSectors_31 : decode b_Rd_passSectors 31 = .ok (.iadd, 1) := by decide +kernel
theorem d_Rd_passSectors_32 : decode b_Rd_passSectors 32 = .ok (.sipush 1024, 3) := by decide +kernel
theorem d_Rd_passSectors_35 : decode b_Rd_passSectors 35 = .ok (.invokevirtual 89, 3) := by decide +kernel
theorem d_Rd_passSectors_38 : decode b_Rd_passSectors 38 = .ok (.pop, 1) := by decide +kernel
theorem d_Rd_passSectors_39 : decode b_Rd_passSectors 39 = .ok (.aload_n 0, 1) := by decide +kernel
theorem d_Rd_passSectors_40 : decode b_Rd_passSectors 40 = .ok (.iconst 0, 1) := by decide +kernel
theorem d_Rd_passSectors_41 : decode b_Rd_passSectors 41 = .ok (.aload_n 0, 1) := by decide +kernel
theorem d_Rd_passSectors_42 : decode b_Rd_passSectors 42 = .ok (.getfield 80, 3) := by decide +kernel
theorem d_Rd_passSectors_45 : decode b_Rd_passSectors 45 = .ok (.iconst 1, 1) := by decide +kernel
theorem d_Rd_passSectors_46 : decode b_Rd_passSectors 46 = .ok (.isub, 1) := by decide +kernel
theorem d_Rd_passSectors_47 : decode b_Rd_passSectors 47 = .ok (.invokevirtual 73, 3) := by decide +kernel
theorem d_Rd_passSectors_50 : decode b_Rd_passSectors 50 = .ok (.pop, 1) := by decide +kernel
theorem d_Rd_passSectors_51 : decode b_Rd_passSectors 51 = .ok (.aload_n 0, 1) := by decide +kernel
theorem d_Rd_passSectors_52 : decode b_Rd_passSectors 52 = .ok (.aload_n 0, 1) := by decide +kernel
theorem d_Rd_passSectors_53 : decode b_Rd_passSectors 53 = .ok (.getfield 80, 3) := by decide +kernel
theorem d_Rd_passSectors_56 : decode b_Rd_passSectors 56 = .ok (.iconst 1, 1) := by decide +kernel
theorem d_Rd_passSectors_57 : decode b_Rd_passSectors 57 = .ok (.isub, 1) := by decide +kernel
theorem d_Rd_passSectors_58 : decode b_Rd_passSectors 58 = .ok (.invokevirtual 99, 3) := by decide +kernel
theorem d_Rd_passSectors_61 : decode b_Rd_passSectors 61 = .ok (.pop, 1) := by decide +kernel
theorem d_Rd_passSectors_62 : decode b_Rd_passSectors 62 = .ok (.aload_n 0, 1) := by decide +kernel
theorem d_Rd_passSectors_63 : decode b_Rd_passSectors 63 = .ok (.iconst 0, 1) := by decide +kernel
theorem d_Rd_passSectors_64 : decode b_Rd_passSectors 64 = .ok (.bipush 15, 2) := by decide +kernel
theorem d_Rd_passSectors_66 : decode b_Rd_passSectors 66 = .ok (.invokevirtual 73, 3) := by decide +kernel
theorem d_Rd_passSectors_69 : decode b_Rd_passSectors 69 = .ok (.pop, 1) := by decide +kernel
theorem d_Rd_passSectors_70 : decode b_Rd_passSectors 70 = .ok (.aload_n 0, 1) := by decide +kernel
theorem d_Rd_passSectors_71 : decode b_Rd_passSectors 71 = .ok (.iconst 0, 1) := by decide +kernel
theorem d_Rd_passSectors_72 : decode b_Rd_passSectors 72 = .ok (.iconst 3, 1) := by decide +kernel
theorem d_Rd_passSectors_73 : decode b_Rd_passSectors 73 = .ok (.invokevirtual 73, 3) := by decide +kernel
theorem d_Rd_passSectors_76 : decode b_Rd_passSectors 76 = .ok (.pop, 1) := by decide +kernel
theorem d_Rd_passSectors_77 : decode b_Rd_passSectors 77 = .ok (.aload_n 0, 1) := by decide +kernel
theorem d_Rd_passSectors_78 : decode b_Rd_passSectors 78 = .ok (.iconst 0, 1) := by decide +kernel
theorem d_Rd_passSectors_79 : decode b_Rd_passSectors 79 = .ok (.sipush 255, 3) := by decide +kernel
theorem d_Rd_passSectors_82 : decode b_Rd_passSectors 82 = .ok (.invokevirtual 73, 3) := by decide +kernel
theorem d_Rd_passSectors_85 : decode b_Rd_passSectors 85 = .ok (.pop, 1) := by decide +kernel
theorem d_Rd_passSectors_86 : decode b_Rd_passSectors 86 = .ok (.iinc 1 1, 3) := by decide +kernel
theorem d_Rd_passSectors_89 : decode b_Rd_passSectors 89 = .ok (.goto (-87), 3) := by decide +kernel
theorem d_Rd_passSectors_92 : decode b_Rd_passSectors 92 = .ok (.return_, 1) := by decide +kernel
