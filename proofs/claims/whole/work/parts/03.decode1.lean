theorem d_Lu_init_0 : decode b_Lu_init 0 = .ok (.aload_n 0, 1) := by decide +kernel
theorem d_Lu_init_1 : decode b_Lu_init 1 = .ok (.invokespecial 1, 3) := by decide +kernel
theorem d_Lu_init_4 : decode b_Lu_init 4 = .ok (.aload_n 0, 1) := by decide +kernel
theorem d_Lu_init_5 : decode b_Lu_init 5 = .ok (.new 7, 3) := by decide +kernel
theorem d_Lu_init_8 : decode b_Lu_init 8 = .ok (.dup, 1) := by decide +kernel
theorem d_Lu_init_9 : decode b_Lu_init 9 = .ok (.invokespecial 9, 3) := by decide +kernel
theorem d_Lu_init_12 : decode b_Lu_init 12 = .ok (.putfield 10, 3) := by decide +kernel
theorem d_Lu_init_15 : decode b_Lu_init 15 = .ok (.aload_n 0, 1) := by decide +kernel
theorem d_Lu_init_16 : decode b_Lu_init 16 = .ok (.aload_n 0, 1) := by decide +kernel
theorem d_Lu_init_17 : decode b_Lu_init 17 = .ok (.getfield 10, 3) := by decide +kernel
theorem d_Lu_init_20 : decode b_Lu_init 20 = .ok (.getfield 16, 3) := by decide +kernel
theorem d_Lu_init_23 : decode b_Lu_init 23 = .ok (.putfield 20, 3) := by decide +kernel
theorem d_Lu_init_26 : decode b_Lu_init 26 = .ok (.aload_n 0, 1) := by decide +kernel
theorem d_Lu_init_27 : decode b_Lu_init 27 = .ok (.new 23, 3) := by decide +kernel
theorem d_Lu_init_30 : decode b_Lu_init 30 = .ok (.dup, 1) := by decide +kernel
theorem d_Lu_init_31 : decode b_Lu_init 31 = .ok (.invokespecial 25, 3) := by decide +kernel
theorem d_Lu_init_34 : decode b_Lu_init 34 = .ok (.putfield 26, 3) := by decide +kernel
theorem d_Lu_init_37 : decode b_Lu_init 37 = .ok (.aload_n 0, 1) := by decide +kernel
theorem d_Lu_init_38 : decode b_Lu_init 38 = .ok (.new 29, 3) := by decide +kernel
theorem d_Lu_init_41 : decode b_Lu_init 41 = .ok (.dup, 1) := by decide +kernel
theorem d_Lu_init_42 : decode b_Lu_init 42 = .ok (.invokespecial 31, 3) := by decide +kernel
theorem d_Lu_init_45 : decode b_Lu_init 45 = .ok (.putfield 32, 3) := by decide +kernel
theorem d_Lu_init_48 : decode b_Lu_init 48 = .ok (.return_, 1) := by decide +kernel
theorem d_Lu_give_0 : decode b_Lu_give 0 = .ok (.iload_n 3, 1) := by decide +kernel
theorem d_Lu_give_1 : decode b_Lu_give 1 = .ok (.iconst 1, 1) := by decide +kernel
theorem d_Lu_give_2 : decode b_Lu_give 2 = .ok (.if_icmp .lt 20, 3) := by decide +kernel
theorem d_Lu_give_5 : decode b_Lu_give 5 = .ok (.iload_n 3, 1) := by decide +kernel
theorem d_Lu_give_6 : decode b_Lu_give 6 = .ok (.bipush 8, 2) := by decide +kernel
theorem d_Lu_give_8 : decode b_Lu_give 8 = .ok (.if_icmp .gt 14, 3) := by decide +kernel
theorem d_Lu_give_11 : decode b_Lu_give 11 = .ok (.iload_n 3, 1) := by decide +kernel
theorem d_Lu_give_12 : decode b_Lu_give 12 = .ok (.aload_n 0, 1) := by decide +kernel
theorem d_Lu_give_13 : decode b_Lu_give 13 = .ok (.getfield 20, 3) := by decide +kernel
theorem d_Lu_give_16 : decode b_Lu_give 16 = .ok (.invokevirtual 36, 3) := by decide +kernel
theorem d_Lu_give_19 : decode b_Lu_give 19 = .ok (.if_icmp .le 5, 3) := by decide +kernel
theorem d_Lu_give_22 : decode b_Lu_give 22 = .ok (.iconst 0, 1) := by decide +kernel
theorem d_Lu_give_23 : decode b_Lu_give 23 = .ok (.ireturn, 1) := by decide +kernel
theorem d_Lu_give_24 : decode b_Lu_give 24 = .ok (.iload_n 3, 1) := by decide +kernel
theorem d_Lu_give_25 : decode b_Lu_give 25 = .ok (.iconst 1, 1) := by decide +kernel
theorem d_Lu_give_26 : decode b_Lu_give 26 = .ok (.isub, 1) := by decide +kernel
theorem d_Lu_give_27 : decode b_Lu_give 27 = .ok (.istore 4, 2) := by decide +kernel
theorem d_Lu_give_29 : decode b_Lu_give 29 = .ok (.iload 4, 2) := by decide +kernel
theorem d_Lu_give_31 : decode b_Lu_give 31 = .ok (.ifCond .lt 24, 3) := by decide +kernel
theorem d_Lu_give_34 : decode b_Lu_give 34 = .ok (.aload_n 0, 1) := by decide +kernel
theorem d_Lu_give_35 : decode b_Lu_give 35 = .ok (.getfield 20, 3) := by decide +kernel
theorem d_Lu_give_38 : decode b_Lu_give 38 = .ok (.lload_n 1, 1) := by decide +kernel
theorem d_Lu_give_39 : decode b_Lu_give 39 = .ok (.bipush 8, 2) := by decide +kernel
theorem d_Lu_give_41 : decode b_Lu_give 41 = .ok (.iload 4, 2) := by decide +kernel
theorem d_Lu_give_43 : decode b_Lu_give 43 = .ok (.imul, 1) := by decide +kernel
theorem d_Lu_give_44 : decode b_Lu_give 44 = .ok (.lushr, 1) := by decide +kernel
theorem d_Lu_give_45 : decode b_Lu_give 45 = .ok (.l2i, 1) := by decide +kernel
theorem d_Lu_give_46 : decode b_Lu_give 46 = .ok (.invokevirtual 40, 3) := by decide +kernel
theorem d_Lu_give_49 : decode b_Lu_give 49 = .ok (.iinc 4 (-1), 3) := by decide +kernel
theorem d_Lu_give_52 : decode b_Lu_give 52 = .ok (.goto (-23), 3) := by decide +kernel
theorem d_Lu_give_55 : decode b_Lu_give 55 = .ok (.iconst 1, 1) := by decide +kernel
theorem d_Lu_give_56 : decode b_Lu_give 56 = .ok (.ireturn, 1) := by decide +kernel
theorem d_Lu_cut_0 : decode b_Lu_cut 0 = .ok (.aload_n 0, 1) := by decide +kernel
theorem d_Lu_cut_1 : decode b_Lu_cut 1 = .ok (.getfield 20, 3) := by decide +kernel
theorem d_Lu_cut_4 : decode b_Lu_cut 4 = .ok (.iload_n 1, 1) := by decide +kernel
theorem d_Lu_cut_5 : decode b_Lu_cut 5 = .ok (.invokevirtual 44, 3) := by decide +kernel
theorem d_Lu_cut_8 : decode b_Lu_cut 8 = .ok (.ireturn, 1) := by decide +kernel
theorem d_Lu_poke_0 : decode b_Lu_poke 0 = .ok (.aload_n 0, 1) := by decide +kernel
theorem d_Lu_poke_1 : decode b_Lu_poke 1 = .ok (.getfield 20, 3) := by decide +kernel
theorem d_Lu_poke_4 : decode b_Lu_poke 4 = .ok (.iload_n 1, 1) := by decide +kernel
theorem d_Lu_poke_5 : decode b_Lu_poke 5 = .ok (.iload_n 2, 1) := by decide +kernel
theorem d_Lu_poke_6 : decode b_Lu_poke 6 = .ok (.invokevirtual 48, 3) := by decide +kernel
theorem d_Lu_poke_9 : decode b_Lu_poke 9 = .ok (.ireturn, 1) := by decide +kernel
theorem d_Lu_read_0 : decode b_Lu_read 0 = .ok (.aload_n 0, 1) := by decide +kernel
theorem d_Lu_read_1 : decode b_Lu_read 1 = .ok (.getfield 10, 3) := by decide +kernel
theorem d_Lu_read_4 : decode b_Lu_read 4 = .ok (.invokevirtual 52, 3) := by decide +kernel
theorem d_Lu_read_7 : decode b_Lu_read 7 = .ok (.istore_n 1, 1) := by decide +kernel
theorem d_Lu_read_8 : decode b_Lu_read 8 = .ok (.iload_n 1, 1) := by decide +kernel
theorem d_Lu_read_9 : decode b_Lu_read 9 = .ok (.ifCond .ne 14, 3) := by decide +kernel
theorem d_Lu_read_12 : decode b_Lu_read 12 = .ok (.aload_n 0, 1) := by decide +kernel
theorem d_Lu_read_13 : decode b_Lu_read 13 = .ok (.getfield 32, 3) := by decide +kernel
theorem d_Lu_read_16 : decode b_Lu_read 16 = .ok (.aload_n 0, 1) := by decide +kernel
theorem d_Lu_read_17 : decode b_Lu_read 17 = .ok (.getfield 20, 3) := by decide +kernel
theorem d_Lu_read_20 : decode b_Lu_read 20 = .ok (.invokevirtual 55, 3) := by decide +kernel
theorem d_Lu_read_23 : decode b_Lu_read 23 = .ok (.iload_n 1, 1) := by decide +kernel
theorem d_Lu_read_24 : decode b_Lu_read 24 = .ok (.ireturn, 1) := by decide +kernel
theorem d_Lu_write_0 : decode b_Lu_write 0 = .ok (.aload_n 0, 1) := by decide +kernel
theorem d_Lu_write_1 : decode b_Lu_write 1 = .ok (.getfield 32, 3) := by decide +kernel
theorem d_Lu_write_4 : decode b_Lu_write 4 = .ok (.getfield 59, 3) := by decide +kernel
theorem d_Lu_write_7 : decode b_Lu_write 7 = .ok (.ifCond .ne 5, 3) := by decide +kernel
theorem d_Lu_write_10 : decode b_Lu_write 10 = .ok (.iconst (-1), 1) := by decide +kernel
theorem d_Lu_write_11 : decode b_Lu_write 11 = .ok (.ireturn, 1) := by decide +kernel
theorem d_Lu_write_12 : decode b_Lu_write 12 = .ok (.aload_n 0, 1) := by decide +kernel
theorem d_Lu_write_13 : decode b_Lu_write 13 = .ok (.getfield 26, 3) := by decide +kernel
theorem d_Lu_write_16 : decode b_Lu_write 16 = .ok (.aload_n 0, 1) := by decide +kernel
theorem d_Lu_write_17 : decode b_Lu_write 17 = .ok (.getfield 32, 3) := by decide +kernel
theorem d_Lu_write_20 : decode b_Lu_write 20 = .ok (.getfield 63, 3) := by decide +kernel
theorem d_Lu_write_23 : decode b_Lu_write 23 = .ok (.invokevirtual 66, 3) := by decide +kernel
theorem d_Lu_write_26 : decode b_Lu_write 26 = .ok (.aload_n 0, 1) := by decide +kernel
theorem d_Lu_write_27 : decode b_Lu_write 27 = .ok (.getfield 26, 3) := by decide +kernel
theorem d_Lu_write_30 : decode b_Lu_write 30 = .ok (.getfield 69, 3) := by decide +kernel
theorem d_Lu_write_33 : decode b_Lu_write 33 = .ok (.ireturn, 1) := by decide +kernel
theorem d_Lu_check_0 : decode b_Lu_check 0 = .ok (.aload_n 0, 1) := by decide +kernel
theorem d_Lu_check_1 : decode b_Lu_check 1 = .ok (.getfield 20, 3) := by decide +kernel
theorem d_Lu_check_4 : decode b_Lu_check 4 = .ok (.getfield 69, 3) := by decide +kernel
theorem d_Lu_check_7 : decode b_Lu_check 7 = .ok (.iconst 2, 1) := by decide +kernel
theorem d_Lu_check_8 : decode b_Lu_check 8 = .ok (.isub, 1) := by decide +kernel
theorem d_Lu_check_9 : decode b_Lu_check 9 = .ok (.istore_n 1, 1) := by decide +kernel
theorem d_Lu_check_10 : decode b_Lu_check 10 = .ok (.iload_n 1, 1) := by decide +kernel
theorem d_Lu_check_11 : decode b_Lu_check 11 = .ok (.ifCond .ge 5, 3) := by decide +kernel
theorem d_Lu_check_14 : decode b_Lu_check 14 = .ok (.iconst 0, 1) := by decide +kernel
theorem d_Lu_check_15 : decode b_Lu_check 15 = .ok (.ireturn, 1) := by decide +kernel
theorem d_Lu_check_16 : decode b_Lu_check 16 = .ok (.aload_n 0, 1) := by decide +kernel
theorem d_Lu_check_17 : decode b_Lu_check 17 = .ok (.getfield 20, 3) := by decide +kernel
theorem d_Lu_check_20 : decode b_Lu_check 20 = .ok (.iload_n 1, 1) := by decide +kernel
theorem d_Lu_check_21 : decode b_Lu_check 21 = .ok (.invokevirtual 73, 3) := by decide +kernel
theorem d_Lu_check_24 : decode b_Lu_check 24 = .ok (.istore_n 2, 1) := by decide +kernel
theorem d_Lu_check_25 : decode b_Lu_check 25 = .ok (.aload_n 0, 1) := by decide +kernel
theorem d_Lu_check_26 : decode b_Lu_check 26 = .ok (.getfield 20, 3) := by decide +kernel
theorem d_Lu_check_29 : decode b_Lu_check 29 = .ok (.iload_n 1, 1) := by decide +kernel
theorem d_Lu_check_30 : decode b_Lu_check 30 = .ok (.iload_n 2, 1) := by decide +kernel
theorem d_Lu_check_31 : decode b_Lu_check 31 = .ok (.bipush 8, 2) := by decide +kernel
theorem d_Lu_check_33 : decode b_Lu_check 33 = .ok (.ishr, 1) := by decide +kernel
theorem d_Lu_check_34 : decode b_Lu_check 34 = .ok (.invokevirtual 48, 3) := by decide +kernel
theorem d_Lu_check_37 : decode b_Lu_check 37 = .ok (.pop, 1) := by decide +kernel
theorem d_Lu_check_38 : decode b_Lu_check 38 = .ok (.aload_n 0, 1) := by decide +kernel
theorem d_Lu_check_39 : decode b_Lu_check 39 = .ok (.getfield 20, 3) := by decide +kernel
theorem d_Lu_check_42 : decode b_Lu_check 42 = .ok (.iload_n 1, 1) := by decide +kernel
theorem d_Lu_check_43 : decode b_Lu_check 43 = .ok (.iconst 1, 1) := by decide +kernel
theorem d_Lu_check_44 : decode b_Lu_check 44 = .ok (.iadd, 1) := by decide +kernel
theorem d_Lu_check_45 : decode b_Lu_check 45 = .ok (.iload_n 2, 1) := by decide +kernel
theorem d_Lu_check_46 : decode b_Lu_check 46 = .ok (.invokevirtual 48, 3) := by decide +kernel
theorem d_Lu_check_49 : decode b_Lu_check 49 = .ok (.pop, 1) := by decide +kernel
theorem d_Lu_check_50 : decode b_Lu_check 50 = .ok (.iconst 1, 1) := by decide +kernel
theorem d_Lu_check_51 : decode b_Lu_check 51 = .ok (.ireturn, 1) := by decide +kernel
theorem d_Lu_byteAt_0 : decode b_Lu_byteAt 0 = .ok (.iload_n 2, 1) := by decide +kernel
theorem d_Lu_byteAt_1 : decode b_Lu_byteAt 1 = .ok (.ifCond .eq 14, 3) := by decide +kernel
theorem d_Lu_byteAt_4 : decode b_Lu_byteAt 4 = .ok (.aload_n 0, 1) := by decide +kernel
theorem d_Lu_byteAt_5 : decode b_Lu_byteAt 5 = .ok (.getfield 20, 3) := by decide +kernel
theorem d_Lu_byteAt_8 : decode b_Lu_byteAt 8 = .ok (.iload_n 1, 1) := by decide +kernel
theorem d_Lu_byteAt_9 : decode b_Lu_byteAt 9 = .ok (.invokevirtual 77, 3) := by decide +kernel
theorem d_Lu_byteAt_12 : decode b_Lu_byteAt 12 = .ok (.goto 11, 3) := by decide +kernel
theorem d_Lu_byteAt_15 : decode b_Lu_byteAt 15 = .ok (.aload_n 0, 1) := by decide +kernel
theorem d_Lu_byteAt_16 : decode b_Lu_byteAt 16 = .ok (.getfield 26, 3) := by decide +kernel
theorem d_Lu_byteAt_19 : decode b_Lu_byteAt 19 = .ok (.iload_n 1, 1) := by decide +kernel
theorem d_Lu_byteAt_20 : decode b_Lu_byteAt 20 = .ok (.invokevirtual 77, 3) := by decide +kernel
theorem d_Lu_byteAt_23 : decode b_Lu_byteAt 23 = .ok (.ireturn, 1) := by decide +kernel
theorem d_Lu_vertex_0 : decode b_Lu_vertex 0 = .ok (.iload_n 1, 1) := by decide +kernel
theorem d_Lu_vertex_1 : decode b_Lu_vertex 1 = .ok (.ifCond .lt 14, 3) := by decide +kernel
theorem d_Lu_vertex_4 : decode b_Lu_vertex 4 = .ok (.iload_n 1, 1) := by decide +kernel
theorem d_Lu_vertex_5 : decode b_Lu_vertex 5 = .ok (.aload_n 0, 1) := by decide +kernel
theorem d_Lu_vertex_6 : decode b_Lu_vertex 6 = .ok (.getfield 32, 3) := by decide +kernel
theorem d_Lu_vertex_9 : decode b_Lu_vertex 9 = .ok (.getfield 80, 3) := by decide +kernel
theorem d_Lu_vertex_12 : decode b_Lu_vertex 12 = .ok (.if_icmp .lt 6, 3) := by decide +kernel
theorem d_Lu_vertex_15 : decode b_Lu_vertex 15 = .ok (.ldc 83, 2) := by decide +kernel
theorem d_Lu_vertex_17 : decode b_Lu_vertex 17 = .ok (.ireturn, 1) := by decide +kernel
theorem d_Lu_vertex_18 : decode b_Lu_vertex 18 = .ok (.aload_n 0, 1) := by decide +kernel
theorem d_Lu_vertex_19 : decode b_Lu_vertex 19 = .ok (.getfield 32, 3) := by decide +kernel
theorem d_Lu_vertex_22 : decode b_Lu_vertex 22 = .ok (.getfield 63, 3) := by decide +kernel
theorem d_Lu_vertex_25 : decode b_Lu_vertex 25 = .ok (.bipush 7, 2) := by decide +kernel
theorem d_Lu_vertex_27 : decode b_Lu_vertex 27 = .ok (.iconst 4, 1) := by decide +kernel
theorem d_Lu_vertex_28 : decode b_Lu_vertex 28 = .ok (.iload_n 1, 1) := by decide +kernel
theorem d_Lu_vertex_29 : decode b_Lu_vertex 29 = .ok (.imul, 1) := by decide +kernel
theorem d_Lu_vertex_30 : decode b_Lu_vertex 30 = .ok (.iadd, 1) := by decide +kernel
theorem d_Lu_vertex_31 : decode b_Lu_vertex 31 = .ok (.iload_n 2, 1) := by decide +kernel
theorem d_Lu_vertex_32 : decode b_Lu_vertex 32 = .ok (.ifCond .eq 7, 3) := by decide +kernel
theorem d_Lu_vertex_35 : decode b_Lu_vertex 35 = .ok (.iconst 0, 1) := by decide +kernel
theorem d_Lu_vertex_36 : decode b_Lu_vertex 36 = .ok (.goto 4, 3) := by decide +kernel
theorem d_Lu_vertex_39 : decode b_Lu_vertex 39 = .ok (.iconst 2, 1) := by decide +kernel
theorem d_Lu_vertex_40 : decode b_Lu_vertex 40 = .ok (.iadd, 1) := by decide +kernel
theorem d_Lu_vertex_41 : decode b_Lu_vertex 41 = .ok (.invokevirtual 84, 3) := by decide +kernel
theorem d_Lu_vertex_44 : decode b_Lu_vertex 44 = .ok (.ireturn, 1) := by decide +kernel
theorem d_Lu_texture_0 : decode b_Lu_texture 0 = .ok (.iload_n 1, 1) := by decide +kernel
theorem d_Lu_texture_1 : decode b_Lu_texture 1 = .ok (.ifCond .lt 14, 3) := by decide +kernel
theorem d_Lu_texture_4 : decode b_Lu_texture 4 = .ok (.iload_n 1, 1) := by decide +kernel
theorem d_Lu_texture_5 : decode b_Lu_texture 5 = .ok (.aload_n 0, 1) := by decide +kernel
theorem d_Lu_texture_6 : decode b_Lu_texture 6 = .ok (.getfield 32, 3) := by decide +kernel
theorem d_Lu_texture_9 : decode b_Lu_texture 9 = .ok (.getfield 87, 3) := by decide +kernel
theorem d_Lu_texture_12 : decode b_Lu_texture 12 = .ok (.if_icmp .lt 5, 3) := by decide +kernel
theorem d_Lu_texture_15 : decode b_Lu_texture 15 = .ok (.iconst (-1), 1) := by decide +kernel
theorem d_Lu_texture_16 : decode b_Lu_texture 16 = .ok (.ireturn, 1) := by decide +kernel
theorem d_Lu_texture_17 : decode b_Lu_texture 17 = .ok (.iload_n 2, 1) := by decide +kernel
theorem d_Lu_texture_18 : decode b_Lu_texture 18 = .ok (.lookupswitch 44 #[(0, 26), (1, 35)], 26) := by decide +kernel
theorem d_Lu_texture_44 : decode b_Lu_texture 44 = .ok (.aload_n 0, 1) := by decide +kernel
theorem d_Lu_texture_45 : decode b_Lu_texture 45 = .ok (.getfield 32, 3) := by decide +kernel
theorem d_Lu_texture_48 : decode b_Lu_texture 48 = .ok (.iload_n 1, 1) := by decide +kernel
theorem d_Lu_texture_49 : decode b_Lu_texture 49 = .ok (.invokevirtual 90, 3) := by decide +kernel
theorem d_Lu_texture_52 : decode b_Lu_texture 52 = .ok (.ireturn, 1) := by decide +kernel
theorem d_Lu_texture_53 : decode b_Lu_texture 53 = .ok (.aload_n 0, 1) := by decide +kernel
theorem d_Lu_texture_54 : decode b_Lu_texture 54 = .ok (.getfield 32, 3) := by decide +kernel
theorem d_Lu_texture_57 : decode b_Lu_texture 57 = .ok (.iload_n 1, 1) := by decide +kernel
theorem d_Lu_texture_58 : decode b_Lu_texture 58 = .ok (.invokevirtual 93, 3) := by decide +kernel
theorem d_Lu_texture_61 : decode b_Lu_texture 61 = .ok (.ireturn, 1) := by decide +kernel
theorem d_Lu_texture_62 : decode b_Lu_texture 62 = .ok (.iload_n 2, 1) := by decide +kernel
theorem d_Lu_texture_63 : decode b_Lu_texture 63 = .ok (.ifCond .ge 7, 3) := by decide +kernel
theorem d_Lu_texture_66 : decode b_Lu_texture 66 = .ok (.iconst (-1), 1) := by decide +kernel
theorem d_Lu_texture_67 : decode b_Lu_texture 67 = .ok (.goto 22, 3) := by decide +kernel
theorem d_Lu_texture_70 : decode b_Lu_texture 70 = .ok (.aload_n 0, 1) := by decide +kernel
theorem d_Lu_texture_71 : decode b_Lu_texture 71 = .ok (.getfield 32, 3) := by decide +kernel
theorem d_Lu_texture_74 : decode b_Lu_texture 74 = .ok (.iload_n 1, 1) := by decide +kernel
theorem d_Lu_texture_75 : decode b_Lu_texture 75 = .ok (.iload_n 2, 1) := by decide +kernel
theorem d_Lu_texture_76 : decode b_Lu_texture 76 = .ok (.iconst 2, 1) := by decide +kernel
theorem d_Lu_texture_77 : decode b_Lu_texture 77 = .ok (.isub, 1) := by decide +kernel
theorem d_Lu_texture_78 : decode b_Lu_texture 78 = .ok (.iconst 4, 1) := by decide +kernel
theorem d_Lu_texture_79 : decode b_Lu_texture 79 = .ok (.ishr, 1) := by decide +kernel
theorem d_Lu_texture_80 : decode b_Lu_texture 80 = .ok (.iload_n 2, 1) := by decide +kernel
theorem d_Lu_texture_81 : decode b_Lu_texture 81 = .ok (.iconst 2, 1) := by decide +kernel
theorem d_Lu_texture_82 : decode b_Lu_texture 82 = .ok (.isub, 1) := by decide +kernel
theorem d_Lu_texture_83 : decode b_Lu_texture 83 = .ok (.bipush 15, 2) := by decide +kernel
theorem d_Lu_texture_85 : decode b_Lu_texture 85 = .ok (.iand, 1) := by decide +kernel
theorem d_Lu_texture_86 : decode b_Lu_texture 86 = .ok (.invokevirtual 96, 3) := by decide +kernel
theorem d_Lu_texture_89 : decode b_Lu_texture 89 = .ok (.ireturn, 1) := by decide +kernel
theorem d_Lu_sector_0 : decode b_Lu_sector 0 = .ok (.iload_n 1, 1) := by decide +kernel
theorem d_Lu_sector_1 : decode b_Lu_sector 1 = .ok (.ifCond .lt 24, 3) := by decide +kernel
theorem d_Lu_sector_4 : decode b_Lu_sector 4 = .ok (.iload_n 1, 1) := by decide +kernel
theorem d_Lu_sector_5 : decode b_Lu_sector 5 = .ok (.aload_n 0, 1) := by decide +kernel
theorem d_Lu_sector_6 : decode b_Lu_sector 6 = .ok (.getfield 32, 3) := by decide +kernel
theorem d_Lu_sector_9 : decode b_Lu_sector 9 = .ok (.getfield 100, 3) := by decide +kernel
theorem d_Lu_sector_12 : decode b_Lu_sector 12 = .ok (.if_icmp .ge 13, 3) := by decide +kernel
theorem d_Lu_sector_15 : decode b_Lu_sector 15 = .ok (.iload_n 2, 1) := by decide +kernel
theorem d_Lu_sector_16 : decode b_Lu_sector 16 = .ok (.ifCond .lt 9, 3) := by decide +kernel
theorem d_Lu_sector_19 : decode b_Lu_sector 19 = .ok (.iload_n 2, 1) := by decide +kernel
theorem d_Lu_sector_20 : decode b_Lu_sector 20 = .ok (.bipush 6, 2) := by decide +kernel
theorem d_Lu_sector_22 : decode b_Lu_sector 22 = .ok (.if_icmp .le 6, 3) := by decide +kernel
theorem d_Lu_sector_25 : decode b_Lu_sector 25 = .ok (.ldc 83, 2) := by decide +kernel
theorem d_Lu_sector_27 : decode b_Lu_sector 27 = .ok (.ireturn, 1) := by decide +kernel
theorem d_Lu_sector_28 : decode b_Lu_sector 28 = .ok (.aload_n 0, 1) := by decide +kernel
theorem d_Lu_sector_29 : decode b_Lu_sector 29 = .ok (.getfield 32, 3) := by decide +kernel
theorem d_Lu_sector_32 : decode b_Lu_sector 32 = .ok (.getfield 103, 3) := by decide +kernel
theorem d_Lu_sector_35 : decode b_Lu_sector 35 = .ok (.bipush 9, 2) := by decide +kernel
theorem d_Lu_sector_37 : decode b_Lu_sector 37 = .ok (.iload_n 1, 1) := by decide +kernel
theorem d_Lu_sector_38 : decode b_Lu_sector 38 = .ok (.imul, 1) := by decide +kernel
theorem d_Lu_sector_39 : decode b_Lu_sector 39 = .ok (.iadd, 1) := by decide +kernel
theorem d_Lu_sector_40 : decode b_Lu_sector 40 = .ok (.istore_n 3, 1) := by decide +kernel
theorem d_Lu_sector_41 : decode b_Lu_sector 41 = .ok (.iload_n 2, 1) := by decide +kernel
theorem d_Lu_sector_42 : decode b_Lu_sector 42 = .ok (.iconst 2, 1) := by decide +kernel
theorem d_Lu_sector_43 : decode b_Lu_sector 43 = .ok (.if_icmp .ge 21, 3) := by decide +kernel
theorem d_Lu_sector_46 : decode b_Lu_sector 46 = .ok (.aload_n 0, 1) := by decide +kernel
theorem d_Lu_sector_47 : decode b_Lu_sector 47 = .ok (.getfield 32, 3) := by decide +kernel
theorem d_Lu_sector_50 : decode b_Lu_sector 50 = .ok (.getfield 63, 3) := by decide +kernel
theorem d_Lu_sector_53 : decode b_Lu_sector 53 = .ok (.iload_n 3, 1) := by decide +kernel
theorem d_Lu_sector_54 : decode b_Lu_sector 54 = .ok (.iconst 2, 1) := by decide +kernel
theorem d_Lu_sector_55 : decode b_Lu_sector 55 = .ok (.iload_n 2, 1) := by decide +kernel
theorem d_Lu_sector_56 : decode b_Lu_sector 56 = .ok (.imul, 1) := by decide +kernel
theorem d_Lu_sector_57 : decode b_Lu_sector 57 = .ok (.iadd, 1) := by decide +kernel
theorem d_Lu_sector_58 : decode b_Lu_sector 58 = .ok (.invokevirtual 84, 3) := by decide +kernel
theorem d_Lu_sector_61 : decode b_Lu_sector 61 = .ok (.goto 18, 3) := by decide +kernel
theorem d_Lu_sector_64 : decode b_Lu_sector 64 = .ok (.aload_n 0, 1) := by decide +kernel
theorem d_Lu_sector_65 : decode b_Lu_sector 65 = .ok (.getfield 32, 3) := by decide +kernel
theorem d_Lu_sector_68 : decode b_Lu_sector 68 = .ok (.getfield 63, 3) := by decide +kernel
theorem d_Lu_sector_71 : decode b_Lu_sector 71 = .ok (.iload_n 3, 1) := by decide +kernel
theorem d_Lu_sector_72 : decode b_Lu_sector 72 = .ok (.iconst 2, 1) := by decide +kernel
theorem d_Lu_sector_73 : decode b_Lu_sector 73 = .ok (.iadd, 1) := by decide +kernel
theorem d_Lu_sector_74 : decode b_Lu_sector 74 = .ok (.iload_n 2, 1) := by decide +kernel
theorem d_Lu_sector_75 : decode b_Lu_sector 75 = .ok (.iadd, 1) := by decide +kernel
theorem d_Lu_sector_76 : decode b_Lu_sector 76 = .ok (.invokevirtual 77, 3) := by decide +kernel
theorem d_Lu_sector_79 : decode b_Lu_sector 79 = .ok (.ireturn, 1) := by decide +kernel
theorem d_Lu_wall_0 : decode b_Lu_wall 0 = .ok (.iload_n 1, 1) := by decide +kernel
theorem d_Lu_wall_1 : decode b_Lu_wall 1 = .ok (.ifCond .lt 24, 3) := by decide +kernel
theorem d_Lu_wall_4 : decode b_Lu_wall 4 = .ok (.iload_n 1, 1) := by decide +kernel
theorem d_Lu_wall_5 : decode b_Lu_wall 5 = .ok (.aload_n 0, 1) := by decide +kernel
theorem d_Lu_wall_6 : decode b_Lu_wall 6 = .ok (.getfield 32, 3) := by decide +kernel
theorem d_Lu_wall_9 : decode b_Lu_wall 9 = .ok (.getfield 106, 3) := by decide +kernel
theorem d_Lu_wall_12 : decode b_Lu_wall 12 = .ok (.if_icmp .ge 13, 3) := by decide +kernel
theorem d_Lu_wall_15 : decode b_Lu_wall 15 = .ok (.iload_n 2, 1) := by decide +kernel
theorem d_Lu_wall_16 : decode b_Lu_wall 16 = .ok (.ifCond .lt 9, 3) := by decide +kernel
theorem d_Lu_wall_19 : decode b_Lu_wall 19 = .ok (.iload_n 2, 1) := by decide +kernel
theorem d_Lu_wall_20 : decode b_Lu_wall 20 = .ok (.bipush 14, 2) := by decide +kernel
theorem d_Lu_wall_22 : decode b_Lu_wall 22 = .ok (.if_icmp .le 5, 3) := by decide +kernel
theorem d_Lu_wall_25 : decode b_Lu_wall 25 = .ok (.iconst (-1), 1) := by decide +kernel
theorem d_Lu_wall_26 : decode b_Lu_wall 26 = .ok (.ireturn, 1) := by decide +kernel
theorem d_Lu_wall_27 : decode b_Lu_wall 27 = .ok (.aload_n 0, 1) := by decide +kernel
theorem d_Lu_wall_28 : decode b_Lu_wall 28 = .ok (.getfield 32, 3) := by decide +kernel
theorem d_Lu_wall_31 : decode b_Lu_wall 31 = .ok (.getfield 109, 3) := by decide +kernel
theorem d_Lu_wall_34 : decode b_Lu_wall 34 = .ok (.bipush 14, 2) := by decide +kernel
theorem d_Lu_wall_36 : decode b_Lu_wall 36 = .ok (.iload_n 1, 1) := by decide +kernel
theorem d_Lu_wall_37 : decode b_Lu_wall 37 = .ok (.imul, 1) := by decide +kernel
theorem d_Lu_wall_38 : decode b_Lu_wall 38 = .ok (.iadd, 1) := by decide +kernel
theorem d_Lu_wall_39 : decode b_Lu_wall 39 = .ok (.istore_n 3, 1) := by decide +kernel
theorem d_Lu_wall_40 : decode b_Lu_wall 40 = .ok (.iload_n 2, 1) := by decide +kernel
theorem d_Lu_wall_41 : decode b_Lu_wall 41 = .ok (.lookupswitch 62 #[(10, 27), (11, 44)], 27) := by decide +kernel
theorem d_Lu_wall_68 : decode b_Lu_wall 68 = .ok (.aload_n 0, 1) := by decide +kernel
theorem d_Lu_wall_69 : decode b_Lu_wall 69 = .ok (.getfield 32, 3) := by decide +kernel
theorem d_Lu_wall_72 : decode b_Lu_wall 72 = .ok (.getfield 63, 3) := by decide +kernel
theorem d_Lu_wall_75 : decode b_Lu_wall 75 = .ok (.iload_n 3, 1) := by decide +kernel
theorem d_Lu_wall_76 : decode b_Lu_wall 76 = .ok (.bipush 10, 2) := by decide +kernel
theorem d_Lu_wall_78 : decode b_Lu_wall 78 = .ok (.iadd, 1) := by decide +kernel
theorem d_Lu_wall_79 : decode b_Lu_wall 79 = .ok (.invokevirtual 77, 3) := by decide +kernel
theorem d_Lu_wall_82 : decode b_Lu_wall 82 = .ok (.iconst 4, 1) := by decide +kernel
theorem d_Lu_wall_83 : decode b_Lu_wall 83 = .ok (.ishr, 1) := by decide +kernel
theorem d_Lu_wall_84 : decode b_Lu_wall 84 = .ok (.ireturn, 1) := by decide +kernel
theorem d_Lu_wall_85 : decode b_Lu_wall 85 = .ok (.aload_n 0, 1) := by decide +kernel
theorem d_Lu_wall_86 : decode b_Lu_wall 86 = .ok (.getfield 32, 3) := by decide +kernel
theorem d_Lu_wall_89 : decode b_Lu_wall 89 = .ok (.getfield 63, 3) := by decide +kernel
theorem d_Lu_wall_92 : decode b_Lu_wall 92 = .ok (.iload_n 3, 1) := by decide +kernel
theorem d_Lu_wall_93 : decode b_Lu_wall 93 = .ok (.bipush 10, 2) := by decide +kernel
theorem d_Lu_wall_95 : decode b_Lu_wall 95 = .ok (.iadd, 1) := by decide +kernel
theorem d_Lu_wall_96 : decode b_Lu_wall 96 = .ok (.invokevirtual 77, 3) := by decide +kernel
theorem d_Lu_wall_99 : decode b_Lu_wall 99 = .ok (.bipush 15, 2) := by decide +kernel
theorem d_Lu_wall_101 : decode b_Lu_wall 101 = .ok (.iand, 1) := by decide +kernel
theorem d_Lu_wall_102 : decode b_Lu_wall 102 = .ok (.ireturn, 1) := by decide +kernel
theorem d_Lu_wall_103 : decode b_Lu_wall 103 = .ok (.aload_n 0, 1) := by decide +kernel
theorem d_Lu_wall_104 : decode b_Lu_wall 104 = .ok (.getfield 32, 3) := by decide +kernel
theorem d_Lu_wall_107 : decode b_Lu_wall 107 = .ok (.getfield 63, 3) := by decide +kernel
theorem d_Lu_wall_110 : decode b_Lu_wall 110 = .ok (.iload_n 2, 1) := by decide +kernel
theorem d_Lu_wall_111 : decode b_Lu_wall 111 = .ok (.bipush 10, 2) := by decide +kernel
theorem d_Lu_wall_113 : decode b_Lu_wall 113 = .ok (.if_icmp .ge 9, 3) := by decide +kernel
theorem d_Lu_wall_116 : decode b_Lu_wall 116 = .ok (.iload_n 3, 1) := by decide +kernel
theorem d_Lu_wall_117 : decode b_Lu_wall 117 = .ok (.iload_n 2, 1) := by decide +kernel
theorem d_Lu_wall_118 : decode b_Lu_wall 118 = .ok (.iadd, 1) := by decide +kernel
theorem d_Lu_wall_119 : decode b_Lu_wall 119 = .ok (.goto 8, 3) := by decide +kernel
theorem d_Lu_wall_122 : decode b_Lu_wall 122 = .ok (.iload_n 3, 1) := by decide +kernel
theorem d_Lu_wall_123 : decode b_Lu_wall 123 = .ok (.iload_n 2, 1) := by decide +kernel
theorem d_Lu_wall_124 : decode b_Lu_wall 124 = .ok (.iadd, 1) := by decide +kernel
theorem d_Lu_wall_125 : decode b_Lu_wall 125 = .ok (.iconst 1, 1) := by decide +kernel
theorem d_Lu_wall_126 : decode b_Lu_wall 126 = .ok (.isub, 1) := by decide +kernel
theorem d_Lu_wall_127 : decode b_Lu_wall 127 = .ok (.invokevirtual 77, 3) := by decide +kernel
theorem d_Lu_wall_130 : decode b_Lu_wall 130 = .ok (.ireturn, 1) := by decide +kernel
theorem d_Lu_start_0 : decode b_Lu_start 0 = .ok (.aload_n 0, 1) := by decide +kernel
theorem d_Lu_start_1 : decode b_Lu_start 1 = .ok (.getfield 32, 3) := by decide +kernel
theorem d_Lu_start_4 : decode b_Lu_start 4 = .ok (.getfield 59, 3) := by decide +kernel
theorem d_Lu_start_7 : decode b_Lu_start 7 = .ok (.ifCond .eq 12, 3) := by decide +kernel
theorem d_Lu_start_10 : decode b_Lu_start 10 = .ok (.iload_n 1, 1) := by decide +kernel
theorem d_Lu_start_11 : decode b_Lu_start 11 = .ok (.ifCond .lt 8, 3) := by decide +kernel
theorem d_Lu_start_14 : decode b_Lu_start 14 = .ok (.iload_n 1, 1) := by decide +kernel
theorem d_Lu_start_15 : decode b_Lu_start 15 = .ok (.iconst 3, 1) := by decide +kernel
theorem d_Lu_start_16 : decode b_Lu_start 16 = .ok (.if_icmp .le 6, 3) := by decide +kernel
theorem d_Lu_start_19 : decode b_Lu_start 19 = .ok (.ldc 83, 2) := by decide +kernel
theorem d_Lu_start_21 : decode b_Lu_start 21 = .ok (.ireturn, 1) := by decide +kernel
theorem d_Lu_start_22 : decode b_Lu_start 22 = .ok (.iload_n 1, 1) := by decide +kernel
theorem d_Lu_start_23 : decode b_Lu_start 23 = .ok (.iconst 2, 1) := by decide +kernel
theorem d_Lu_start_24 : decode b_Lu_start 24 = .ok (.if_icmp .ge 27, 3) := by decide +kernel
theorem d_Lu_start_27 : decode b_Lu_start 27 = .ok (.aload_n 0, 1) := by decide +kernel
theorem d_Lu_start_28 : decode b_Lu_start 28 = .ok (.getfield 32, 3) := by decide +kernel
theorem d_Lu_start_31 : decode b_Lu_start 31 = .ok (.getfield 63, 3) := by decide +kernel
theorem d_Lu_start_34 : decode b_Lu_start 34 = .ok (.aload_n 0, 1) := by decide +kernel
theorem d_Lu_start_35 : decode b_Lu_start 35 = .ok (.getfield 32, 3) := by decide +kernel
theorem d_Lu_start_38 : decode b_Lu_start 38 = .ok (.getfield 112, 3) := by decide +kernel
theorem d_Lu_start_41 : decode b_Lu_start 41 = .ok (.iconst 2, 1) := by decide +kernel
theorem d_Lu_start_42 : decode b_Lu_start 42 = .ok (.iload_n 1, 1) := by decide +kernel
theorem d_Lu_start_43 : decode b_Lu_start 43 = .ok (.imul, 1) := by decide +kernel
theorem d_Lu_start_44 : decode b_Lu_start 44 = .ok (.iadd, 1) := by decide +kernel
theorem d_Lu_start_45 : decode b_Lu_start 45 = .ok (.invokevirtual 84, 3) := by decide +kernel
theorem d_Lu_start_48 : decode b_Lu_start 48 = .ok (.goto 24, 3) := by decide +kernel
theorem d_Lu_start_51 : decode b_Lu_start 51 = .ok (.aload_n 0, 1) := by decide +kernel
theorem d_Lu_start_52 : decode b_Lu_start 52 = .ok (.getfield 32, 3) := by decide +kernel
theorem d_Lu_start_55 : decode b_Lu_start 55 = .ok (.getfield 63, 3) := by decide +kernel
theorem d_Lu_start_58 : decode b_Lu_start 58 = .ok (.aload_n 0, 1) := by decide +kernel
theorem d_Lu_start_59 : decode b_Lu_start 59 = .ok (.getfield 32, 3) := by decide +kernel
theorem d_Lu_start_62 : decode b_Lu_start 62 = .ok (.getfield 112, 3) := by decide +kernel
theorem d_Lu_start_65 : decode b_Lu_start 65 = .ok (.iconst 2, 1) := by decide +kernel
theorem d_Lu_start_66 : decode b_Lu_start 66 = .ok (.iadd, 1) := by decide +kernel
theorem d_Lu_start_67 : decode b_Lu_start 67 = .ok (.iload_n 1, 1) := by decide +kernel
theorem d_Lu_start_68 : decode b_Lu_start 68 = .ok (.iadd, 1) := by decide +kernel
theorem d_Lu_start_69 : decode b_Lu_start 69 = .ok (.invokevirtual 77, 3) := by decide +kernel
theorem d_Lu_start_72 : decode b_Lu_start 72 = .ok (.ireturn, 1) := by decide +kernel
theorem d_Lu_look_0 : decode b_Lu_look 0 = .ok (.iload_n 1, 1) := by decide +kernel
theorem d_Lu_look_1 : decode b_Lu_look 1 = .ok (.tableswitch 151 0 8 #[51, 59, 67, 82, 97, 112, 127, 135, 143], 51) := by decide +kernel
theorem d_Lu_look_52 : decode b_Lu_look 52 = .ok (.aload_n 0, 1) := by decide +kernel
theorem d_Lu_look_53 : decode b_Lu_look 53 = .ok (.getfield 20, 3) := by decide +kernel
theorem d_Lu_look_56 : decode b_Lu_look 56 = .ok (.getfield 69, 3) := by decide +kernel
theorem d_Lu_look_59 : decode b_Lu_look 59 = .ok (.ireturn, 1) := by decide +kernel
theorem d_Lu_look_60 : decode b_Lu_look 60 = .ok (.aload_n 0, 1) := by decide +kernel
theorem d_Lu_look_61 : decode b_Lu_look 61 = .ok (.getfield 26, 3) := by decide +kernel
theorem d_Lu_look_64 : decode b_Lu_look 64 = .ok (.getfield 69, 3) := by decide +kernel
theorem d_Lu_look_67 : decode b_Lu_look 67 = .ok (.ireturn, 1) := by decide +kernel
theorem d_Lu_look_68 : decode b_Lu_look 68 = .ok (.aload_n 0, 1) := by decide +kernel
theorem d_Lu_look_69 : decode b_Lu_look 69 = .ok (.getfield 32, 3) := by decide +kernel
theorem d_Lu_look_72 : decode b_Lu_look 72 = .ok (.aload_n 0, 1) := by decide +kernel
theorem d_Lu_look_73 : decode b_Lu_look 73 = .ok (.getfield 32, 3) := by decide +kernel
theorem d_Lu_look_76 : decode b_Lu_look 76 = .ok (.getfield 80, 3) := by decide +kernel
theorem d_Lu_look_79 : decode b_Lu_look 79 = .ok (.invokevirtual 115, 3) := by decide +kernel
theorem d_Lu_look_82 : decode b_Lu_look 82 = .ok (.ireturn, 1) := by decide +kernel
theorem d_Lu_look_83 : decode b_Lu_look 83 = .ok (.aload_n 0, 1) := by decide +kernel
theorem d_Lu_look_84 : decode b_Lu_look 84 = .ok (.getfield 32, 3) := by decide +kernel
theorem d_Lu_look_87 : decode b_Lu_look 87 = .ok (.aload_n 0, 1) := by decide +kernel
theorem d_Lu_look_88 : decode b_Lu_look 88 = .ok (.getfield 32, 3) := by decide +kernel
theorem d_Lu_look_91 : decode b_Lu_look 91 = .ok (.getfield 87, 3) := by decide +kernel
theorem d_Lu_look_94 : decode b_Lu_look 94 = .ok (.invokevirtual 115, 3) := by decide +kernel
theorem d_Lu_look_97 : decode b_Lu_look 97 = .ok (.ireturn, 1) := by decide +kernel
theorem d_Lu_look_98 : decode b_Lu_look 98 = .ok (.aload_n 0, 1) := by decide +kernel
theorem d_Lu_look_99 : decode b_Lu_look 99 = .ok (.getfield 32, 3) := by decide +kernel
theorem d_Lu_look_102 : decode b_Lu_look 102 = .ok (.aload_n 0, 1) := by decide +kernel
theorem d_Lu_look_103 : decode b_Lu_look 103 = .ok (.getfield 32, 3) := by decide +kernel
theorem d_Lu_look_106 : decode b_Lu_look 106 = .ok (.getfield 100, 3) := by decide +kernel
theorem d_Lu_look_109 : decode b_Lu_look 109 = .ok (.invokevirtual 115, 3) := by decide +kernel
theorem d_Lu_look_112 : decode b_Lu_look 112 = .ok (.ireturn, 1) := by decide +kernel
theorem d_Lu_look_113 : decode b_Lu_look 113 = .ok (.aload_n 0, 1) := by decide +kernel
theorem d_Lu_look_114 : decode b_Lu_look 114 = .ok (.getfield 32, 3) := by decide +kernel
theorem d_Lu_look_117 : decode b_Lu_look 117 = .ok (.aload_n 0, 1) := by decide +kernel
theorem d_Lu_look_118 : decode b_Lu_look 118 = .ok (.getfield 32, 3) := by decide +kernel
theorem d_Lu_look_121 : decode b_Lu_look 121 = .ok (.getfield 106, 3) := by decide +kernel
theorem d_Lu_look_124 : decode b_Lu_look 124 = .ok (.invokevirtual 115, 3) := by decide +kernel
theorem d_Lu_look_127 : decode b_Lu_look 127 = .ok (.ireturn, 1) := by decide +kernel
theorem d_Lu_look_128 : decode b_Lu_look 128 = .ok (.aload_n 0, 1) := by decide +kernel
theorem d_Lu_look_129 : decode b_Lu_look 129 = .ok (.getfield 10, 3) := by decide +kernel
theorem d_Lu_look_132 : decode b_Lu_look 132 = .ok (.getfield 118, 3) := by decide +kernel
theorem d_Lu_look_135 : decode b_Lu_look 135 = .ok (.ireturn, 1) := by decide +kernel
theorem d_Lu_look_136 : decode b_Lu_look 136 = .ok (.aload_n 0, 1) := by decide +kernel
theorem d_Lu_look_137 : decode b_Lu_look 137 = .ok (.getfield 10, 3) := by decide +kernel
theorem d_Lu_look_140 : decode b_Lu_look 140 = .ok (.getfield 121, 3) := by decide +kernel
theorem d_Lu_look_143 : decode b_Lu_look 143 = .ok (.ireturn, 1) := by decide +kernel
theorem d_Lu_look_144 : decode b_Lu_look 144 = .ok (.aload_n 0, 1) := by decide +kernel
theorem d_Lu_look_145 : decode b_Lu_look 145 = .ok (.getfield 10, 3) := by decide +kernel
theorem d_Lu_look_148 : decode b_Lu_look 148 = .ok (.getfield 124, 3) := by decide +kernel
theorem d_Lu_look_151 : decode b_Lu_look 151 = .ok (.ireturn, 1) := by decide +kernel
theorem d_Lu_look_152 : decode b_Lu_look 152 = .ok (.iconst (-1), 1) := by decide +kernel
theorem d_Lu_look_153 : decode b_Lu_look 153 = .ok (.ireturn, 1) := by decide +kernel
theorem d_Mo_init_0 : decode b_Mo_init 0 = .ok (.aload_n 0, 1) := by decide +kernel
theorem d_Mo_init_1 : decode b_Mo_init 1 = .ok (.invokespecial 1, 3) := by decide +kernel
theorem d_Mo_init_4 : decode b_Mo_init 4 = .ok (.aload_n 0, 1) := by decide +kernel
theorem d_Mo_init_5 : decode b_Mo_init 5 = .ok (.sipush 8192, 3) := by decide +kernel
theorem d_Mo_init_8 : decode b_Mo_init 8 = .ok (.newarray .byte, 2) := by decide +kernel
theorem d_Mo_init_10 : decode b_Mo_init 10 = .ok (.putfield 7, 3) := by decide +kernel
theorem d_Mo_init_13 : decode b_Mo_init 13 = .ok (.aload_n 0, 1) := by decide +kernel
theorem d_Mo_init_14 : decode b_Mo_init 14 = .ok (.sipush 8192, 3) := by decide +kernel
theorem d_Mo_init_17 : decode b_Mo_init 17 = .ok (.newarray .byte, 2) := by decide +kernel
theorem d_Mo_init_19 : decode b_Mo_init 19 = .ok (.putfield 13, 3) := by decide +kernel
theorem d_Mo_init_22 : decode b_Mo_init 22 = .ok (.aload_n 0, 1) := by decide +kernel
theorem d_Mo_init_23 : decode b_Mo_init 23 = .ok (.sipush 8192, 3) := by decide +kernel
theorem d_Mo_init_26 : decode b_Mo_init 26 = .ok (.newarray .byte, 2) := by decide +kernel
theorem d_Mo_init_28 : decode b_Mo_init 28 = .ok (.putfield 16, 3) := by decide +kernel
theorem d_Mo_init_31 : decode b_Mo_init 31 = .ok (.aload_n 0, 1) := by decide +kernel
theorem d_Mo_init_32 : decode b_Mo_init 32 = .ok (.iconst (-1), 1) := by decide +kernel
theorem d_Mo_init_33 : decode b_Mo_init 33 = .ok (.putfield 19, 3) := by decide +kernel
theorem d_Mo_init_36 : decode b_Mo_init 36 = .ok (.aload_n 0, 1) := by decide +kernel
theorem d_Mo_init_37 : decode b_Mo_init 37 = .ok (.iconst (-1), 1) := by decide +kernel
theorem d_Mo_init_38 : decode b_Mo_init 38 = .ok (.putfield 23, 3) := by decide +kernel
theorem d_Mo_init_41 : decode b_Mo_init 41 = .ok (.return_, 1) := by decide +kernel
theorem d_Mo_give_0 : decode b_Mo_give 0 = .ok (.aload_n 0, 1) := by decide +kernel
theorem d_Mo_give_1 : decode b_Mo_give 1 = .ok (.iconst 0, 1) := by decide +kernel
theorem d_Mo_give_2 : decode b_Mo_give 2 = .ok (.putfield 26, 3) := by decide +kernel
theorem d_Mo_give_5 : decode b_Mo_give 5 = .ok (.iload_n 3, 1) := by decide +kernel
theorem d_Mo_give_6 : decode b_Mo_give 6 = .ok (.iconst 1, 1) := by decide +kernel
theorem d_Mo_give_7 : decode b_Mo_give 7 = .ok (.if_icmp .lt 21, 3) := by decide +kernel
theorem d_Mo_give_10 : decode b_Mo_give 10 = .ok (.iload_n 3, 1) := by decide +kernel
theorem d_Mo_give_11 : decode b_Mo_give 11 = .ok (.bipush 8, 2) := by decide +kernel
theorem d_Mo_give_13 : decode b_Mo_give 13 = .ok (.if_icmp .gt 15, 3) := by decide +kernel
theorem d_Mo_give_16 : decode b_Mo_give 16 = .ok (.aload_n 0, 1) := by decide +kernel
theorem d_Mo_give_17 : decode b_Mo_give 17 = .ok (.getfield 29, 3) := by decide +kernel
theorem d_Mo_give_20 : decode b_Mo_give 20 = .ok (.iload_n 3, 1) := by decide +kernel
theorem d_Mo_give_21 : decode b_Mo_give 21 = .ok (.iadd, 1) := by decide +kernel
theorem d_Mo_give_22 : decode b_Mo_give 22 = .ok (.sipush 8192, 3) := by decide +kernel
theorem d_Mo_give_25 : decode b_Mo_give 25 = .ok (.if_icmp .le 5, 3) := by decide +kernel
theorem d_Mo_give_28 : decode b_Mo_give 28 = .ok (.iconst 0, 1) := by decide +kernel
theorem d_Mo_give_29 : decode b_Mo_give 29 = .ok (.ireturn, 1) := by decide +kernel
theorem d_Mo_give_30 : decode b_Mo_give 30 = .ok (.iload_n 3, 1) := by decide +kernel
theorem d_Mo_give_31 : decode b_Mo_give 31 = .ok (.iconst 1, 1) := by decide +kernel
theorem d_Mo_give_32 : decode b_Mo_give 32 = .ok (.isub, 1) := by decide +kernel
theorem d_Mo_give_33 : decode b_Mo_give 33 = .ok (.istore 4, 2) := by decide +kernel
theorem d_Mo_give_35 : decode b_Mo_give 35 = .ok (.iload 4, 2) := by decide +kernel
theorem d_Mo_give_37 : decode b_Mo_give 37 = .ok (.ifCond .lt 37, 3) := by decide +kernel
theorem d_Mo_give_40 : decode b_Mo_give 40 = .ok (.aload_n 0, 1) := by decide +kernel
theorem d_Mo_give_41 : decode b_Mo_give 41 = .ok (.getfield 7, 3) := by decide +kernel
theorem d_Mo_give_44 : decode b_Mo_give 44 = .ok (.aload_n 0, 1) := by decide +kernel
theorem d_Mo_give_45 : decode b_Mo_give 45 = .ok (.getfield 29, 3) := by decide +kernel
theorem d_Mo_give_48 : decode b_Mo_give 48 = .ok (.lload_n 1, 1) := by decide +kernel
theorem d_Mo_give_49 : decode b_Mo_give 49 = .ok (.bipush 8, 2) := by decide +kernel
theorem d_Mo_give_51 : decode b_Mo_give 51 = .ok (.iload 4, 2) := by decide +kernel
theorem d_Mo_give_53 : decode b_Mo_give 53 = .ok (.imul, 1) := by decide +kernel
theorem d_Mo_give_54 : decode b_Mo_give 54 = .ok (.lshr, 1) := by decide +kernel
theorem d_Mo_give_55 : decode b_Mo_give 55 = .ok (.l2i, 1) := by decide +kernel
theorem d_Mo_give_56 : decode b_Mo_give 56 = .ok (.i2b, 1) := by decide +kernel
theorem d_Mo_give_57 : decode b_Mo_give 57 = .ok (.bastore, 1) := by decide +kernel
theorem d_Mo_give_58 : decode b_Mo_give 58 = .ok (.aload_n 0, 1) := by decide +kernel
theorem d_Mo_give_59 : decode b_Mo_give 59 = .ok (.dup, 1) := by decide +kernel
theorem d_Mo_give_60 : decode b_Mo_give 60 = .ok (.getfield 29, 3) := by decide +kernel
theorem d_Mo_give_63 : decode b_Mo_give 63 = .ok (.iconst 1, 1) := by decide +kernel
theorem d_Mo_give_64 : decode b_Mo_give 64 = .ok (.iadd, 1) := by decide +kernel
theorem d_Mo_give_65 : decode b_Mo_give 65 = .ok (.putfield 29, 3) := by decide +kernel
theorem d_Mo_give_68 : decode b_Mo_give 68 = .ok (.iinc 4 (-1), 3) := by decide +kernel
theorem d_Mo_give_71 : decode b_Mo_give 71 = .ok (.goto (-36), 3) := by decide +kernel
theorem d_Mo_give_74 : decode b_Mo_give 74 = .ok (.iconst 1, 1) := by decide +kernel
theorem d_Mo_give_75 : decode b_Mo_give 75 = .ok (.ireturn, 1) := by decide +kernel
theorem d_Mo_cut_0 : decode b_Mo_cut 0 = .ok (.aload_n 0, 1) := by decide +kernel
theorem d_Mo_cut_1 : decode b_Mo_cut 1 = .ok (.iconst 0, 1) := by decide +kernel
theorem d_Mo_cut_2 : decode b_Mo_cut 2 = .ok (.putfield 26, 3) := by decide +kernel
theorem d_Mo_cut_5 : decode b_Mo_cut 5 = .ok (.iload_n 1, 1) := by decide +kernel
theorem d_Mo_cut_6 : decode b_Mo_cut 6 = .ok (.ifCond .lt 11, 3) := by decide +kernel
theorem d_Mo_cut_9 : decode b_Mo_cut 9 = .ok (.iload_n 1, 1) := by decide +kernel
theorem d_Mo_cut_10 : decode b_Mo_cut 10 = .ok (.aload_n 0, 1) := by decide +kernel
theorem d_Mo_cut_11 : decode b_Mo_cut 11 = .ok (.getfield 29, 3) := by decide +kernel
theorem d_Mo_cut_14 : decode b_Mo_cut 14 = .ok (.if_icmp .le 5, 3) := by decide +kernel
theorem d_Mo_cut_17 : decode b_Mo_cut 17 = .ok (.iconst 0, 1) := by decide +kernel
theorem d_Mo_cut_18 : decode b_Mo_cut 18 = .ok (.ireturn, 1) := by decide +kernel
theorem d_Mo_cut_19 : decode b_Mo_cut 19 = .ok (.aload_n 0, 1) := by decide +kernel
theorem d_Mo_cut_20 : decode b_Mo_cut 20 = .ok (.iload_n 1, 1) := by decide +kernel
theorem d_Mo_cut_21 : decode b_Mo_cut 21 = .ok (.putfield 29, 3) := by decide +kernel
theorem d_Mo_cut_24 : decode b_Mo_cut 24 = .ok (.iconst 1, 1) := by decide +kernel
theorem d_Mo_cut_25 : decode b_Mo_cut 25 = .ok (.ireturn, 1) := by decide +kernel
theorem d_Mo_poke_0 : decode b_Mo_poke 0 = .ok (.aload_n 0, 1) := by decide +kernel
theorem d_Mo_poke_1 : decode b_Mo_poke 1 = .ok (.iconst 0, 1) := by decide +kernel
theorem d_Mo_poke_2 : decode b_Mo_poke 2 = .ok (.putfield 26, 3) := by decide +kernel
theorem d_Mo_poke_5 : decode b_Mo_poke 5 = .ok (.iload_n 1, 1) := by decide +kernel
theorem d_Mo_poke_6 : decode b_Mo_poke 6 = .ok (.ifCond .lt 11, 3) := by decide +kernel
theorem d_Mo_poke_9 : decode b_Mo_poke 9 = .ok (.iload_n 1, 1) := by decide +kernel
theorem d_Mo_poke_10 : decode b_Mo_poke 10 = .ok (.aload_n 0, 1) := by decide +kernel
theorem d_Mo_poke_11 : decode b_Mo_poke 11 = .ok (.getfield 29, 3) := by decide +kernel
theorem d_Mo_poke_14 : decode b_Mo_poke 14 = .ok (.if_icmp .lt 5, 3) := by decide +kernel
theorem d_Mo_poke_17 : decode b_Mo_poke 17 = .ok (.iconst 0, 1) := by decide +kernel
theorem d_Mo_poke_18 : decode b_Mo_poke 18 = .ok (.ireturn, 1) := by decide +kernel
theorem d_Mo_poke_19 : decode b_Mo_poke 19 = .ok (.aload_n 0, 1) := by decide +kernel
theorem d_Mo_poke_20 : decode b_Mo_poke 20 = .ok (.getfield 7, 3) := by decide +kernel
theorem d_Mo_poke_23 : decode b_Mo_poke 23 = .ok (.iload_n 1, 1) := by decide +kernel
theorem d_Mo_poke_24 : decode b_Mo_poke 24 = .ok (.iload_n 2, 1) := by decide +kernel
theorem d_Mo_poke_25 : decode b_Mo_poke 25 = .ok (.i2b, 1) := by decide +kernel
theorem d_Mo_poke_26 : decode b_Mo_poke 26 = .ok (.bastore, 1) := by decide +kernel
theorem d_Mo_poke_27 : decode b_Mo_poke 27 = .ok (.iconst 1, 1) := by decide +kernel
theorem d_Mo_poke_28 : decode b_Mo_poke 28 = .ok (.ireturn, 1) := by decide +kernel
theorem d_Mo_check_0 : decode b_Mo_check 0 = .ok (.aload_n 0, 1) := by decide +kernel
theorem d_Mo_check_1 : decode b_Mo_check 1 = .ok (.iconst 0, 1) := by decide +kernel
theorem d_Mo_check_2 : decode b_Mo_check 2 = .ok (.putfield 26, 3) := by decide +kernel
theorem d_Mo_check_5 : decode b_Mo_check 5 = .ok (.aload_n 0, 1) := by decide +kernel
theorem d_Mo_check_6 : decode b_Mo_check 6 = .ok (.getfield 29, 3) := by decide +kernel
theorem d_Mo_check_9 : decode b_Mo_check 9 = .ok (.iconst 2, 1) := by decide +kernel
theorem d_Mo_check_10 : decode b_Mo_check 10 = .ok (.if_icmp .ge 5, 3) := by decide +kernel
theorem d_Mo_check_13 : decode b_Mo_check 13 = .ok (.iconst 0, 1) := by decide +kernel
theorem d_Mo_check_14 : decode b_Mo_check 14 = .ok (.ireturn, 1) := by decide +kernel
theorem d_Mo_check_15 : decode b_Mo_check 15 = .ok (.aload_n 0, 1) := by decide +kernel
theorem d_Mo_check_16 : decode b_Mo_check 16 = .ok (.iconst 0, 1) := by decide +kernel
theorem d_Mo_check_17 : decode b_Mo_check 17 = .ok (.putfield 32, 3) := by decide +kernel
theorem d_Mo_check_20 : decode b_Mo_check 20 = .ok (.aload_n 0, 1) := by decide +kernel
theorem d_Mo_check_21 : decode b_Mo_check 21 = .ok (.iconst 0, 1) := by decide +kernel
theorem d_Mo_check_22 : decode b_Mo_check 22 = .ok (.putfield 35, 3) := by decide +kernel
theorem d_Mo_check_25 : decode b_Mo_check 25 = .ok (.iconst 0, 1) := by decide +kernel
theorem d_Mo_check_26 : decode b_Mo_check 26 = .ok (.istore_n 1, 1) := by decide +kernel
theorem d_Mo_check_27 : decode b_Mo_check 27 = .ok (.iload_n 1, 1) := by decide +kernel
theorem d_Mo_check_28 : decode b_Mo_check 28 = .ok (.aload_n 0, 1) := by decide +kernel
theorem d_Mo_check_29 : decode b_Mo_check 29 = .ok (.getfield 29, 3) := by decide +kernel
theorem d_Mo_check_32 : decode b_Mo_check 32 = .ok (.iconst 2, 1) := by decide +kernel
theorem d_Mo_check_33 : decode b_Mo_check 33 = .ok (.isub, 1) := by decide +kernel
theorem d_Mo_check_34 : decode b_Mo_check 34 = .ok (.if_icmp .ge 23, 3) := by decide +kernel
theorem d_Mo_check_37 : decode b_Mo_check 37 = .ok (.aload_n 0, 1) := by decide +kernel
theorem d_Mo_check_38 : decode b_Mo_check 38 = .ok (.aload_n 0, 1) := by decide +kernel
theorem d_Mo_check_39 : decode b_Mo_check 39 = .ok (.getfield 7, 3) := by decide +kernel
theorem d_Mo_check_42 : decode b_Mo_check 42 = .ok (.iload_n 1, 1) := by decide +kernel
theorem d_Mo_check_43 : decode b_Mo_check 43 = .ok (.baload, 1) := by decide +kernel
theorem d_Mo_check_44 : decode b_Mo_check 44 = .ok (.sipush 255, 3) := by decide +kernel
theorem d_Mo_check_47 : decode b_Mo_check 47 = .ok (.iand, 1) := by decide +kernel
theorem d_Mo_check_48 : decode b_Mo_check 48 = .ok (.invokevirtual 38, 3) := by decide +kernel
theorem d_Mo_check_51 : decode b_Mo_check 51 = .ok (.iinc 1 1, 3) := by decide +kernel
theorem d_Mo_check_54 : decode b_Mo_check 54 = .ok (.goto (-27), 3) := by decide +kernel
theorem d_Mo_check_57 : decode b_Mo_check 57 = .ok (.aload_n 0, 1) := by decide +kernel
theorem d_Mo_check_58 : decode b_Mo_check 58 = .ok (.getfield 7, 3) := by decide +kernel
theorem d_Mo_check_61 : decode b_Mo_check 61 = .ok (.aload_n 0, 1) := by decide +kernel
theorem d_Mo_check_62 : decode b_Mo_check 62 = .ok (.getfield 29, 3) := by decide +kernel
theorem d_Mo_check_65 : decode b_Mo_check 65 = .ok (.iconst 2, 1) := by decide +kernel
theorem d_Mo_check_66 : decode b_Mo_check 66 = .ok (.isub, 1) := by decide +kernel
theorem d_Mo_check_67 : decode b_Mo_check 67 = .ok (.aload_n 0, 1) := by decide +kernel
theorem d_Mo_check_68 : decode b_Mo_check 68 = .ok (.getfield 32, 3) := by decide +kernel
theorem d_Mo_check_71 : decode b_Mo_check 71 = .ok (.i2b, 1) := by decide +kernel
theorem d_Mo_check_72 : decode b_Mo_check 72 = .ok (.bastore, 1) := by decide +kernel
theorem d_Mo_check_73 : decode b_Mo_check 73 = .ok (.aload_n 0, 1) := by decide +kernel
theorem d_Mo_check_74 : decode b_Mo_check 74 = .ok (.getfield 7, 3) := by decide +kernel
theorem d_Mo_check_77 : decode b_Mo_check 77 = .ok (.aload_n 0, 1) := by decide +kernel
theorem d_Mo_check_78 : decode b_Mo_check 78 = .ok (.getfield 29, 3) := by decide +kernel
theorem d_Mo_check_81 : decode b_Mo_check 81 = .ok (.iconst 1, 1) := by decide +kernel
theorem d_Mo_check_82 : decode b_Mo_check 82 = .ok (.isub, 1) := by decide +kernel
theorem d_Mo_check_83 : decode b_Mo_check 83 = .ok (.aload_n 0, 1) := by decide +kernel
theorem d_Mo_check_84 : decode b_Mo_check 84 = .ok (.getfield 35, 3) := by decide +kernel
theorem d_Mo_check_87 : decode b_Mo_check 87 = .ok (.i2b, 1) := by decide +kernel
theorem d_Mo_check_88 : decode b_Mo_check 88 = .ok (.bastore, 1) := by decide +kernel
theorem d_Mo_check_89 : decode b_Mo_check 89 = .ok (.iconst 1, 1) := by decide +kernel
theorem d_Mo_check_90 : decode b_Mo_check 90 = .ok (.ireturn, 1) := by decide +kernel
theorem d_Mo_wrong_0 : decode b_Mo_wrong 0 = .ok (.aload_n 0, 1) := by decide +kernel
theorem d_Mo_wrong_1 : decode b_Mo_wrong 1 = .ok (.getfield 42, 3) := by decide +kernel
theorem d_Mo_wrong_4 : decode b_Mo_wrong 4 = .ok (.ifCond .ne 13, 3) := by decide +kernel
theorem d_Mo_wrong_7 : decode b_Mo_wrong 7 = .ok (.aload_n 0, 1) := by decide +kernel
theorem d_Mo_wrong_8 : decode b_Mo_wrong 8 = .ok (.iload_n 1, 1) := by decide +kernel
theorem d_Mo_wrong_9 : decode b_Mo_wrong 9 = .ok (.putfield 42, 3) := by decide +kernel
theorem d_Mo_wrong_12 : decode b_Mo_wrong 12 = .ok (.aload_n 0, 1) := by decide +kernel
theorem d_Mo_wrong_13 : decode b_Mo_wrong 13 = .ok (.iload_n 2, 1) := by decide +kernel
theorem d_Mo_wrong_14 : decode b_Mo_wrong 14 = .ok (.putfield 19, 3) := by decide +kernel
theorem d_Mo_wrong_17 : decode b_Mo_wrong 17 = .ok (.return_, 1) := by decide +kernel
theorem d_Mo_add_0 : decode b_Mo_add 0 = .ok (.aload_n 0, 1) := by decide +kernel
theorem d_Mo_add_1 : decode b_Mo_add 1 = .ok (.aload_n 0, 1) := by decide +kernel
theorem d_Mo_add_2 : decode b_Mo_add 2 = .ok (.getfield 32, 3) := by decide +kernel
theorem d_Mo_add_5 : decode b_Mo_add 5 = .ok (.iload_n 1, 1) := by decide +kernel
theorem d_Mo_add_6 : decode b_Mo_add 6 = .ok (.iadd, 1) := by decide +kernel
theorem d_Mo_add_7 : decode b_Mo_add 7 = .ok (.sipush 251, 3) := by decide +kernel
theorem d_Mo_add_10 : decode b_Mo_add 10 = .ok (.irem, 1) := by decide +kernel
theorem d_Mo_add_11 : decode b_Mo_add 11 = .ok (.putfield 32, 3) := by decide +kernel
theorem d_Mo_add_14 : decode b_Mo_add 14 = .ok (.aload_n 0, 1) := by decide +kernel
theorem d_Mo_add_15 : decode b_Mo_add 15 = .ok (.aload_n 0, 1) := by decide +kernel
theorem d_Mo_add_16 : decode b_Mo_add 16 = .ok (.getfield 35, 3) := by decide +kernel
theorem d_Mo_add_19 : decode b_Mo_add 19 = .ok (.aload_n 0, 1) := by decide +kernel
theorem d_Mo_add_20 : decode b_Mo_add 20 = .ok (.getfield 32, 3) := by decide +kernel
theorem d_Mo_add_23 : decode b_Mo_add 23 = .ok (.iadd, 1) := by decide +kernel
theorem d_Mo_add_24 : decode b_Mo_add 24 = .ok (.sipush 251, 3) := by decide +kernel
theorem d_Mo_add_27 : decode b_Mo_add 27 = .ok (.irem, 1) := by decide +kernel
theorem d_Mo_add_28 : decode b_Mo_add 28 = .ok (.putfield 35, 3) := by decide +kernel
theorem d_Mo_add_31 : decode b_Mo_add 31 = .ok (.return_, 1) := by decide +kernel
theorem d_Mo_next_0 : decode b_Mo_next 0 = .ok (.aload_n 0, 1) := by decide +kernel
theorem d_Mo_next_1 : decode b_Mo_next 1 = .ok (.getfield 42, 3) := by decide +kernel
theorem d_Mo_next_4 : decode b_Mo_next 4 = .ok (.ifCond .le 5, 3) := by decide +kernel
theorem d_Mo_next_7 : decode b_Mo_next 7 = .ok (.iconst 0, 1) := by decide +kernel
theorem d_Mo_next_8 : decode b_Mo_next 8 = .ok (.ireturn, 1) := by decide +kernel
theorem d_Mo_next_9 : decode b_Mo_next 9 = .ok (.aload_n 0, 1) := by decide +kernel
theorem d_Mo_next_10 : decode b_Mo_next 10 = .ok (.getfield 45, 3) := by decide +kernel
theorem d_Mo_next_13 : decode b_Mo_next 13 = .ok (.aload_n 0, 1) := by decide +kernel
theorem d_Mo_next_14 : decode b_Mo_next 14 = .ok (.getfield 29, 3) := by decide +kernel
theorem d_Mo_next_17 : decode b_Mo_next 17 = .ok (.if_icmp .ne 14, 3) := by decide +kernel
theorem d_Mo_next_20 : decode b_Mo_next 20 = .ok (.aload_n 0, 1) := by decide +kernel
theorem d_Mo_next_21 : decode b_Mo_next 21 = .ok (.iconst 1, 1) := by decide +kernel
theorem d_Mo_next_22 : decode b_Mo_next 22 = .ok (.aload_n 0, 1) := by decide +kernel
theorem d_Mo_next_23 : decode b_Mo_next 23 = .ok (.getfield 29, 3) := by decide +kernel
theorem d_Mo_next_26 : decode b_Mo_next 26 = .ok (.invokevirtual 48, 3) := by decide +kernel
theorem d_Mo_next_29 : decode b_Mo_next 29 = .ok (.iconst 0, 1) := by decide +kernel
theorem d_Mo_next_30 : decode b_Mo_next 30 = .ok (.ireturn, 1) := by decide +kernel
theorem d_Mo_next_31 : decode b_Mo_next 31 = .ok (.aload_n 0, 1) := by decide +kernel
theorem d_Mo_next_32 : decode b_Mo_next 32 = .ok (.getfield 7, 3) := by decide +kernel
theorem d_Mo_next_35 : decode b_Mo_next 35 = .ok (.aload_n 0, 1) := by decide +kernel
theorem d_Mo_next_36 : decode b_Mo_next 36 = .ok (.getfield 45, 3) := by decide +kernel
theorem d_Mo_next_39 : decode b_Mo_next 39 = .ok (.baload, 1) := by decide +kernel
theorem d_Mo_next_40 : decode b_Mo_next 40 = .ok (.sipush 255, 3) := by decide +kernel
theorem d_Mo_next_43 : decode b_Mo_next 43 = .ok (.iand, 1) := by decide +kernel
theorem d_Mo_next_44 : decode b_Mo_next 44 = .ok (.istore_n 3, 1) := by decide +kernel
theorem d_Mo_next_45 : decode b_Mo_next 45 = .ok (.iload_n 3, 1) := by decide +kernel
theorem d_Mo_next_46 : decode b_Mo_next 46 = .ok (.iload_n 1, 1) := by decide +kernel
theorem d_Mo_next_47 : decode b_Mo_next 47 = .ok (.if_icmp .lt 8, 3) := by decide +kernel
theorem d_Mo_next_50 : decode b_Mo_next 50 = .ok (.iload_n 3, 1) := by decide +kernel
theorem d_Mo_next_51 : decode b_Mo_next 51 = .ok (.iload_n 2, 1) := by decide +kernel
theorem d_Mo_next_52 : decode b_Mo_next 52 = .ok (.if_icmp .le 12, 3) := by decide +kernel
theorem d_Mo_next_55 : decode b_Mo_next 55 = .ok (.aload_n 0, 1) := by decide +kernel
theorem d_Mo_next_56 : decode b_Mo_next 56 = .ok (.iconst 3, 1) := by decide +kernel
theorem d_Mo_next_57 : decode b_Mo_next 57 = .ok (.aload_n 0, 1) := by decide +kernel
theorem d_Mo_next_58 : decode b_Mo_next 58 = .ok (.getfield 45, 3) := by decide +kernel
theorem d_Mo_next_61 : decode b_Mo_next 61 = .ok (.invokevirtual 48, 3) := by decide +kernel
theorem d_Mo_next_64 : decode b_Mo_next 64 = .ok (.aload_n 0, 1) := by decide +kernel
theorem d_Mo_next_65 : decode b_Mo_next 65 = .ok (.iload_n 3, 1) := by decide +kernel
theorem d_Mo_next_66 : decode b_Mo_next 66 = .ok (.invokevirtual 38, 3) := by decide +kernel
theorem d_Mo_next_69 : decode b_Mo_next 69 = .ok (.aload_n 0, 1) := by decide +kernel
theorem d_Mo_next_70 : decode b_Mo_next 70 = .ok (.dup, 1) := by decide +kernel
theorem d_Mo_next_71 : decode b_Mo_next 71 = .ok (.getfield 45, 3) := by decide +kernel
theorem d_Mo_next_74 : decode b_Mo_next 74 = .ok (.iconst 1, 1) := by decide +kernel
theorem d_Mo_next_75 : decode b_Mo_next 75 = .ok (.iadd, 1) := by decide +kernel
theorem d_Mo_next_76 : decode b_Mo_next 76 = .ok (.putfield 45, 3) := by decide +kernel
theorem d_Mo_next_79 : decode b_Mo_next 79 = .ok (.iload_n 3, 1) := by decide +kernel
theorem d_Mo_next_80 : decode b_Mo_next 80 = .ok (.ireturn, 1) := by decide +kernel
theorem d_Mo_nextOr_0 : decode b_Mo_nextOr 0 = .ok (.aload_n 0, 1) := by decide +kernel
theorem d_Mo_nextOr_1 : decode b_Mo_nextOr 1 = .ok (.iconst 0, 1) := by decide +kernel
theorem d_Mo_nextOr_2 : decode b_Mo_nextOr 2 = .ok (.sipush 255, 3) := by decide +kernel
theorem d_Mo_nextOr_5 : decode b_Mo_nextOr 5 = .ok (.invokevirtual 52, 3) := by decide +kernel
theorem d_Mo_nextOr_8 : decode b_Mo_nextOr 8 = .ok (.istore_n 2, 1) := by decide +kernel
theorem d_Mo_nextOr_9 : decode b_Mo_nextOr 9 = .ok (.aload_n 0, 1) := by decide +kernel
theorem d_Mo_nextOr_10 : decode b_Mo_nextOr 10 = .ok (.getfield 42, 3) := by decide +kernel
theorem d_Mo_nextOr_13 : decode b_Mo_nextOr 13 = .ok (.ifCond .ne 26, 3) := by decide +kernel
theorem d_Mo_nextOr_16 : decode b_Mo_nextOr 16 = .ok (.iload_n 2, 1) := by decide +kernel
theorem d_Mo_nextOr_17 : decode b_Mo_nextOr 17 = .ok (.iload_n 1, 1) := by decide +kernel
theorem d_Mo_nextOr_18 : decode b_Mo_nextOr 18 = .ok (.if_icmp .lt 21, 3) := by decide +kernel
theorem d_Mo_nextOr_21 : decode b_Mo_nextOr 21 = .ok (.iload_n 2, 1) := by decide +kernel
theorem d_Mo_nextOr_22 : decode b_Mo_nextOr 22 = .ok (.sipush 255, 3) := by decide +kernel
theorem d_Mo_nextOr_25 : decode b_Mo_nextOr 25 = .ok (.if_icmp .eq 14, 3) := by decide +kernel
theorem d_Mo_nextOr_28 : decode b_Mo_nextOr 28 = .ok (.aload_n 0, 1) := by decide +kernel
theorem d_Mo_nextOr_29 : decode b_Mo_nextOr 29 = .ok (.iconst 3, 1) := by decide +kernel
theorem d_Mo_nextOr_30 : decode b_Mo_nextOr 30 = .ok (.aload_n 0, 1) := by decide +kernel
theorem d_Mo_nextOr_31 : decode b_Mo_nextOr 31 = .ok (.getfield 45, 3) := by decide +kernel
theorem d_Mo_nextOr_34 : decode b_Mo_nextOr 34 = .ok (.iconst 1, 1) := by decide +kernel
theorem d_Mo_nextOr_35 : decode b_Mo_nextOr 35 = .ok (.isub, 1) := by decide +kernel
theorem d_Mo_nextOr_36 : decode b_Mo_nextOr 36 = .ok (.invokevirtual 48, 3) := by decide +kernel
theorem d_Mo_nextOr_39 : decode b_Mo_nextOr 39 = .ok (.iload_n 2, 1) := by decide +kernel
theorem d_Mo_nextOr_40 : decode b_Mo_nextOr 40 = .ok (.ireturn, 1) := by decide +kernel
theorem d_Mo_nextTwo_0 : decode b_Mo_nextTwo 0 = .ok (.aload_n 0, 1) := by decide +kernel
theorem d_Mo_nextTwo_1 : decode b_Mo_nextTwo 1 = .ok (.getfield 45, 3) := by decide +kernel
theorem d_Mo_nextTwo_4 : decode b_Mo_nextTwo 4 = .ok (.istore_n 3, 1) := by decide +kernel
theorem d_Mo_nextTwo_5 : decode b_Mo_nextTwo 5 = .ok (.aload_n 0, 1) := by decide +kernel
theorem d_Mo_nextTwo_6 : decode b_Mo_nextTwo 6 = .ok (.iconst 0, 1) := by decide +kernel
theorem d_Mo_nextTwo_7 : decode b_Mo_nextTwo 7 = .ok (.sipush 255, 3) := by decide +kernel
theorem d_Mo_nextTwo_10 : decode b_Mo_nextTwo 10 = .ok (.invokevirtual 52, 3) := by decide +kernel
theorem d_Mo_nextTwo_13 : decode b_Mo_nextTwo 13 = .ok (.sipush 256, 3) := by decide +kernel
theorem d_Mo_nextTwo_16 : decode b_Mo_nextTwo 16 = .ok (.imul, 1) := by decide +kernel
theorem d_Mo_nextTwo_17 : decode b_Mo_nextTwo 17 = .ok (.istore 4, 2) := by decide +kernel
theorem d_Mo_nextTwo_19 : decode b_Mo_nextTwo 19 = .ok (.iload 4, 2) := by decide +kernel
theorem d_Mo_nextTwo_21 : decode b_Mo_nextTwo 21 = .ok (.aload_n 0, 1) := by decide +kernel
theorem d_Mo_nextTwo_22 : decode b_Mo_nextTwo 22 = .ok (.iconst 0, 1) := by decide +kernel
theorem d_Mo_nextTwo_23 : decode b_Mo_nextTwo 23 = .ok (.sipush 255, 3) := by decide +kernel
theorem d_Mo_nextTwo_26 : decode b_Mo_nextTwo 26 = .ok (.invokevirtual 52, 3) := by decide +kernel
theorem d_Mo_nextTwo_29 : decode b_Mo_nextTwo 29 = .ok (.iadd, 1) := by decide +kernel
theorem d_Mo_nextTwo_30 : decode b_Mo_nextTwo 30 = .ok (.istore 4, 2) := by decide +kernel
theorem d_Mo_nextTwo_32 : decode b_Mo_nextTwo 32 = .ok (.iload 4, 2) := by decide +kernel
theorem d_Mo_nextTwo_34 : decode b_Mo_nextTwo 34 = .ok (.sipush 32767, 3) := by decide +kernel
theorem d_Mo_nextTwo_37 : decode b_Mo_nextTwo 37 = .ok (.if_icmp .le 11, 3) := by decide +kernel
theorem d_Mo_nextTwo_40 : decode b_Mo_nextTwo 40 = .ok (.iload 4, 2) := by decide +kernel
theorem d_Mo_nextTwo_42 : decode b_Mo_nextTwo 42 = .ok (.ldc 56, 2) := by decide +kernel
theorem d_Mo_nextTwo_44 : decode b_Mo_nextTwo 44 = .ok (.isub, 1) := by decide +kernel
theorem d_Mo_nextTwo_45 : decode b_Mo_nextTwo 45 = .ok (.goto 5, 3) := by decide +kernel
theorem d_Mo_nextTwo_48 : decode b_Mo_nextTwo 48 = .ok (.iload 4, 2) := by decide +kernel
theorem d_Mo_nextTwo_50 : decode b_Mo_nextTwo 50 = .ok (.istore 4, 2) := by decide +kernel
theorem d_Mo_nextTwo_52 : decode b_Mo_nextTwo 52 = .ok (.aload_n 0, 1) := by decide +kernel
theorem d_Mo_nextTwo_53 : decode b_Mo_nextTwo 53 = .ok (.getfield 42, 3) := by decide +kernel
theorem d_Mo_nextTwo_56 : decode b_Mo_nextTwo 56 = .ok (.ifCond .ne 21, 3) := by decide +kernel
theorem d_Mo_nextTwo_59 : decode b_Mo_nextTwo 59 = .ok (.iload 4, 2) := by decide +kernel
theorem d_Mo_nextTwo_61 : decode b_Mo_nextTwo 61 = .ok (.iload_n 1, 1) := by decide +kernel
theorem d_Mo_nextTwo_62 : decode b_Mo_nextTwo 62 = .ok (.if_icmp .lt 9, 3) := by decide +kernel
theorem d_Mo_nextTwo_65 : decode b_Mo_nextTwo 65 = .ok (.iload 4, 2) := by decide +kernel
theorem d_Mo_nextTwo_67 : decode b_Mo_nextTwo 67 = .ok (.iload_n 2, 1) := by decide +kernel
theorem d_Mo_nextTwo_68 : decode b_Mo_nextTwo 68 = .ok (.if_icmp .le 9, 3) := by decide +kernel
theorem d_Mo_nextTwo_71 : decode b_Mo_nextTwo 71 = .ok (.aload_n 0, 1) := by decide +kernel
theorem d_Mo_nextTwo_72 : decode b_Mo_nextTwo 72 = .ok (.iconst 3, 1) := by decide +kernel
theorem d_Mo_nextTwo_73 : decode b_Mo_nextTwo 73 = .ok (.iload_n 3, 1) := by decide +kernel
theorem d_Mo_nextTwo_74 : decode b_Mo_nextTwo 74 = .ok (.invokevirtual 48, 3) := by decide +kernel
theorem d_Mo_nextTwo_77 : decode b_Mo_nextTwo 77 = .ok (.iload 4, 2) := by decide +kernel
theorem d_Mo_nextTwo_79 : decode b_Mo_nextTwo 79 = .ok (.ireturn, 1) := by decide +kernel
theorem d_Mo_pair_0 : decode b_Mo_pair 0 = .ok (.aload_n 0, 1) := by decide +kernel
theorem d_Mo_pair_1 : decode b_Mo_pair 1 = .ok (.iload_n 1, 1) := by decide +kernel
theorem d_Mo_pair_2 : decode b_Mo_pair 2 = .ok (.baload, 1) := by decide +kernel
theorem d_Mo_pair_3 : decode b_Mo_pair 3 = .ok (.sipush 255, 3) := by decide +kernel
theorem d_Mo_pair_6 : decode b_Mo_pair 6 = .ok (.iand, 1) := by decide +kernel
theorem d_Mo_pair_7 : decode b_Mo_pair 7 = .ok (.sipush 256, 3) := by decide +kernel
theorem d_Mo_pair_10 : decode b_Mo_pair 10 = .ok (.imul, 1) := by decide +kernel
theorem d_Mo_pair_11 : decode b_Mo_pair 11 = .ok (.aload_n 0, 1) := by decide +kernel
theorem d_Mo_pair_12 : decode b_Mo_pair 12 = .ok (.iload_n 1, 1) := by decide +kernel
theorem d_Mo_pair_13 : decode b_Mo_pair 13 = .ok (.iconst 1, 1) := by decide +kernel
theorem d_Mo_pair_14 : decode b_Mo_pair 14 = .ok (.iadd, 1) := by decide +kernel
theorem d_Mo_pair_15 : decode b_Mo_pair 15 = .ok (.baload, 1) := by decide +kernel
theorem d_Mo_pair_16 : decode b_Mo_pair 16 = .ok (.sipush 255, 3) := by decide +kernel
theorem d_Mo_pair_19 : decode b_Mo_pair 19 = .ok (.iand, 1) := by decide +kernel
theorem d_Mo_pair_20 : decode b_Mo_pair 20 = .ok (.iadd, 1) := by decide +kernel
theorem d_Mo_pair_21 : decode b_Mo_pair 21 = .ok (.istore_n 2, 1) := by decide +kernel
theorem d_Mo_pair_22 : decode b_Mo_pair 22 = .ok (.iload_n 2, 1) := by decide +kernel
theorem d_Mo_pair_23 : decode b_Mo_pair 23 = .ok (.sipush 32767, 3) := by decide +kernel
theorem d_Mo_pair_26 : decode b_Mo_pair 26 = .ok (.if_icmp .le 10, 3) := by decide +kernel
theorem d_Mo_pair_29 : decode b_Mo_pair 29 = .ok (.iload_n 2, 1) := by decide +kernel
theorem d_Mo_pair_30 : decode b_Mo_pair 30 = .ok (.ldc 56, 2) := by decide +kernel
theorem d_Mo_pair_32 : decode b_Mo_pair 32 = .ok (.isub, 1) := by decide +kernel
theorem d_Mo_pair_33 : decode b_Mo_pair 33 = .ok (.goto 4, 3) := by decide +kernel
theorem d_Mo_pair_36 : decode b_Mo_pair 36 = .ok (.iload_n 2, 1) := by decide +kernel
theorem d_Mo_pair_37 : decode b_Mo_pair 37 = .ok (.ireturn, 1) := by decide +kernel
