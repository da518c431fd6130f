theorem dX8_mayStore_0 : decode cX8_mayStore 0 = .ok (.iload_n 2, 1) := by decide +kernel
theorem dX8_mayStore_1 : decode cX8_mayStore 1 = .ok (.iconst (-1), 1) := by decide +kernel
theorem dX8_mayStore_2 : decode cX8_mayStore 2 = .ok (.if_icmp .eq 28, 3) := by decide +kernel
theorem dX8_mayStore_5 : decode cX8_mayStore 5 = .ok (.aload_n 0, 1) := by decide +kernel
theorem dX8_mayStore_6 : decode cX8_mayStore 6 = .ok (.iload_n 1, 1) := by decide +kernel
theorem dX8_mayStore_7 : decode cX8_mayStore 7 = .ok (.invokevirtual 36, 3) := by decide +kernel
theorem dX8_mayStore_10 : decode cX8_mayStore 10 = .ok (.ifCond .eq 24, 3) := by decide +kernel
theorem dX8_mayStore_13 : decode cX8_mayStore 13 = .ok (.aload_n 0, 1) := by decide +kernel
theorem dX8_mayStore_14 : decode cX8_mayStore 14 = .ok (.iload_n 2, 1) := by decide +kernel
theorem dX8_mayStore_15 : decode cX8_mayStore 15 = .ok (.aload_n 0, 1) := by decide +kernel
theorem dX8_mayStore_16 : decode cX8_mayStore 16 = .ok (.getfield 9, 3) := by decide +kernel
theorem dX8_mayStore_19 : decode cX8_mayStore 19 = .ok (.iload_n 1, 1) := by decide +kernel
theorem dX8_mayStore_20 : decode cX8_mayStore 20 = .ok (.iaload, 1) := by decide +kernel
theorem dX8_mayStore_21 : decode cX8_mayStore 21 = .ok (.bipush 8, 2) := by decide +kernel
theorem dX8_mayStore_23 : decode cX8_mayStore 23 = .ok (.isub, 1) := by decide +kernel
theorem dX8_mayStore_24 : decode cX8_mayStore 24 = .ok (.invokevirtual 44, 3) := by decide +kernel
theorem dX8_mayStore_27 : decode cX8_mayStore 27 = .ok (.ifCond .eq 7, 3) := by decide +kernel
theorem dX8_mayStore_30 : decode cX8_mayStore 30 = .ok (.iconst 1, 1) := by decide +kernel
theorem dX8_mayStore_31 : decode cX8_mayStore 31 = .ok (.goto 4, 3) := by decide +kernel
theorem dX8_mayStore_34 : decode cX8_mayStore 34 = .ok (.iconst 0, 1) := by decide +kernel
theorem dX8_mayStore_35 : decode cX8_mayStore 35 = .ok (.ireturn, 1) := by decide +kernel
theorem dX8_read_0 : decode cX8_read 0 = .ok (.aload_n 0, 1) := by decide +kernel
theorem dX8_read_1 : decode cX8_read 1 = .ok (.iload_n 1, 1) := by decide +kernel
theorem dX8_read_2 : decode cX8_read 2 = .ok (.iload_n 2, 1) := by decide +kernel
theorem dX8_read_3 : decode cX8_read 3 = .ok (.invokevirtual 33, 3) := by decide +kernel
theorem dX8_read_6 : decode cX8_read 6 = .ok (.ifCond .eq 17, 3) := by decide +kernel
theorem dX8_read_9 : decode cX8_read 9 = .ok (.aload_n 0, 1) := by decide +kernel
theorem dX8_read_10 : decode cX8_read 10 = .ok (.getfield 21, 3) := by decide +kernel
theorem dX8_read_13 : decode cX8_read 13 = .ok (.iload_n 1, 1) := by decide +kernel
theorem dX8_read_14 : decode cX8_read 14 = .ok (.bipush 100, 2) := by decide +kernel
theorem dX8_read_16 : decode cX8_read 16 = .ok (.imul, 1) := by decide +kernel
theorem dX8_read_17 : decode cX8_read 17 = .ok (.iload_n 2, 1) := by decide +kernel
theorem dX8_read_18 : decode cX8_read 18 = .ok (.iadd, 1) := by decide +kernel
theorem dX8_read_19 : decode cX8_read 19 = .ok (.laload, 1) := by decide +kernel
theorem dX8_read_20 : decode cX8_read 20 = .ok (.goto 4, 3) := by decide +kernel
theorem dX8_read_23 : decode cX8_read 23 = .ok (.lconst 0, 1) := by decide +kernel
theorem dX8_read_24 : decode cX8_read 24 = .ok (.lreturn, 1) := by decide +kernel
theorem dX8_refuseCell_0 : decode cX8_refuseCell 0 = .ok (.iload_n 1, 1) := by decide +kernel
theorem dX8_refuseCell_1 : decode cX8_refuseCell 1 = .ok (.iconst (-1), 1) := by decide +kernel
theorem dX8_refuseCell_2 : decode cX8_refuseCell 2 = .ok (.if_icmp .ne 5, 3) := by decide +kernel
theorem dX8_refuseCell_5 : decode cX8_refuseCell 5 = .ok (.iconst 1, 1) := by decide +kernel
theorem dX8_refuseCell_6 : decode cX8_refuseCell 6 = .ok (.ireturn, 1) := by decide +kernel
theorem dX8_refuseCell_7 : decode cX8_refuseCell 7 = .ok (.aload_n 0, 1) := by decide +kernel
theorem dX8_refuseCell_8 : decode cX8_refuseCell 8 = .ok (.iload_n 1, 1) := by decide +kernel
theorem dX8_refuseCell_9 : decode cX8_refuseCell 9 = .ok (.invokevirtual 36, 3) := by decide +kernel
theorem dX8_refuseCell_12 : decode cX8_refuseCell 12 = .ok (.ifCond .eq 16, 3) := by decide +kernel
theorem dX8_refuseCell_15 : decode cX8_refuseCell 15 = .ok (.aload_n 0, 1) := by decide +kernel
theorem dX8_refuseCell_16 : decode cX8_refuseCell 16 = .ok (.getfield 9, 3) := by decide +kernel
theorem dX8_refuseCell_19 : decode cX8_refuseCell 19 = .ok (.iload_n 1, 1) := by decide +kernel
theorem dX8_refuseCell_20 : decode cX8_refuseCell 20 = .ok (.iaload, 1) := by decide +kernel
theorem dX8_refuseCell_21 : decode cX8_refuseCell 21 = .ok (.invokestatic 40, 3) := by decide +kernel
theorem dX8_refuseCell_24 : decode cX8_refuseCell 24 = .ok (.iload_n 3, 1) := by decide +kernel
theorem dX8_refuseCell_25 : decode cX8_refuseCell 25 = .ok (.if_icmp .eq 5, 3) := by decide +kernel
theorem dX8_refuseCell_28 : decode cX8_refuseCell 28 = .ok (.iconst 5, 1) := by decide +kernel
theorem dX8_refuseCell_29 : decode cX8_refuseCell 29 = .ok (.ireturn, 1) := by decide +kernel
theorem dX8_refuseCell_30 : decode cX8_refuseCell 30 = .ok (.aload_n 0, 1) := by decide +kernel
theorem dX8_refuseCell_31 : decode cX8_refuseCell 31 = .ok (.iload_n 1, 1) := by decide +kernel
theorem dX8_refuseCell_32 : decode cX8_refuseCell 32 = .ok (.iload_n 2, 1) := by decide +kernel
theorem dX8_refuseCell_33 : decode cX8_refuseCell 33 = .ok (.invokevirtual 33, 3) := by decide +kernel
theorem dX8_refuseCell_36 : decode cX8_refuseCell 36 = .ok (.ifCond .eq 7, 3) := by decide +kernel
theorem dX8_refuseCell_39 : decode cX8_refuseCell 39 = .ok (.iconst (-1), 1) := by decide +kernel
theorem dX8_refuseCell_40 : decode cX8_refuseCell 40 = .ok (.goto 4, 3) := by decide +kernel
theorem dX8_refuseCell_43 : decode cX8_refuseCell 43 = .ok (.iconst 2, 1) := by decide +kernel
theorem dX8_refuseCell_44 : decode cX8_refuseCell 44 = .ok (.ireturn, 1) := by decide +kernel
theorem dX9_asArgument_0 : decode cX9_asArgument 0 = .ok (.iload_n 0, 1) := by decide +kernel
theorem dX9_asArgument_1 : decode cX9_asArgument 1 = .ok (.iconst 4, 1) := by decide +kernel
theorem dX9_asArgument_2 : decode cX9_asArgument 2 = .ok (.if_icmp .ne 7, 3) := by decide +kernel
theorem dX9_asArgument_5 : decode cX9_asArgument 5 = .ok (.ldc2_w 148, 3) := by decide +kernel
theorem dX9_asArgument_8 : decode cX9_asArgument 8 = .ok (.lreturn, 1) := by decide +kernel
theorem dX9_asArgument_9 : decode cX9_asArgument 9 = .ok (.iload_n 0, 1) := by decide +kernel
theorem dX9_asArgument_10 : decode cX9_asArgument 10 = .ok (.invokestatic 150, 3) := by decide +kernel
theorem dX9_asArgument_13 : decode cX9_asArgument 13 = .ok (.ifCond .eq 7, 3) := by decide +kernel
theorem dX9_asArgument_16 : decode cX9_asArgument 16 = .ok (.lload_n 1, 1) := by decide +kernel
theorem dX9_asArgument_17 : decode cX9_asArgument 17 = .ok (.goto 6, 3) := by decide +kernel
theorem dX9_asArgument_20 : decode cX9_asArgument 20 = .ok (.lload_n 1, 1) := by decide +kernel
theorem dX9_asArgument_21 : decode cX9_asArgument 21 = .ok (.l2i, 1) := by decide +kernel
theorem dX9_asArgument_22 : decode cX9_asArgument 22 = .ok (.i2l, 1) := by decide +kernel
theorem dX9_asArgument_23 : decode cX9_asArgument 23 = .ok (.lreturn, 1) := by decide +kernel
theorem dX9_calculate_0 : decode cX9_calculate 0 = .ok (.lconst 0, 1) := by decide +kernel
theorem dX9_calculate_1 : decode cX9_calculate 1 = .ok (.lstore 4, 2) := by decide +kernel
theorem dX9_calculate_3 : decode cX9_calculate 3 = .ok (.iload_n 2, 1) := by decide +kernel
theorem dX9_calculate_4 : decode cX9_calculate 4 = .ok (.bipush 11, 2) := by decide +kernel
theorem dX9_calculate_6 : decode cX9_calculate 6 = .ok (.if_icmp .eq 20, 3) := by decide +kernel
theorem dX9_calculate_9 : decode cX9_calculate 9 = .ok (.aload_n 1, 1) := by decide +kernel
theorem dX9_calculate_10 : decode cX9_calculate 10 = .ok (.iload_n 2, 1) := by decide +kernel
theorem dX9_calculate_11 : decode cX9_calculate 11 = .ok (.bipush 8, 2) := by decide +kernel
theorem dX9_calculate_13 : decode cX9_calculate 13 = .ok (.if_icmp .ge 7, 3) := by decide +kernel
theorem dX9_calculate_16 : decode cX9_calculate 16 = .ok (.iload_n 3, 1) := by decide +kernel
theorem dX9_calculate_17 : decode cX9_calculate 17 = .ok (.goto 4, 3) := by decide +kernel
theorem dX9_calculate_20 : decode cX9_calculate 20 = .ok (.iconst 0, 1) := by decide +kernel
theorem dX9_calculate_21 : decode cX9_calculate 21 = .ok (.invokevirtual 205, 3) := by decide +kernel
theorem dX9_calculate_24 : decode cX9_calculate 24 = .ok (.lstore 4, 2) := by decide +kernel
theorem dX9_calculate_26 : decode cX9_calculate 26 = .ok (.aload_n 1, 1) := by decide +kernel
theorem dX9_calculate_27 : decode cX9_calculate 27 = .ok (.iload_n 3, 1) := by decide +kernel
theorem dX9_calculate_28 : decode cX9_calculate 28 = .ok (.invokevirtual 205, 3) := by decide +kernel
theorem dX9_calculate_31 : decode cX9_calculate 31 = .ok (.lstore 6, 2) := by decide +kernel
theorem dX9_calculate_33 : decode cX9_calculate 33 = .ok (.iload_n 2, 1) := by decide +kernel
theorem dX9_calculate_34 : decode cX9_calculate 34 = .ok (.iconst 3, 1) := by decide +kernel
theorem dX9_calculate_35 : decode cX9_calculate 35 = .ok (.if_icmp .eq 8, 3) := by decide +kernel
theorem dX9_calculate_38 : decode cX9_calculate 38 = .ok (.iload_n 2, 1) := by decide +kernel
theorem dX9_calculate_39 : decode cX9_calculate 39 = .ok (.iconst 4, 1) := by decide +kernel
theorem dX9_calculate_40 : decode cX9_calculate 40 = .ok (.if_icmp .ne 12, 3) := by decide +kernel
theorem dX9_calculate_43 : decode cX9_calculate 43 = .ok (.lload 4, 2) := by decide +kernel
theorem dX9_calculate_45 : decode cX9_calculate 45 = .ok (.lconst 0, 1) := by decide +kernel
theorem dX9_calculate_46 : decode cX9_calculate 46 = .ok (.lcmp, 1) := by decide +kernel
theorem dX9_calculate_47 : decode cX9_calculate 47 = .ok (.ifCond .ne 5, 3) := by decide +kernel
theorem dX9_calculate_50 : decode cX9_calculate 50 = .ok (.iconst 0, 1) := by decide +kernel
theorem dX9_calculate_51 : decode cX9_calculate 51 = .ok (.ireturn, 1) := by decide +kernel
theorem dX9_calculate_52 : decode cX9_calculate 52 = .ok (.iload_n 3, 1) := by decide +kernel
theorem dX9_calculate_53 : decode cX9_calculate 53 = .ok (.iconst 1, 1) := by decide +kernel
theorem dX9_calculate_54 : decode cX9_calculate 54 = .ok (.if_icmp .ne 19, 3) := by decide +kernel
theorem dX9_calculate_57 : decode cX9_calculate 57 = .ok (.aload_n 1, 1) := by decide +kernel
theorem dX9_calculate_58 : decode cX9_calculate 58 = .ok (.iconst 1, 1) := by decide +kernel
theorem dX9_calculate_59 : decode cX9_calculate 59 = .ok (.iload_n 2, 1) := by decide +kernel
theorem dX9_calculate_60 : decode cX9_calculate 60 = .ok (.lload 6, 2) := by decide +kernel
theorem dX9_calculate_62 : decode cX9_calculate 62 = .ok (.lload 4, 2) := by decide +kernel
theorem dX9_calculate_64 : decode cX9_calculate 64 = .ok (.invokestatic 223, 3) := by decide +kernel
theorem dX9_calculate_67 : decode cX9_calculate 67 = .ok (.invokevirtual 195, 3) := by decide +kernel
theorem dX9_calculate_70 : decode cX9_calculate 70 = .ok (.goto 18, 3) := by decide +kernel
theorem dX9_calculate_73 : decode cX9_calculate 73 = .ok (.aload_n 1, 1) := by decide +kernel
theorem dX9_calculate_74 : decode cX9_calculate 74 = .ok (.iload_n 2, 1) := by decide +kernel
theorem dX9_calculate_75 : decode cX9_calculate 75 = .ok (.lload 6, 2) := by decide +kernel
theorem dX9_calculate_77 : decode cX9_calculate 77 = .ok (.l2i, 1) := by decide +kernel
theorem dX9_calculate_78 : decode cX9_calculate 78 = .ok (.lload 4, 2) := by decide +kernel
theorem dX9_calculate_80 : decode cX9_calculate 80 = .ok (.l2i, 1) := by decide +kernel
theorem dX9_calculate_81 : decode cX9_calculate 81 = .ok (.invokestatic 227, 3) := by decide +kernel
theorem dX9_calculate_84 : decode cX9_calculate 84 = .ok (.i2l, 1) := by decide +kernel
theorem dX9_calculate_85 : decode cX9_calculate 85 = .ok (.invokevirtual 198, 3) := by decide +kernel
theorem dX9_calculate_88 : decode cX9_calculate 88 = .ok (.iconst (-1), 1) := by decide +kernel
theorem dX9_calculate_89 : decode cX9_calculate 89 = .ok (.ireturn, 1) := by decide +kernel
theorem dX9_compute_0 : decode cX9_compute 0 = .ok (.iload_n 2, 1) := by decide +kernel
theorem dX9_compute_1 : decode cX9_compute 1 = .ok (.bipush 17, 2) := by decide +kernel
theorem dX9_compute_3 : decode cX9_compute 3 = .ok (.if_icmp .ne 12, 3) := by decide +kernel
theorem dX9_compute_6 : decode cX9_compute 6 = .ok (.aload_n 0, 1) := by decide +kernel
theorem dX9_compute_7 : decode cX9_compute 7 = .ok (.aload_n 1, 1) := by decide +kernel
theorem dX9_compute_8 : decode cX9_compute 8 = .ok (.iload_n 3, 1) := by decide +kernel
theorem dX9_compute_9 : decode cX9_compute 9 = .ok (.iload 4, 2) := by decide +kernel
theorem dX9_compute_11 : decode cX9_compute 11 = .ok (.invokevirtual 208, 3) := by decide +kernel
theorem dX9_compute_14 : decode cX9_compute 14 = .ok (.ireturn, 1) := by decide +kernel
theorem dX9_compute_15 : decode cX9_compute 15 = .ok (.iload_n 2, 1) := by decide +kernel
theorem dX9_compute_16 : decode cX9_compute 16 = .ok (.bipush 18, 2) := by decide +kernel
theorem dX9_compute_18 : decode cX9_compute 18 = .ok (.if_icmp .ne 41, 3) := by decide +kernel
theorem dX9_compute_21 : decode cX9_compute 21 = .ok (.aload_n 1, 1) := by decide +kernel
theorem dX9_compute_22 : decode cX9_compute 22 = .ok (.iload_n 3, 1) := by decide +kernel
theorem dX9_compute_23 : decode cX9_compute 23 = .ok (.iconst 3, 1) := by decide +kernel
theorem dX9_compute_24 : decode cX9_compute 24 = .ok (.if_icmp .ne 7, 3) := by decide +kernel
theorem dX9_compute_27 : decode cX9_compute 27 = .ok (.iconst 1, 1) := by decide +kernel
theorem dX9_compute_28 : decode cX9_compute 28 = .ok (.goto 4, 3) := by decide +kernel
theorem dX9_compute_31 : decode cX9_compute 31 = .ok (.iconst 0, 1) := by decide +kernel
theorem dX9_compute_32 : decode cX9_compute 32 = .ok (.invokevirtual 205, 3) := by decide +kernel
theorem dX9_compute_35 : decode cX9_compute 35 = .ok (.lstore 5, 2) := by decide +kernel
theorem dX9_compute_37 : decode cX9_compute 37 = .ok (.aload_n 1, 1) := by decide +kernel
theorem dX9_compute_38 : decode cX9_compute 38 = .ok (.iload_n 3, 1) := by decide +kernel
theorem dX9_compute_39 : decode cX9_compute 39 = .ok (.iconst 4, 1) := by decide +kernel
theorem dX9_compute_40 : decode cX9_compute 40 = .ok (.if_icmp .ne 7, 3) := by decide +kernel
theorem dX9_compute_43 : decode cX9_compute 43 = .ok (.iconst 1, 1) := by decide +kernel
theorem dX9_compute_44 : decode cX9_compute 44 = .ok (.goto 4, 3) := by decide +kernel
theorem dX9_compute_47 : decode cX9_compute 47 = .ok (.iconst 0, 1) := by decide +kernel
theorem dX9_compute_48 : decode cX9_compute 48 = .ok (.iload_n 3, 1) := by decide +kernel
theorem dX9_compute_49 : decode cX9_compute 49 = .ok (.lload 5, 2) := by decide +kernel
theorem dX9_compute_51 : decode cX9_compute 51 = .ok (.invokestatic 211, 3) := by decide +kernel
theorem dX9_compute_54 : decode cX9_compute 54 = .ok (.invokevirtual 195, 3) := by decide +kernel
theorem dX9_compute_57 : decode cX9_compute 57 = .ok (.iconst (-1), 1) := by decide +kernel
theorem dX9_compute_58 : decode cX9_compute 58 = .ok (.ireturn, 1) := by decide +kernel
theorem dX9_compute_59 : decode cX9_compute 59 = .ok (.aload_n 1, 1) := by decide +kernel
theorem dX9_compute_60 : decode cX9_compute 60 = .ok (.iload_n 3, 1) := by decide +kernel
theorem dX9_compute_61 : decode cX9_compute 61 = .ok (.invokestatic 216, 3) := by decide +kernel
theorem dX9_compute_64 : decode cX9_compute 64 = .ok (.invokevirtual 205, 3) := by decide +kernel
theorem dX9_compute_67 : decode cX9_compute 67 = .ok (.lstore 5, 2) := by decide +kernel
theorem dX9_compute_69 : decode cX9_compute 69 = .ok (.aload_n 1, 1) := by decide +kernel
theorem dX9_compute_70 : decode cX9_compute 70 = .ok (.iload_n 3, 1) := by decide +kernel
theorem dX9_compute_71 : decode cX9_compute 71 = .ok (.invokestatic 216, 3) := by decide +kernel
theorem dX9_compute_74 : decode cX9_compute 74 = .ok (.invokevirtual 205, 3) := by decide +kernel
theorem dX9_compute_77 : decode cX9_compute 77 = .ok (.lstore 7, 2) := by decide +kernel
theorem dX9_compute_79 : decode cX9_compute 79 = .ok (.aload_n 1, 1) := by decide +kernel
theorem dX9_compute_80 : decode cX9_compute 80 = .ok (.iload_n 3, 1) := by decide +kernel
theorem dX9_compute_81 : decode cX9_compute 81 = .ok (.lload 7, 2) := by decide +kernel
theorem dX9_compute_83 : decode cX9_compute 83 = .ok (.lload 5, 2) := by decide +kernel
theorem dX9_compute_85 : decode cX9_compute 85 = .ok (.invokestatic 219, 3) := by decide +kernel
theorem dX9_compute_88 : decode cX9_compute 88 = .ok (.i2l, 1) := by decide +kernel
theorem dX9_compute_89 : decode cX9_compute 89 = .ok (.invokevirtual 198, 3) := by decide +kernel
theorem dX9_compute_92 : decode cX9_compute 92 = .ok (.iconst (-1), 1) := by decide +kernel
theorem dX9_compute_93 : decode cX9_compute 93 = .ok (.ireturn, 1) := by decide +kernel
theorem dX9_countCells_0 : decode cX9_countCells 0 = .ok (.aload_n 1, 1) := by decide +kernel
theorem dX9_countCells_1 : decode cX9_countCells 1 = .ok (.invokevirtual 231, 3) := by decide +kernel
theorem dX9_countCells_4 : decode cX9_countCells 4 = .ok (.istore_n 2, 1) := by decide +kernel
theorem dX9_countCells_5 : decode cX9_countCells 5 = .ok (.iload_n 2, 1) := by decide +kernel
theorem dX9_countCells_6 : decode cX9_countCells 6 = .ok (.iconst (-1), 1) := by decide +kernel
theorem dX9_countCells_7 : decode cX9_countCells 7 = .ok (.if_icmp .ne 5, 3) := by decide +kernel
theorem dX9_countCells_10 : decode cX9_countCells 10 = .ok (.iconst 1, 1) := by decide +kernel
theorem dX9_countCells_11 : decode cX9_countCells 11 = .ok (.ireturn, 1) := by decide +kernel
theorem dX9_countCells_12 : decode cX9_countCells 12 = .ok (.aload_n 0, 1) := by decide +kernel
theorem dX9_countCells_13 : decode cX9_countCells 13 = .ok (.getfield 12, 3) := by decide +kernel
theorem dX9_countCells_16 : decode cX9_countCells 16 = .ok (.iload_n 2, 1) := by decide +kernel
theorem dX9_countCells_17 : decode cX9_countCells 17 = .ok (.invokevirtual 295, 3) := by decide +kernel
theorem dX9_countCells_20 : decode cX9_countCells 20 = .ok (.ifCond .ne 5, 3) := by decide +kernel
theorem dX9_countCells_23 : decode cX9_countCells 23 = .ok (.iconst 5, 1) := by decide +kernel
theorem dX9_countCells_24 : decode cX9_countCells 24 = .ok (.ireturn, 1) := by decide +kernel
theorem dX9_countCells_25 : decode cX9_countCells 25 = .ok (.aload_n 1, 1) := by decide +kernel
theorem dX9_countCells_26 : decode cX9_countCells 26 = .ok (.aload_n 0, 1) := by decide +kernel
theorem dX9_countCells_27 : decode cX9_countCells 27 = .ok (.getfield 12, 3) := by decide +kernel
theorem dX9_countCells_30 : decode cX9_countCells 30 = .ok (.getfield 298, 3) := by decide +kernel
theorem dX9_countCells_33 : decode cX9_countCells 33 = .ok (.iload_n 2, 1) := by decide +kernel
theorem dX9_countCells_34 : decode cX9_countCells 34 = .ok (.iaload, 1) := by decide +kernel
theorem dX9_countCells_35 : decode cX9_countCells 35 = .ok (.i2l, 1) := by decide +kernel
theorem dX9_countCells_36 : decode cX9_countCells 36 = .ok (.invokevirtual 198, 3) := by decide +kernel
theorem dX9_countCells_39 : decode cX9_countCells 39 = .ok (.iconst (-1), 1) := by decide +kernel
theorem dX9_countCells_40 : decode cX9_countCells 40 = .ok (.ireturn, 1) := by decide +kernel
theorem dX9_enter_0 : decode cX9_enter 0 = .ok (.aload_n 0, 1) := by decide +kernel
theorem dX9_enter_1 : decode cX9_enter 1 = .ok (.getfield 64, 3) := by decide +kernel
theorem dX9_enter_4 : decode cX9_enter 4 = .ok (.iload_n 2, 1) := by decide +kernel
theorem dX9_enter_5 : decode cX9_enter 5 = .ok (.invokevirtual 317, 3) := by decide +kernel
theorem dX9_enter_8 : decode cX9_enter 8 = .ok (.astore_n 3, 1) := by decide +kernel
theorem dX9_enter_9 : decode cX9_enter 9 = .ok (.aload_n 3, 1) := by decide +kernel
theorem dX9_enter_10 : decode cX9_enter 10 = .ok (.ifnull 12, 3) := by decide +kernel
theorem dX9_enter_13 : decode cX9_enter 13 = .ok (.aload_n 0, 1) := by decide +kernel
theorem dX9_enter_14 : decode cX9_enter 14 = .ok (.getfield 28, 3) := by decide +kernel
theorem dX9_enter_17 : decode cX9_enter 17 = .ok (.bipush 6, 2) := by decide +kernel
theorem dX9_enter_19 : decode cX9_enter 19 = .ok (.if_icmp .ne 6, 3) := by decide +kernel
theorem dX9_enter_22 : decode cX9_enter 22 = .ok (.bipush 8, 2) := by decide +kernel
theorem dX9_enter_24 : decode cX9_enter 24 = .ok (.ireturn, 1) := by decide +kernel
theorem dX9_enter_25 : decode cX9_enter 25 = .ok (.aload_n 0, 1) := by decide +kernel
theorem dX9_enter_26 : decode cX9_enter 26 = .ok (.getfield 20, 3) := by decide +kernel
theorem dX9_enter_29 : decode cX9_enter 29 = .ok (.aload_n 0, 1) := by decide +kernel
theorem dX9_enter_30 : decode cX9_enter 30 = .ok (.getfield 28, 3) := by decide +kernel
theorem dX9_enter_33 : decode cX9_enter 33 = .ok (.aaload, 1) := by decide +kernel
theorem dX9_enter_34 : decode cX9_enter 34 = .ok (.astore 4, 2) := by decide +kernel
theorem dX9_enter_36 : decode cX9_enter 36 = .ok (.aload_n 0, 1) := by decide +kernel
theorem dX9_enter_37 : decode cX9_enter 37 = .ok (.dup, 1) := by decide +kernel
theorem dX9_enter_38 : decode cX9_enter 38 = .ok (.getfield 28, 3) := by decide +kernel
theorem dX9_enter_41 : decode cX9_enter 41 = .ok (.iconst 1, 1) := by decide +kernel
theorem dX9_enter_42 : decode cX9_enter 42 = .ok (.iadd, 1) := by decide +kernel
theorem dX9_enter_43 : decode cX9_enter 43 = .ok (.putfield 28, 3) := by decide +kernel
theorem dX9_enter_46 : decode cX9_enter 46 = .ok (.aload_n 0, 1) := by decide +kernel
theorem dX9_enter_47 : decode cX9_enter 47 = .ok (.dup, 1) := by decide +kernel
theorem dX9_enter_48 : decode cX9_enter 48 = .ok (.getfield 52, 3) := by decide +kernel
theorem dX9_enter_51 : decode cX9_enter 51 = .ok (.iconst 1, 1) := by decide +kernel
theorem dX9_enter_52 : decode cX9_enter 52 = .ok (.iadd, 1) := by decide +kernel
theorem dX9_enter_53 : decode cX9_enter 53 = .ok (.putfield 52, 3) := by decide +kernel
theorem dX9_enter_56 : decode cX9_enter 56 = .ok (.aload 4, 2) := by decide +kernel
theorem dX9_enter_58 : decode cX9_enter 58 = .ok (.iload_n 2, 1) := by decide +kernel
theorem dX9_enter_59 : decode cX9_enter 59 = .ok (.aload_n 3, 1) := by decide +kernel
theorem dX9_enter_60 : decode cX9_enter 60 = .ok (.invokevirtual 72, 3) := by decide +kernel
theorem dX9_enter_63 : decode cX9_enter 63 = .ok (.aload_n 3, 1) := by decide +kernel
theorem dX9_enter_64 : decode cX9_enter 64 = .ok (.getfield 321, 3) := by decide +kernel
theorem dX9_enter_67 : decode cX9_enter 67 = .ok (.istore 5, 2) := by decide +kernel
theorem dX9_enter_69 : decode cX9_enter 69 = .ok (.aload_n 3, 1) := by decide +kernel
theorem dX9_enter_70 : decode cX9_enter 70 = .ok (.getfield 76, 3) := by decide +kernel
theorem dX9_enter_73 : decode cX9_enter 73 = .ok (.iconst 1, 1) := by decide +kernel
theorem dX9_enter_74 : decode cX9_enter 74 = .ok (.isub, 1) := by decide +kernel
theorem dX9_enter_75 : decode cX9_enter 75 = .ok (.istore 6, 2) := by decide +kernel
theorem dX9_enter_77 : decode cX9_enter 77 = .ok (.iload 6, 2) := by decide +kernel
theorem dX9_enter_79 : decode cX9_enter 79 = .ok (.ifCond .lt 45, 3) := by decide +kernel
theorem dX9_enter_82 : decode cX9_enter 82 = .ok (.iload 5, 2) := by decide +kernel
theorem dX9_enter_84 : decode cX9_enter 84 = .ok (.aload_n 3, 1) := by decide +kernel
theorem dX9_enter_85 : decode cX9_enter 85 = .ok (.getfield 81, 3) := by decide +kernel
theorem dX9_enter_88 : decode cX9_enter 88 = .ok (.iload 6, 2) := by decide +kernel
theorem dX9_enter_90 : decode cX9_enter 90 = .ok (.iaload, 1) := by decide +kernel
theorem dX9_enter_91 : decode cX9_enter 91 = .ok (.invokestatic 92, 3) := by decide +kernel
theorem dX9_enter_94 : decode cX9_enter 94 = .ok (.isub, 1) := by decide +kernel
theorem dX9_enter_95 : decode cX9_enter 95 = .ok (.istore 5, 2) := by decide +kernel
theorem dX9_enter_97 : decode cX9_enter 97 = .ok (.aload 4, 2) := by decide +kernel
theorem dX9_enter_99 : decode cX9_enter 99 = .ok (.iload 5, 2) := by decide +kernel
theorem dX9_enter_101 : decode cX9_enter 101 = .ok (.aload_n 1, 1) := by decide +kernel
theorem dX9_enter_102 : decode cX9_enter 102 = .ok (.getfield 126, 3) := by decide +kernel
theorem dX9_enter_105 : decode cX9_enter 105 = .ok (.aload_n 3, 1) := by decide +kernel
theorem dX9_enter_106 : decode cX9_enter 106 = .ok (.getfield 81, 3) := by decide +kernel
theorem dX9_enter_109 : decode cX9_enter 109 = .ok (.iload 6, 2) := by decide +kernel
theorem dX9_enter_111 : decode cX9_enter 111 = .ok (.iaload, 1) := by decide +kernel
theorem dX9_enter_112 : decode cX9_enter 112 = .ok (.invokevirtual 205, 3) := by decide +kernel
theorem dX9_enter_115 : decode cX9_enter 115 = .ok (.invokevirtual 88, 3) := by decide +kernel
theorem dX9_enter_118 : decode cX9_enter 118 = .ok (.iinc 6 (-1), 3) := by decide +kernel
theorem dX9_enter_121 : decode cX9_enter 121 = .ok (.goto (-44), 3) := by decide +kernel
theorem dX9_enter_124 : decode cX9_enter 124 = .ok (.aload_n 1, 1) := by decide +kernel
theorem dX9_enter_125 : decode cX9_enter 125 = .ok (.aload_n 1, 1) := by decide +kernel
theorem dX9_enter_126 : decode cX9_enter 126 = .ok (.getfield 96, 3) := by decide +kernel
theorem dX9_enter_129 : decode cX9_enter 129 = .ok (.putfield 99, 3) := by decide +kernel
theorem dX9_enter_132 : decode cX9_enter 132 = .ok (.iconst (-1), 1) := by decide +kernel
theorem dX9_enter_133 : decode cX9_enter 133 = .ok (.ireturn, 1) := by decide +kernel
theorem dX9_getCell_0 : decode cX9_getCell 0 = .ok (.aload_n 1, 1) := by decide +kernel
theorem dX9_getCell_1 : decode cX9_getCell 1 = .ok (.invokevirtual 231, 3) := by decide +kernel
theorem dX9_getCell_4 : decode cX9_getCell 4 = .ok (.istore_n 3, 1) := by decide +kernel
theorem dX9_getCell_5 : decode cX9_getCell 5 = .ok (.aload_n 1, 1) := by decide +kernel
theorem dX9_getCell_6 : decode cX9_getCell 6 = .ok (.invokevirtual 231, 3) := by decide +kernel
theorem dX9_getCell_9 : decode cX9_getCell 9 = .ok (.istore 4, 2) := by decide +kernel
theorem dX9_getCell_11 : decode cX9_getCell 11 = .ok (.aload_n 0, 1) := by decide +kernel
theorem dX9_getCell_12 : decode cX9_getCell 12 = .ok (.getfield 12, 3) := by decide +kernel
theorem dX9_getCell_15 : decode cX9_getCell 15 = .ok (.iload 4, 2) := by decide +kernel
theorem dX9_getCell_17 : decode cX9_getCell 17 = .ok (.iload_n 3, 1) := by decide +kernel
theorem dX9_getCell_18 : decode cX9_getCell 18 = .ok (.iload_n 2, 1) := by decide +kernel
theorem dX9_getCell_19 : decode cX9_getCell 19 = .ok (.invokevirtual 275, 3) := by decide +kernel
theorem dX9_getCell_22 : decode cX9_getCell 22 = .ok (.istore 5, 2) := by decide +kernel
theorem dX9_getCell_24 : decode cX9_getCell 24 = .ok (.iload 5, 2) := by decide +kernel
theorem dX9_getCell_26 : decode cX9_getCell 26 = .ok (.iconst (-1), 1) := by decide +kernel
theorem dX9_getCell_27 : decode cX9_getCell 27 = .ok (.if_icmp .ne 21, 3) := by decide +kernel
theorem dX9_getCell_30 : decode cX9_getCell 30 = .ok (.aload_n 1, 1) := by decide +kernel
theorem dX9_getCell_31 : decode cX9_getCell 31 = .ok (.iload_n 2, 1) := by decide +kernel
theorem dX9_getCell_32 : decode cX9_getCell 32 = .ok (.invokestatic 278, 3) := by decide +kernel
theorem dX9_getCell_35 : decode cX9_getCell 35 = .ok (.aload_n 0, 1) := by decide +kernel
theorem dX9_getCell_36 : decode cX9_getCell 36 = .ok (.getfield 12, 3) := by decide +kernel
theorem dX9_getCell_39 : decode cX9_getCell 39 = .ok (.iload 4, 2) := by decide +kernel
theorem dX9_getCell_41 : decode cX9_getCell 41 = .ok (.iload_n 3, 1) := by decide +kernel
theorem dX9_getCell_42 : decode cX9_getCell 42 = .ok (.invokevirtual 281, 3) := by decide +kernel
theorem dX9_getCell_45 : decode cX9_getCell 45 = .ok (.invokevirtual 195, 3) := by decide +kernel
theorem dX9_getCell_48 : decode cX9_getCell 48 = .ok (.iload 5, 2) := by decide +kernel
theorem dX9_getCell_50 : decode cX9_getCell 50 = .ok (.ireturn, 1) := by decide +kernel
theorem dX9_init_0 : decode cX9_init 0 = .ok (.aload_n 0, 1) := by decide +kernel
theorem dX9_init_1 : decode cX9_init 1 = .ok (.invokespecial 3, 3) := by decide +kernel
theorem dX9_init_4 : decode cX9_init 4 = .ok (.aload_n 0, 1) := by decide +kernel
theorem dX9_init_5 : decode cX9_init 5 = .ok (.new 9, 3) := by decide +kernel
theorem dX9_init_8 : decode cX9_init 8 = .ok (.dup, 1) := by decide +kernel
theorem dX9_init_9 : decode cX9_init 9 = .ok (.invokespecial 11, 3) := by decide +kernel
theorem dX9_init_12 : decode cX9_init 12 = .ok (.putfield 12, 3) := by decide +kernel
theorem dX9_init_15 : decode cX9_init 15 = .ok (.aload_n 0, 1) := by decide +kernel
theorem dX9_init_16 : decode cX9_init 16 = .ok (.bipush 6, 2) := by decide +kernel
theorem dX9_init_18 : decode cX9_init 18 = .ok (.anewarray 18, 3) := by decide +kernel
theorem dX9_init_21 : decode cX9_init 21 = .ok (.putfield 20, 3) := by decide +kernel
theorem dX9_init_24 : decode cX9_init 24 = .ok (.aload_n 0, 1) := by decide +kernel
theorem dX9_init_25 : decode cX9_init 25 = .ok (.iconst 3, 1) := by decide +kernel
theorem dX9_init_26 : decode cX9_init 26 = .ok (.newarray .int, 2) := by decide +kernel
theorem dX9_init_28 : decode cX9_init 28 = .ok (.putfield 24, 3) := by decide +kernel
theorem dX9_init_31 : decode cX9_init 31 = .ok (.aload_n 0, 1) := by decide +kernel
theorem dX9_init_32 : decode cX9_init 32 = .ok (.iconst 0, 1) := by decide +kernel
theorem dX9_init_33 : decode cX9_init 33 = .ok (.putfield 28, 3) := by decide +kernel
theorem dX9_init_36 : decode cX9_init 36 = .ok (.aload_n 0, 1) := by decide +kernel
theorem dX9_init_37 : decode cX9_init 37 = .ok (.lconst 0, 1) := by decide +kernel
theorem dX9_init_38 : decode cX9_init 38 = .ok (.putfield 32, 3) := by decide +kernel
theorem dX9_init_41 : decode cX9_init 41 = .ok (.aload_n 0, 1) := by decide +kernel
theorem dX9_init_42 : decode cX9_init 42 = .ok (.iconst 0, 1) := by decide +kernel
theorem dX9_init_43 : decode cX9_init 43 = .ok (.putfield 36, 3) := by decide +kernel
theorem dX9_init_46 : decode cX9_init 46 = .ok (.aload_n 0, 1) := by decide +kernel
theorem dX9_init_47 : decode cX9_init 47 = .ok (.iconst (-1), 1) := by decide +kernel
theorem dX9_init_48 : decode cX9_init 48 = .ok (.putfield 40, 3) := by decide +kernel
theorem dX9_init_51 : decode cX9_init 51 = .ok (.aload_n 0, 1) := by decide +kernel
theorem dX9_init_52 : decode cX9_init 52 = .ok (.iconst (-1), 1) := by decide +kernel
theorem dX9_init_53 : decode cX9_init 53 = .ok (.putfield 43, 3) := by decide +kernel
theorem dX9_init_56 : decode cX9_init 56 = .ok (.aload_n 0, 1) := by decide +kernel
theorem dX9_init_57 : decode cX9_init 57 = .ok (.iconst (-1), 1) := by decide +kernel
theorem dX9_init_58 : decode cX9_init 58 = .ok (.putfield 46, 3) := by decide +kernel
theorem dX9_init_61 : decode cX9_init 61 = .ok (.aload_n 0, 1) := by decide +kernel
theorem dX9_init_62 : decode cX9_init 62 = .ok (.iconst 0, 1) := by decide +kernel
theorem dX9_init_63 : decode cX9_init 63 = .ok (.putfield 49, 3) := by decide +kernel
theorem dX9_init_66 : decode cX9_init 66 = .ok (.aload_n 0, 1) := by decide +kernel
theorem dX9_init_67 : decode cX9_init 67 = .ok (.iconst 0, 1) := by decide +kernel
theorem dX9_init_68 : decode cX9_init 68 = .ok (.putfield 52, 3) := by decide +kernel
theorem dX9_init_71 : decode cX9_init 71 = .ok (.aload_n 0, 1) := by decide +kernel
theorem dX9_init_72 : decode cX9_init 72 = .ok (.iconst 0, 1) := by decide +kernel
theorem dX9_init_73 : decode cX9_init 73 = .ok (.putfield 55, 3) := by decide +kernel
theorem dX9_init_76 : decode cX9_init 76 = .ok (.aload_n 0, 1) := by decide +kernel
theorem dX9_init_77 : decode cX9_init 77 = .ok (.iconst 0, 1) := by decide +kernel
theorem dX9_init_78 : decode cX9_init 78 = .ok (.putfield 58, 3) := by decide +kernel
theorem dX9_init_81 : decode cX9_init 81 = .ok (.aload_n 0, 1) := by decide +kernel
theorem dX9_init_82 : decode cX9_init 82 = .ok (.iconst (-1), 1) := by decide +kernel
theorem dX9_init_83 : decode cX9_init 83 = .ok (.putfield 61, 3) := by decide +kernel
theorem dX9_init_86 : decode cX9_init 86 = .ok (.aload_n 0, 1) := by decide +kernel
theorem dX9_init_87 : decode cX9_init 87 = .ok (.aload_n 1, 1) := by decide +kernel
theorem dX9_init_88 : decode cX9_init 88 = .ok (.putfield 64, 3) := by decide +kernel
theorem dX9_init_91 : decode cX9_init 91 = .ok (.iconst 0, 1) := by decide +kernel
theorem dX9_init_92 : decode cX9_init 92 = .ok (.istore_n 2, 1) := by decide +kernel
theorem dX9_init_93 : decode cX9_init 93 = .ok (.iload_n 2, 1) := by decide +kernel
theorem dX9_init_94 : decode cX9_init 94 = .ok (.bipush 6, 2) := by decide +kernel
theorem dX9_init_96 : decode cX9_init 96 = .ok (.if_icmp .ge 22, 3) := by decide +kernel
theorem dX9_init_99 : decode cX9_init 99 = .ok (.aload_n 0, 1) := by decide +kernel
theorem dX9_init_100 : decode cX9_init 100 = .ok (.getfield 20, 3) := by decide +kernel
theorem dX9_init_103 : decode cX9_init 103 = .ok (.iload_n 2, 1) := by decide +kernel
theorem dX9_init_104 : decode cX9_init 104 = .ok (.new 18, 3) := by decide +kernel
theorem dX9_init_107 : decode cX9_init 107 = .ok (.dup, 1) := by decide +kernel
theorem dX9_init_108 : decode cX9_init 108 = .ok (.invokespecial 68, 3) := by decide +kernel
theorem dX9_init_111 : decode cX9_init 111 = .ok (.aastore, 1) := by decide +kernel
theorem dX9_init_112 : decode cX9_init 112 = .ok (.iinc 2 1, 3) := by decide +kernel
theorem dX9_init_115 : decode cX9_init 115 = .ok (.goto (-22), 3) := by decide +kernel
theorem dX9_init_118 : decode cX9_init 118 = .ok (.return_, 1) := by decide +kernel
theorem dX9_jump_0 : decode cX9_jump 0 = .ok (.iload_n 2, 1) := by decide +kernel
theorem dX9_jump_1 : decode cX9_jump 1 = .ok (.bipush 20, 2) := by decide +kernel
theorem dX9_jump_3 : decode cX9_jump 3 = .ok (.if_icmp .ne 10, 3) := by decide +kernel
theorem dX9_jump_6 : decode cX9_jump 6 = .ok (.aload_n 1, 1) := by decide +kernel
theorem dX9_jump_7 : decode cX9_jump 7 = .ok (.iload_n 3, 1) := by decide +kernel
theorem dX9_jump_8 : decode cX9_jump 8 = .ok (.putfield 99, 3) := by decide +kernel
theorem dX9_jump_11 : decode cX9_jump 11 = .ok (.iconst (-1), 1) := by decide +kernel
theorem dX9_jump_12 : decode cX9_jump 12 = .ok (.ireturn, 1) := by decide +kernel
theorem dX9_jump_13 : decode cX9_jump 13 = .ok (.aload_n 1, 1) := by decide +kernel
theorem dX9_jump_14 : decode cX9_jump 14 = .ok (.getfield 126, 3) := by decide +kernel
theorem dX9_jump_17 : decode cX9_jump 17 = .ok (.invokevirtual 231, 3) := by decide +kernel
theorem dX9_jump_20 : decode cX9_jump 20 = .ok (.istore 5, 2) := by decide +kernel
theorem dX9_jump_22 : decode cX9_jump 22 = .ok (.iload_n 2, 1) := by decide +kernel
theorem dX9_jump_23 : decode cX9_jump 23 = .ok (.bipush 23, 2) := by decide +kernel
theorem dX9_jump_25 : decode cX9_jump 25 = .ok (.if_icmp .ne 38, 3) := by decide +kernel
theorem dX9_jump_28 : decode cX9_jump 28 = .ok (.aload_n 0, 1) := by decide +kernel
theorem dX9_jump_29 : decode cX9_jump 29 = .ok (.getfield 64, 3) := by decide +kernel
theorem dX9_jump_32 : decode cX9_jump 32 = .ok (.iload_n 3, 1) := by decide +kernel
theorem dX9_jump_33 : decode cX9_jump 33 = .ok (.invokevirtual 235, 3) := by decide +kernel
theorem dX9_jump_36 : decode cX9_jump 36 = .ok (.astore 6, 2) := by decide +kernel
theorem dX9_jump_38 : decode cX9_jump 38 = .ok (.aload_n 1, 1) := by decide +kernel
theorem dX9_jump_39 : decode cX9_jump 39 = .ok (.aload 6, 2) := by decide +kernel
theorem dX9_jump_41 : decode cX9_jump 41 = .ok (.ifnonnull 10, 3) := by decide +kernel
theorem dX9_jump_44 : decode cX9_jump 44 = .ok (.aload_n 1, 1) := by decide +kernel
theorem dX9_jump_45 : decode cX9_jump 45 = .ok (.getfield 99, 3) := by decide +kernel
theorem dX9_jump_48 : decode cX9_jump 48 = .ok (.goto 10, 3) := by decide +kernel
theorem dX9_jump_51 : decode cX9_jump 51 = .ok (.aload 6, 2) := by decide +kernel
theorem dX9_jump_53 : decode cX9_jump 53 = .ok (.iload 5, 2) := by decide +kernel
theorem dX9_jump_55 : decode cX9_jump 55 = .ok (.invokevirtual 239, 3) := by decide +kernel
theorem dX9_jump_58 : decode cX9_jump 58 = .ok (.putfield 99, 3) := by decide +kernel
theorem dX9_jump_61 : decode cX9_jump 61 = .ok (.iconst (-1), 1) := by decide +kernel
theorem dX9_jump_62 : decode cX9_jump 62 = .ok (.ireturn, 1) := by decide +kernel
theorem dX9_jump_63 : decode cX9_jump 63 = .ok (.iload_n 2, 1) := by decide +kernel
theorem dX9_jump_64 : decode cX9_jump 64 = .ok (.bipush 21, 2) := by decide +kernel
theorem dX9_jump_66 : decode cX9_jump 66 = .ok (.if_icmp .ne 13, 3) := by decide +kernel
theorem dX9_jump_69 : decode cX9_jump 69 = .ok (.iload 4, 2) := by decide +kernel
theorem dX9_jump_71 : decode cX9_jump 71 = .ok (.iload 5, 2) := by decide +kernel
theorem dX9_jump_73 : decode cX9_jump 73 = .ok (.invokestatic 244, 3) := by decide +kernel
theorem dX9_jump_76 : decode cX9_jump 76 = .ok (.goto 32, 3) := by decide +kernel
theorem dX9_jump_79 : decode cX9_jump 79 = .ok (.iload 5, 2) := by decide +kernel
theorem dX9_jump_81 : decode cX9_jump 81 = .ok (.iconst (-1), 1) := by decide +kernel
theorem dX9_jump_82 : decode cX9_jump 82 = .ok (.if_icmp .ne 7, 3) := by decide +kernel
theorem dX9_jump_85 : decode cX9_jump 85 = .ok (.iconst 1, 1) := by decide +kernel
theorem dX9_jump_86 : decode cX9_jump 86 = .ok (.goto 4, 3) := by decide +kernel
theorem dX9_jump_89 : decode cX9_jump 89 = .ok (.iconst 0, 1) := by decide +kernel
theorem dX9_jump_90 : decode cX9_jump 90 = .ok (.iload 4, 2) := by decide +kernel
theorem dX9_jump_92 : decode cX9_jump 92 = .ok (.ifCond .ne 7, 3) := by decide +kernel
theorem dX9_jump_95 : decode cX9_jump 95 = .ok (.iconst 1, 1) := by decide +kernel
theorem dX9_jump_96 : decode cX9_jump 96 = .ok (.goto 4, 3) := by decide +kernel
theorem dX9_jump_99 : decode cX9_jump 99 = .ok (.iconst 0, 1) := by decide +kernel
theorem dX9_jump_100 : decode cX9_jump 100 = .ok (.if_icmp .ne 7, 3) := by decide +kernel
theorem dX9_jump_103 : decode cX9_jump 103 = .ok (.iconst 1, 1) := by decide +kernel
theorem dX9_jump_104 : decode cX9_jump 104 = .ok (.goto 4, 3) := by decide +kernel
theorem dX9_jump_107 : decode cX9_jump 107 = .ok (.iconst 0, 1) := by decide +kernel
theorem dX9_jump_108 : decode cX9_jump 108 = .ok (.istore 6, 2) := by decide +kernel
theorem dX9_jump_110 : decode cX9_jump 110 = .ok (.iload 6, 2) := by decide +kernel
theorem dX9_jump_112 : decode cX9_jump 112 = .ok (.ifCond .eq 8, 3) := by decide +kernel
theorem dX9_jump_115 : decode cX9_jump 115 = .ok (.aload_n 1, 1) := by decide +kernel
theorem dX9_jump_116 : decode cX9_jump 116 = .ok (.iload_n 3, 1) := by decide +kernel
theorem dX9_jump_117 : decode cX9_jump 117 = .ok (.putfield 99, 3) := by decide +kernel
theorem dX9_jump_120 : decode cX9_jump 120 = .ok (.iconst (-1), 1) := by decide +kernel
theorem dX9_jump_121 : decode cX9_jump 121 = .ok (.ireturn, 1) := by decide +kernel
theorem dX9_leave_0 : decode cX9_leave 0 = .ok (.aload_n 1, 1) := by decide +kernel
theorem dX9_leave_1 : decode cX9_leave 1 = .ok (.getfield 310, 3) := by decide +kernel
theorem dX9_leave_4 : decode cX9_leave 4 = .ok (.ifCond .le 6, 3) := by decide +kernel
theorem dX9_leave_7 : decode cX9_leave 7 = .ok (.bipush 6, 2) := by decide +kernel
theorem dX9_leave_9 : decode cX9_leave 9 = .ok (.ireturn, 1) := by decide +kernel
theorem dX9_leave_10 : decode cX9_leave 10 = .ok (.aload_n 1, 1) := by decide +kernel
theorem dX9_leave_11 : decode cX9_leave 11 = .ok (.getfield 102, 3) := by decide +kernel
theorem dX9_leave_14 : decode cX9_leave 14 = .ok (.getfield 314, 3) := by decide +kernel
theorem dX9_leave_17 : decode cX9_leave 17 = .ok (.istore_n 2, 1) := by decide +kernel
theorem dX9_leave_18 : decode cX9_leave 18 = .ok (.iload_n 2, 1) := by decide +kernel
theorem dX9_leave_19 : decode cX9_leave 19 = .ok (.iconst 5, 1) := by decide +kernel
theorem dX9_leave_20 : decode cX9_leave 20 = .ok (.if_icmp .ne 7, 3) := by decide +kernel
theorem dX9_leave_23 : decode cX9_leave 23 = .ok (.lconst 0, 1) := by decide +kernel
theorem dX9_leave_24 : decode cX9_leave 24 = .ok (.goto 11, 3) := by decide +kernel
theorem dX9_leave_27 : decode cX9_leave 27 = .ok (.aload_n 1, 1) := by decide +kernel
theorem dX9_leave_28 : decode cX9_leave 28 = .ok (.getfield 126, 3) := by decide +kernel
theorem dX9_leave_31 : decode cX9_leave 31 = .ok (.iload_n 2, 1) := by decide +kernel
theorem dX9_leave_32 : decode cX9_leave 32 = .ok (.invokevirtual 205, 3) := by decide +kernel
theorem dX9_leave_35 : decode cX9_leave 35 = .ok (.lstore_n 3, 1) := by decide +kernel
theorem dX9_leave_36 : decode cX9_leave 36 = .ok (.aload_n 0, 1) := by decide +kernel
theorem dX9_leave_37 : decode cX9_leave 37 = .ok (.dup, 1) := by decide +kernel
theorem dX9_leave_38 : decode cX9_leave 38 = .ok (.getfield 28, 3) := by decide +kernel
theorem dX9_leave_41 : decode cX9_leave 41 = .ok (.iconst 1, 1) := by decide +kernel
theorem dX9_leave_42 : decode cX9_leave 42 = .ok (.isub, 1) := by decide +kernel
theorem dX9_leave_43 : decode cX9_leave 43 = .ok (.putfield 28, 3) := by decide +kernel
theorem dX9_leave_46 : decode cX9_leave 46 = .ok (.aload_n 0, 1) := by decide +kernel
theorem dX9_leave_47 : decode cX9_leave 47 = .ok (.getfield 28, 3) := by decide +kernel
theorem dX9_leave_50 : decode cX9_leave 50 = .ok (.ifCond .ne 10, 3) := by decide +kernel
theorem dX9_leave_53 : decode cX9_leave 53 = .ok (.aload_n 0, 1) := by decide +kernel
theorem dX9_leave_54 : decode cX9_leave 54 = .ok (.lload_n 3, 1) := by decide +kernel
theorem dX9_leave_55 : decode cX9_leave 55 = .ok (.putfield 32, 3) := by decide +kernel
theorem dX9_leave_58 : decode cX9_leave 58 = .ok (.iconst (-1), 1) := by decide +kernel
theorem dX9_leave_59 : decode cX9_leave 59 = .ok (.ireturn, 1) := by decide +kernel
theorem dX9_leave_60 : decode cX9_leave 60 = .ok (.aload_n 0, 1) := by decide +kernel
theorem dX9_leave_61 : decode cX9_leave 61 = .ok (.getfield 20, 3) := by decide +kernel
theorem dX9_leave_64 : decode cX9_leave 64 = .ok (.aload_n 0, 1) := by decide +kernel
theorem dX9_leave_65 : decode cX9_leave 65 = .ok (.getfield 28, 3) := by decide +kernel
theorem dX9_leave_68 : decode cX9_leave 68 = .ok (.iconst 1, 1) := by decide +kernel
theorem dX9_leave_69 : decode cX9_leave 69 = .ok (.isub, 1) := by decide +kernel
theorem dX9_leave_70 : decode cX9_leave 70 = .ok (.aaload, 1) := by decide +kernel
theorem dX9_leave_71 : decode cX9_leave 71 = .ok (.astore 5, 2) := by decide +kernel
theorem dX9_leave_73 : decode cX9_leave 73 = .ok (.iload_n 2, 1) := by decide +kernel
theorem dX9_leave_74 : decode cX9_leave 74 = .ok (.iconst 5, 1) := by decide +kernel
theorem dX9_leave_75 : decode cX9_leave 75 = .ok (.if_icmp .eq 13, 3) := by decide +kernel
theorem dX9_leave_78 : decode cX9_leave 78 = .ok (.aload 5, 2) := by decide +kernel
theorem dX9_leave_80 : decode cX9_leave 80 = .ok (.getfield 126, 3) := by decide +kernel
theorem dX9_leave_83 : decode cX9_leave 83 = .ok (.iload_n 2, 1) := by decide +kernel
theorem dX9_leave_84 : decode cX9_leave 84 = .ok (.lload_n 3, 1) := by decide +kernel
theorem dX9_leave_85 : decode cX9_leave 85 = .ok (.invokevirtual 195, 3) := by decide +kernel
theorem dX9_leave_88 : decode cX9_leave 88 = .ok (.aload 5, 2) := by decide +kernel
theorem dX9_leave_90 : decode cX9_leave 90 = .ok (.dup, 1) := by decide +kernel
theorem dX9_leave_91 : decode cX9_leave 91 = .ok (.getfield 96, 3) := by decide +kernel
theorem dX9_leave_94 : decode cX9_leave 94 = .ok (.iconst 1, 1) := by decide +kernel
theorem dX9_leave_95 : decode cX9_leave 95 = .ok (.iadd, 1) := by decide +kernel
theorem dX9_leave_96 : decode cX9_leave 96 = .ok (.putfield 96, 3) := by decide +kernel
theorem dX9_leave_99 : decode cX9_leave 99 = .ok (.iconst (-1), 1) := by decide +kernel
theorem dX9_leave_100 : decode cX9_leave 100 = .ok (.ireturn, 1) := by decide +kernel
theorem dX9_letGoAll_0 : decode cX9_letGoAll 0 = .ok (.iconst 0, 1) := by decide +kernel
theorem dX9_letGoAll_1 : decode cX9_letGoAll 1 = .ok (.istore_n 2, 1) := by decide +kernel
theorem dX9_letGoAll_2 : decode cX9_letGoAll 2 = .ok (.iload_n 2, 1) := by decide +kernel
theorem dX9_letGoAll_3 : decode cX9_letGoAll 3 = .ok (.bipush 60, 2) := by decide +kernel
theorem dX9_letGoAll_5 : decode cX9_letGoAll 5 = .ok (.if_icmp .ge 34, 3) := by decide +kernel
theorem dX9_letGoAll_8 : decode cX9_letGoAll 8 = .ok (.aload_n 0, 1) := by decide +kernel
theorem dX9_letGoAll_9 : decode cX9_letGoAll 9 = .ok (.getfield 12, 3) := by decide +kernel
theorem dX9_letGoAll_12 : decode cX9_letGoAll 12 = .ok (.getfield 313, 3) := by decide +kernel
theorem dX9_letGoAll_15 : decode cX9_letGoAll 15 = .ok (.iload_n 2, 1) := by decide +kernel
theorem dX9_letGoAll_16 : decode cX9_letGoAll 16 = .ok (.dup2, 1) := by decide +kernel
theorem dX9_letGoAll_17 : decode cX9_letGoAll 17 = .ok (.iaload, 1) := by decide +kernel
theorem dX9_letGoAll_18 : decode cX9_letGoAll 18 = .ok (.aload_n 1, 1) := by decide +kernel
theorem dX9_letGoAll_19 : decode cX9_letGoAll 19 = .ok (.getfield 307, 3) := by decide +kernel
theorem dX9_letGoAll_22 : decode cX9_letGoAll 22 = .ok (.iload_n 2, 1) := by decide +kernel
theorem dX9_letGoAll_23 : decode cX9_letGoAll 23 = .ok (.iaload, 1) := by decide +kernel
theorem dX9_letGoAll_24 : decode cX9_letGoAll 24 = .ok (.isub, 1) := by decide +kernel
theorem dX9_letGoAll_25 : decode cX9_letGoAll 25 = .ok (.iastore, 1) := by decide +kernel
theorem dX9_letGoAll_26 : decode cX9_letGoAll 26 = .ok (.aload_n 1, 1) := by decide +kernel
theorem dX9_letGoAll_27 : decode cX9_letGoAll 27 = .ok (.getfield 307, 3) := by decide +kernel
theorem dX9_letGoAll_30 : decode cX9_letGoAll 30 = .ok (.iload_n 2, 1) := by decide +kernel
theorem dX9_letGoAll_31 : decode cX9_letGoAll 31 = .ok (.iconst 0, 1) := by decide +kernel
theorem dX9_letGoAll_32 : decode cX9_letGoAll 32 = .ok (.iastore, 1) := by decide +kernel
theorem dX9_letGoAll_33 : decode cX9_letGoAll 33 = .ok (.iinc 2 1, 3) := by decide +kernel
theorem dX9_letGoAll_36 : decode cX9_letGoAll 36 = .ok (.goto (-34), 3) := by decide +kernel
theorem dX9_letGoAll_39 : decode cX9_letGoAll 39 = .ok (.aload_n 1, 1) := by decide +kernel
theorem dX9_letGoAll_40 : decode cX9_letGoAll 40 = .ok (.iconst 0, 1) := by decide +kernel
theorem dX9_letGoAll_41 : decode cX9_letGoAll 41 = .ok (.putfield 310, 3) := by decide +kernel
theorem dX9_letGoAll_44 : decode cX9_letGoAll 44 = .ok (.return_, 1) := by decide +kernel
theorem dX9_newArray_0 : decode cX9_newArray 0 = .ok (.iconst 0, 1) := by decide +kernel
theorem dX9_newArray_1 : decode cX9_newArray 1 = .ok (.istore 4, 2) := by decide +kernel
theorem dX9_newArray_3 : decode cX9_newArray 3 = .ok (.iload_n 3, 1) := by decide +kernel
theorem dX9_newArray_4 : decode cX9_newArray 4 = .ok (.iconst 3, 1) := by decide +kernel
theorem dX9_newArray_5 : decode cX9_newArray 5 = .ok (.invokestatic 264, 3) := by decide +kernel
theorem dX9_newArray_8 : decode cX9_newArray 8 = .ok (.iconst 1, 1) := by decide +kernel
theorem dX9_newArray_9 : decode cX9_newArray 9 = .ok (.isub, 1) := by decide +kernel
theorem dX9_newArray_10 : decode cX9_newArray 10 = .ok (.istore 5, 2) := by decide +kernel
theorem dX9_newArray_12 : decode cX9_newArray 12 = .ok (.iload 5, 2) := by decide +kernel
theorem dX9_newArray_14 : decode cX9_newArray 14 = .ok (.ifCond .lt 40, 3) := by decide +kernel
theorem dX9_newArray_17 : decode cX9_newArray 17 = .ok (.aload_n 0, 1) := by decide +kernel
theorem dX9_newArray_18 : decode cX9_newArray 18 = .ok (.getfield 24, 3) := by decide +kernel
theorem dX9_newArray_21 : decode cX9_newArray 21 = .ok (.iload 5, 2) := by decide +kernel
theorem dX9_newArray_23 : decode cX9_newArray 23 = .ok (.aload_n 1, 1) := by decide +kernel
theorem dX9_newArray_24 : decode cX9_newArray 24 = .ok (.invokevirtual 231, 3) := by decide +kernel
theorem dX9_newArray_27 : decode cX9_newArray 27 = .ok (.iastore, 1) := by decide +kernel
theorem dX9_newArray_28 : decode cX9_newArray 28 = .ok (.iload 4, 2) := by decide +kernel
theorem dX9_newArray_30 : decode cX9_newArray 30 = .ok (.aload_n 0, 1) := by decide +kernel
theorem dX9_newArray_31 : decode cX9_newArray 31 = .ok (.getfield 24, 3) := by decide +kernel
theorem dX9_newArray_34 : decode cX9_newArray 34 = .ok (.iload 5, 2) := by decide +kernel
theorem dX9_newArray_36 : decode cX9_newArray 36 = .ok (.iaload, 1) := by decide +kernel
theorem dX9_newArray_37 : decode cX9_newArray 37 = .ok (.ifCond .ge 7, 3) := by decide +kernel
theorem dX9_newArray_40 : decode cX9_newArray 40 = .ok (.iconst 1, 1) := by decide +kernel
theorem dX9_newArray_41 : decode cX9_newArray 41 = .ok (.goto 4, 3) := by decide +kernel
theorem dX9_newArray_44 : decode cX9_newArray 44 = .ok (.iconst 0, 1) := by decide +kernel
theorem dX9_newArray_45 : decode cX9_newArray 45 = .ok (.ior, 1) := by decide +kernel
theorem dX9_newArray_46 : decode cX9_newArray 46 = .ok (.istore 4, 2) := by decide +kernel
theorem dX9_newArray_48 : decode cX9_newArray 48 = .ok (.iinc 5 (-1), 3) := by decide +kernel
theorem dX9_newArray_51 : decode cX9_newArray 51 = .ok (.goto (-39), 3) := by decide +kernel
theorem dX9_newArray_54 : decode cX9_newArray 54 = .ok (.iload 4, 2) := by decide +kernel
theorem dX9_newArray_56 : decode cX9_newArray 56 = .ok (.ifCond .eq 5, 3) := by decide +kernel
theorem dX9_newArray_59 : decode cX9_newArray 59 = .ok (.iconst 4, 1) := by decide +kernel
theorem dX9_newArray_60 : decode cX9_newArray 60 = .ok (.ireturn, 1) := by decide +kernel
theorem dX9_newArray_61 : decode cX9_newArray 61 = .ok (.aload_n 0, 1) := by decide +kernel
theorem dX9_newArray_62 : decode cX9_newArray 62 = .ok (.getfield 12, 3) := by decide +kernel
theorem dX9_newArray_65 : decode cX9_newArray 65 = .ok (.aload_n 0, 1) := by decide +kernel
theorem dX9_newArray_66 : decode cX9_newArray 66 = .ok (.getfield 24, 3) := by decide +kernel
theorem dX9_newArray_69 : decode cX9_newArray 69 = .ok (.iload_n 3, 1) := by decide +kernel
theorem dX9_newArray_70 : decode cX9_newArray 70 = .ok (.invokevirtual 267, 3) := by decide +kernel
theorem dX9_newArray_73 : decode cX9_newArray 73 = .ok (.ifCond .ne 6, 3) := by decide +kernel
theorem dX9_newArray_76 : decode cX9_newArray 76 = .ok (.bipush 7, 2) := by decide +kernel
theorem dX9_newArray_78 : decode cX9_newArray 78 = .ok (.ireturn, 1) := by decide +kernel
theorem dX9_newArray_79 : decode cX9_newArray 79 = .ok (.aload_n 1, 1) := by decide +kernel
theorem dX9_newArray_80 : decode cX9_newArray 80 = .ok (.aload_n 0, 1) := by decide +kernel
theorem dX9_newArray_81 : decode cX9_newArray 81 = .ok (.getfield 12, 3) := by decide +kernel
theorem dX9_newArray_84 : decode cX9_newArray 84 = .ok (.iload_n 2, 1) := by decide +kernel
theorem dX9_newArray_85 : decode cX9_newArray 85 = .ok (.aload_n 0, 1) := by decide +kernel
theorem dX9_newArray_86 : decode cX9_newArray 86 = .ok (.getfield 24, 3) := by decide +kernel
theorem dX9_newArray_89 : decode cX9_newArray 89 = .ok (.iconst 0, 1) := by decide +kernel
theorem dX9_newArray_90 : decode cX9_newArray 90 = .ok (.iload_n 3, 1) := by decide +kernel
theorem dX9_newArray_91 : decode cX9_newArray 91 = .ok (.invokestatic 271, 3) := by decide +kernel
theorem dX9_newArray_94 : decode cX9_newArray 94 = .ok (.i2l, 1) := by decide +kernel
theorem dX9_newArray_95 : decode cX9_newArray 95 = .ok (.invokevirtual 198, 3) := by decide +kernel
theorem dX9_newArray_98 : decode cX9_newArray 98 = .ok (.iconst (-1), 1) := by decide +kernel
theorem dX9_newArray_99 : decode cX9_newArray 99 = .ok (.ireturn, 1) := by decide +kernel
theorem dX9_pushFixed_0 : decode cX9_pushFixed 0 = .ok (.iload_n 2, 1) := by decide +kernel
theorem dX9_pushFixed_1 : decode cX9_pushFixed 1 = .ok (.tableswitch 57 1 4 #[31, 57, 31, 47], 31) := by decide +kernel
theorem dX9_pushFixed_32 : decode cX9_pushFixed 32 = .ok (.aload_n 1, 1) := by decide +kernel
theorem dX9_pushFixed_33 : decode cX9_pushFixed 33 = .ok (.iload_n 2, 1) := by decide +kernel
theorem dX9_pushFixed_34 : decode cX9_pushFixed 34 = .ok (.aload_n 0, 1) := by decide +kernel
theorem dX9_pushFixed_35 : decode cX9_pushFixed 35 = .ok (.getfield 64, 3) := by decide +kernel
theorem dX9_pushFixed_38 : decode cX9_pushFixed 38 = .ok (.iload_n 3, 1) := by decide +kernel
theorem dX9_pushFixed_39 : decode cX9_pushFixed 39 = .ok (.invokevirtual 189, 3) := by decide +kernel
theorem dX9_pushFixed_42 : decode cX9_pushFixed 42 = .ok (.invokevirtual 195, 3) := by decide +kernel
theorem dX9_pushFixed_45 : decode cX9_pushFixed 45 = .ok (.goto 19, 3) := by decide +kernel
theorem dX9_pushFixed_48 : decode cX9_pushFixed 48 = .ok (.aload_n 1, 1) := by decide +kernel
theorem dX9_pushFixed_49 : decode cX9_pushFixed 49 = .ok (.ldc2_w 148, 3) := by decide +kernel
theorem dX9_pushFixed_52 : decode cX9_pushFixed 52 = .ok (.invokevirtual 198, 3) := by decide +kernel
theorem dX9_pushFixed_55 : decode cX9_pushFixed 55 = .ok (.goto 9, 3) := by decide +kernel
theorem dX9_pushFixed_58 : decode cX9_pushFixed 58 = .ok (.aload_n 1, 1) := by decide +kernel
theorem dX9_pushFixed_59 : decode cX9_pushFixed 59 = .ok (.iload_n 3, 1) := by decide +kernel
theorem dX9_pushFixed_60 : decode cX9_pushFixed 60 = .ok (.i2l, 1) := by decide +kernel
theorem dX9_pushFixed_61 : decode cX9_pushFixed 61 = .ok (.invokevirtual 198, 3) := by decide +kernel
theorem dX9_pushFixed_64 : decode cX9_pushFixed 64 = .ok (.iconst (-1), 1) := by decide +kernel
theorem dX9_pushFixed_65 : decode cX9_pushFixed 65 = .ok (.ireturn, 1) := by decide +kernel
theorem dX9_useLocal_0 : decode cX9_useLocal 0 = .ok (.iload_n 2, 1) := by decide +kernel
theorem dX9_useLocal_1 : decode cX9_useLocal 1 = .ok (.iconst 5, 1) := by decide +kernel
theorem dX9_useLocal_2 : decode cX9_useLocal 2 = .ok (.if_icmp .ne 20, 3) := by decide +kernel
theorem dX9_useLocal_5 : decode cX9_useLocal 5 = .ok (.aload_n 1, 1) := by decide +kernel
theorem dX9_useLocal_6 : decode cX9_useLocal 6 = .ok (.getfield 126, 3) := by decide +kernel
theorem dX9_useLocal_9 : decode cX9_useLocal 9 = .ok (.iload 4, 2) := by decide +kernel
theorem dX9_useLocal_11 : decode cX9_useLocal 11 = .ok (.aload_n 1, 1) := by decide +kernel
theorem dX9_useLocal_12 : decode cX9_useLocal 12 = .ok (.iload_n 3, 1) := by decide +kernel
theorem dX9_useLocal_13 : decode cX9_useLocal 13 = .ok (.invokevirtual 202, 3) := by decide +kernel
theorem dX9_useLocal_16 : decode cX9_useLocal 16 = .ok (.invokevirtual 195, 3) := by decide +kernel
theorem dX9_useLocal_19 : decode cX9_useLocal 19 = .ok (.goto 41, 3) := by decide +kernel
theorem dX9_useLocal_22 : decode cX9_useLocal 22 = .ok (.iload_n 2, 1) := by decide +kernel
theorem dX9_useLocal_23 : decode cX9_useLocal 23 = .ok (.bipush 6, 2) := by decide +kernel
theorem dX9_useLocal_25 : decode cX9_useLocal 25 = .ok (.if_icmp .ne 20, 3) := by decide +kernel
theorem dX9_useLocal_28 : decode cX9_useLocal 28 = .ok (.aload_n 1, 1) := by decide +kernel
theorem dX9_useLocal_29 : decode cX9_useLocal 29 = .ok (.iload_n 3, 1) := by decide +kernel
theorem dX9_useLocal_30 : decode cX9_useLocal 30 = .ok (.aload_n 1, 1) := by decide +kernel
theorem dX9_useLocal_31 : decode cX9_useLocal 31 = .ok (.getfield 126, 3) := by decide +kernel
theorem dX9_useLocal_34 : decode cX9_useLocal 34 = .ok (.iload 4, 2) := by decide +kernel
theorem dX9_useLocal_36 : decode cX9_useLocal 36 = .ok (.invokevirtual 205, 3) := by decide +kernel
theorem dX9_useLocal_39 : decode cX9_useLocal 39 = .ok (.invokevirtual 88, 3) := by decide +kernel
theorem dX9_useLocal_42 : decode cX9_useLocal 42 = .ok (.goto 18, 3) := by decide +kernel
theorem dX9_useLocal_45 : decode cX9_useLocal 45 = .ok (.aload_n 1, 1) := by decide +kernel
theorem dX9_useLocal_46 : decode cX9_useLocal 46 = .ok (.iload_n 3, 1) := by decide +kernel
theorem dX9_useLocal_47 : decode cX9_useLocal 47 = .ok (.aload_n 1, 1) := by decide +kernel
theorem dX9_useLocal_48 : decode cX9_useLocal 48 = .ok (.iload_n 3, 1) := by decide +kernel
theorem dX9_useLocal_49 : decode cX9_useLocal 49 = .ok (.invokevirtual 202, 3) := by decide +kernel
theorem dX9_useLocal_52 : decode cX9_useLocal 52 = .ok (.l2i, 1) := by decide +kernel
theorem dX9_useLocal_53 : decode cX9_useLocal 53 = .ok (.iload 4, 2) := by decide +kernel
theorem dX9_useLocal_55 : decode cX9_useLocal 55 = .ok (.iadd, 1) := by decide +kernel
theorem dX9_useLocal_56 : decode cX9_useLocal 56 = .ok (.i2l, 1) := by decide +kernel
theorem dX9_useLocal_57 : decode cX9_useLocal 57 = .ok (.invokevirtual 88, 3) := by decide +kernel
theorem dX9_useLocal_60 : decode cX9_useLocal 60 = .ok (.iconst (-1), 1) := by decide +kernel
theorem dX9_useLocal_61 : decode cX9_useLocal 61 = .ok (.ireturn, 1) := by decide +kernel
theorem dX9_putCell_0 : decode cX9_putCell 0 = .ok (.aload_n 1, 1) := by decide +kernel
theorem dX9_putCell_1 : decode cX9_putCell 1 = .ok (.iload_n 2, 1) := by decide +kernel
theorem dX9_putCell_2 : decode cX9_putCell 2 = .ok (.invokestatic 278, 3) := by decide +kernel
theorem dX9_putCell_5 : decode cX9_putCell 5 = .ok (.invokevirtual 205, 3) := by decide +kernel
theorem dX9_putCell_8 : decode cX9_putCell 8 = .ok (.lstore_n 3, 1) := by decide +kernel
theorem dX9_putCell_9 : decode cX9_putCell 9 = .ok (.aload_n 1, 1) := by decide +kernel
theorem dX9_putCell_10 : decode cX9_putCell 10 = .ok (.invokevirtual 231, 3) := by decide +kernel
theorem dX9_putCell_13 : decode cX9_putCell 13 = .ok (.istore 5, 2) := by decide +kernel
theorem dX9_putCell_15 : decode cX9_putCell 15 = .ok (.aload_n 1, 1) := by decide +kernel
theorem dX9_putCell_16 : decode cX9_putCell 16 = .ok (.invokevirtual 231, 3) := by decide +kernel
theorem dX9_putCell_19 : decode cX9_putCell 19 = .ok (.istore 6, 2) := by decide +kernel
theorem dX9_putCell_21 : decode cX9_putCell 21 = .ok (.aload_n 0, 1) := by decide +kernel
theorem dX9_putCell_22 : decode cX9_putCell 22 = .ok (.getfield 12, 3) := by decide +kernel
theorem dX9_putCell_25 : decode cX9_putCell 25 = .ok (.iload 6, 2) := by decide +kernel
theorem dX9_putCell_27 : decode cX9_putCell 27 = .ok (.iload 5, 2) := by decide +kernel
theorem dX9_putCell_29 : decode cX9_putCell 29 = .ok (.iload_n 2, 1) := by decide +kernel
theorem dX9_putCell_30 : decode cX9_putCell 30 = .ok (.invokevirtual 275, 3) := by decide +kernel
theorem dX9_putCell_33 : decode cX9_putCell 33 = .ok (.istore 7, 2) := by decide +kernel
theorem dX9_putCell_35 : decode cX9_putCell 35 = .ok (.iload 7, 2) := by decide +kernel
theorem dX9_putCell_37 : decode cX9_putCell 37 = .ok (.iconst (-1), 1) := by decide +kernel
theorem dX9_putCell_38 : decode cX9_putCell 38 = .ok (.if_icmp .eq 6, 3) := by decide +kernel
theorem dX9_putCell_41 : decode cX9_putCell 41 = .ok (.iload 7, 2) := by decide +kernel
theorem dX9_putCell_43 : decode cX9_putCell 43 = .ok (.ireturn, 1) := by decide +kernel
theorem dX9_putCell_44 : decode cX9_putCell 44 = .ok (.iload_n 2, 1) := by decide +kernel
theorem dX9_putCell_45 : decode cX9_putCell 45 = .ok (.iconst 4, 1) := by decide +kernel
theorem dX9_putCell_46 : decode cX9_putCell 46 = .ok (.if_icmp .ne 19, 3) := by decide +kernel
theorem dX9_putCell_49 : decode cX9_putCell 49 = .ok (.aload_n 0, 1) := by decide +kernel
theorem dX9_putCell_50 : decode cX9_putCell 50 = .ok (.getfield 12, 3) := by decide +kernel
theorem dX9_putCell_53 : decode cX9_putCell 53 = .ok (.iload 6, 2) := by decide +kernel
theorem dX9_putCell_55 : decode cX9_putCell 55 = .ok (.lload_n 3, 1) := by decide +kernel
theorem dX9_putCell_56 : decode cX9_putCell 56 = .ok (.l2i, 1) := by decide +kernel
theorem dX9_putCell_57 : decode cX9_putCell 57 = .ok (.invokevirtual 285, 3) := by decide +kernel
theorem dX9_putCell_60 : decode cX9_putCell 60 = .ok (.ifCond .ne 5, 3) := by decide +kernel
theorem dX9_putCell_63 : decode cX9_putCell 63 = .ok (.iconst 3, 1) := by decide +kernel
theorem dX9_putCell_64 : decode cX9_putCell 64 = .ok (.ireturn, 1) := by decide +kernel
theorem dX9_putCell_65 : decode cX9_putCell 65 = .ok (.aload_n 0, 1) := by decide +kernel
theorem dX9_putCell_66 : decode cX9_putCell 66 = .ok (.getfield 12, 3) := by decide +kernel
theorem dX9_putCell_69 : decode cX9_putCell 69 = .ok (.iload 6, 2) := by decide +kernel
theorem dX9_putCell_71 : decode cX9_putCell 71 = .ok (.iload 5, 2) := by decide +kernel
theorem dX9_putCell_73 : decode cX9_putCell 73 = .ok (.iload_n 2, 1) := by decide +kernel
theorem dX9_putCell_74 : decode cX9_putCell 74 = .ok (.iconst 5, 1) := by decide +kernel
theorem dX9_putCell_75 : decode cX9_putCell 75 = .ok (.if_icmp .lt 13, 3) := by decide +kernel
theorem dX9_putCell_78 : decode cX9_putCell 78 = .ok (.iload_n 2, 1) := by decide +kernel
theorem dX9_putCell_79 : decode cX9_putCell 79 = .ok (.lload_n 3, 1) := by decide +kernel
theorem dX9_putCell_80 : decode cX9_putCell 80 = .ok (.l2i, 1) := by decide +kernel
theorem dX9_putCell_81 : decode cX9_putCell 81 = .ok (.invokestatic 288, 3) := by decide +kernel
theorem dX9_putCell_84 : decode cX9_putCell 84 = .ok (.i2l, 1) := by decide +kernel
theorem dX9_putCell_85 : decode cX9_putCell 85 = .ok (.goto 4, 3) := by decide +kernel
theorem dX9_putCell_88 : decode cX9_putCell 88 = .ok (.lload_n 3, 1) := by decide +kernel
theorem dX9_putCell_89 : decode cX9_putCell 89 = .ok (.invokevirtual 291, 3) := by decide +kernel
theorem dX9_putCell_92 : decode cX9_putCell 92 = .ok (.iconst (-1), 1) := by decide +kernel
theorem dX9_putCell_93 : decode cX9_putCell 93 = .ok (.ireturn, 1) := by decide +kernel
