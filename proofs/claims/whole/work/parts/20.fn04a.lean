theorem dX3_compareBits_0 : decode cX3_compareBits 0 = .ok (.iload_n 0, 1) := by decide +kernel
theorem dX3_compareBits_1 : decode cX3_compareBits 1 = .ok (.ifCond .ne 9, 3) := by decide +kernel
theorem dX3_compareBits_4 : decode cX3_compareBits 4 = .ok (.lload_n 1, 1) := by decide +kernel
theorem dX3_compareBits_5 : decode cX3_compareBits 5 = .ok (.lload_n 3, 1) := by decide +kernel
theorem dX3_compareBits_6 : decode cX3_compareBits 6 = .ok (.invokestatic 15, 3) := by decide +kernel
theorem dX3_compareBits_9 : decode cX3_compareBits 9 = .ok (.ireturn, 1) := by decide +kernel
theorem dX3_compareBits_10 : decode cX3_compareBits 10 = .ok (.iload_n 0, 1) := by decide +kernel
theorem dX3_compareBits_11 : decode cX3_compareBits 11 = .ok (.iconst 2, 1) := by decide +kernel
theorem dX3_compareBits_12 : decode cX3_compareBits 12 = .ok (.if_icmp .le 7, 3) := by decide +kernel
theorem dX3_compareBits_15 : decode cX3_compareBits 15 = .ok (.iconst 1, 1) := by decide +kernel
theorem dX3_compareBits_16 : decode cX3_compareBits 16 = .ok (.goto 4, 3) := by decide +kernel
theorem dX3_compareBits_19 : decode cX3_compareBits 19 = .ok (.iconst 0, 1) := by decide +kernel
theorem dX3_compareBits_20 : decode cX3_compareBits 20 = .ok (.istore 5, 2) := by decide +kernel
theorem dX3_compareBits_22 : decode cX3_compareBits 22 = .ok (.iload 5, 2) := by decide +kernel
theorem dX3_compareBits_24 : decode cX3_compareBits 24 = .ok (.ifCond .eq 9, 3) := by decide +kernel
theorem dX3_compareBits_27 : decode cX3_compareBits 27 = .ok (.ldc2_w 19, 3) := by decide +kernel
theorem dX3_compareBits_30 : decode cX3_compareBits 30 = .ok (.goto 6, 3) := by decide +kernel
theorem dX3_compareBits_33 : decode cX3_compareBits 33 = .ok (.ldc2_w 21, 3) := by decide +kernel
theorem dX3_compareBits_36 : decode cX3_compareBits 36 = .ok (.lstore 6, 2) := by decide +kernel
theorem dX3_compareBits_38 : decode cX3_compareBits 38 = .ok (.iload 5, 2) := by decide +kernel
theorem dX3_compareBits_40 : decode cX3_compareBits 40 = .ok (.ifCond .eq 9, 3) := by decide +kernel
theorem dX3_compareBits_43 : decode cX3_compareBits 43 = .ok (.ldc2_w 23, 3) := by decide +kernel
theorem dX3_compareBits_46 : decode cX3_compareBits 46 = .ok (.goto 6, 3) := by decide +kernel
theorem dX3_compareBits_49 : decode cX3_compareBits 49 = .ok (.ldc2_w 25, 3) := by decide +kernel
theorem dX3_compareBits_52 : decode cX3_compareBits 52 = .ok (.lstore 8, 2) := by decide +kernel
theorem dX3_compareBits_54 : decode cX3_compareBits 54 = .ok (.lload_n 1, 1) := by decide +kernel
theorem dX3_compareBits_55 : decode cX3_compareBits 55 = .ok (.lload 6, 2) := by decide +kernel
theorem dX3_compareBits_57 : decode cX3_compareBits 57 = .ok (.land, 1) := by decide +kernel
theorem dX3_compareBits_58 : decode cX3_compareBits 58 = .ok (.lstore 10, 2) := by decide +kernel
theorem dX3_compareBits_60 : decode cX3_compareBits 60 = .ok (.lload_n 3, 1) := by decide +kernel
theorem dX3_compareBits_61 : decode cX3_compareBits 61 = .ok (.lload 6, 2) := by decide +kernel
theorem dX3_compareBits_63 : decode cX3_compareBits 63 = .ok (.land, 1) := by decide +kernel
theorem dX3_compareBits_64 : decode cX3_compareBits 64 = .ok (.lstore 12, 2) := by decide +kernel
theorem dX3_compareBits_66 : decode cX3_compareBits 66 = .ok (.lload 10, 2) := by decide +kernel
theorem dX3_compareBits_68 : decode cX3_compareBits 68 = .ok (.lload 8, 2) := by decide +kernel
theorem dX3_compareBits_70 : decode cX3_compareBits 70 = .ok (.lcmp, 1) := by decide +kernel
theorem dX3_compareBits_71 : decode cX3_compareBits 71 = .ok (.ifCond .gt 11, 3) := by decide +kernel
theorem dX3_compareBits_74 : decode cX3_compareBits 74 = .ok (.lload 12, 2) := by decide +kernel
theorem dX3_compareBits_76 : decode cX3_compareBits 76 = .ok (.lload 8, 2) := by decide +kernel
theorem dX3_compareBits_78 : decode cX3_compareBits 78 = .ok (.lcmp, 1) := by decide +kernel
theorem dX3_compareBits_79 : decode cX3_compareBits 79 = .ok (.ifCond .le 16, 3) := by decide +kernel
theorem dX3_compareBits_82 : decode cX3_compareBits 82 = .ok (.iload_n 0, 1) := by decide +kernel
theorem dX3_compareBits_83 : decode cX3_compareBits 83 = .ok (.iconst 2, 1) := by decide +kernel
theorem dX3_compareBits_84 : decode cX3_compareBits 84 = .ok (.irem, 1) := by decide +kernel
theorem dX3_compareBits_85 : decode cX3_compareBits 85 = .ok (.iconst 1, 1) := by decide +kernel
theorem dX3_compareBits_86 : decode cX3_compareBits 86 = .ok (.if_icmp .ne 7, 3) := by decide +kernel
theorem dX3_compareBits_89 : decode cX3_compareBits 89 = .ok (.iconst (-1), 1) := by decide +kernel
theorem dX3_compareBits_90 : decode cX3_compareBits 90 = .ok (.goto 4, 3) := by decide +kernel
theorem dX3_compareBits_93 : decode cX3_compareBits 93 = .ok (.iconst 1, 1) := by decide +kernel
theorem dX3_compareBits_94 : decode cX3_compareBits 94 = .ok (.ireturn, 1) := by decide +kernel
theorem dX3_compareBits_95 : decode cX3_compareBits 95 = .ok (.lload_n 1, 1) := by decide +kernel
theorem dX3_compareBits_96 : decode cX3_compareBits 96 = .ok (.lconst 0, 1) := by decide +kernel
theorem dX3_compareBits_97 : decode cX3_compareBits 97 = .ok (.lcmp, 1) := by decide +kernel
theorem dX3_compareBits_98 : decode cX3_compareBits 98 = .ok (.ifCond .ge 9, 3) := by decide +kernel
theorem dX3_compareBits_101 : decode cX3_compareBits 101 = .ok (.lload 10, 2) := by decide +kernel
theorem dX3_compareBits_103 : decode cX3_compareBits 103 = .ok (.lneg, 1) := by decide +kernel
theorem dX3_compareBits_104 : decode cX3_compareBits 104 = .ok (.goto 5, 3) := by decide +kernel
theorem dX3_compareBits_107 : decode cX3_compareBits 107 = .ok (.lload 10, 2) := by decide +kernel
theorem dX3_compareBits_109 : decode cX3_compareBits 109 = .ok (.lload_n 3, 1) := by decide +kernel
theorem dX3_compareBits_110 : decode cX3_compareBits 110 = .ok (.lconst 0, 1) := by decide +kernel
theorem dX3_compareBits_111 : decode cX3_compareBits 111 = .ok (.lcmp, 1) := by decide +kernel
theorem dX3_compareBits_112 : decode cX3_compareBits 112 = .ok (.ifCond .ge 9, 3) := by decide +kernel
theorem dX3_compareBits_115 : decode cX3_compareBits 115 = .ok (.lload 12, 2) := by decide +kernel
theorem dX3_compareBits_117 : decode cX3_compareBits 117 = .ok (.lneg, 1) := by decide +kernel
theorem dX3_compareBits_118 : decode cX3_compareBits 118 = .ok (.goto 5, 3) := by decide +kernel
theorem dX3_compareBits_121 : decode cX3_compareBits 121 = .ok (.lload 12, 2) := by decide +kernel
theorem dX3_compareBits_123 : decode cX3_compareBits 123 = .ok (.invokestatic 15, 3) := by decide +kernel
theorem dX3_compareBits_126 : decode cX3_compareBits 126 = .ok (.ireturn, 1) := by decide +kernel
theorem dX3_narrow_0 : decode cX3_narrow 0 = .ok (.iload_n 0, 1) := by decide +kernel
theorem dX3_narrow_1 : decode cX3_narrow 1 = .ok (.lookupswitch 33 #[(5, 27), (6, 30)], 27) := by decide +kernel
theorem dX3_narrow_28 : decode cX3_narrow 28 = .ok (.iload_n 1, 1) := by decide +kernel
theorem dX3_narrow_29 : decode cX3_narrow 29 = .ok (.i2b, 1) := by decide +kernel
theorem dX3_narrow_30 : decode cX3_narrow 30 = .ok (.ireturn, 1) := by decide +kernel
theorem dX3_narrow_31 : decode cX3_narrow 31 = .ok (.iload_n 1, 1) := by decide +kernel
theorem dX3_narrow_32 : decode cX3_narrow 32 = .ok (.i2s, 1) := by decide +kernel
theorem dX3_narrow_33 : decode cX3_narrow 33 = .ok (.ireturn, 1) := by decide +kernel
theorem dX3_narrow_34 : decode cX3_narrow 34 = .ok (.iload_n 1, 1) := by decide +kernel
theorem dX3_narrow_35 : decode cX3_narrow 35 = .ok (.i2c, 1) := by decide +kernel
theorem dX3_narrow_36 : decode cX3_narrow 36 = .ok (.ireturn, 1) := by decide +kernel
theorem dX3_convert_0 : decode cX3_convert 0 = .ok (.iload_n 0, 1) := by decide +kernel
theorem dX3_convert_1 : decode cX3_convert 1 = .ok (.iconst 4, 1) := by decide +kernel
theorem dX3_convert_2 : decode cX3_convert 2 = .ok (.if_icmp .ne 5, 3) := by decide +kernel
theorem dX3_convert_5 : decode cX3_convert 5 = .ok (.lload_n 1, 1) := by decide +kernel
theorem dX3_convert_6 : decode cX3_convert 6 = .ok (.lreturn, 1) := by decide +kernel
theorem dX3_convert_7 : decode cX3_convert 7 = .ok (.iload_n 0, 1) := by decide +kernel
theorem dX3_convert_8 : decode cX3_convert 8 = .ok (.iconst 3, 1) := by decide +kernel
theorem dX3_convert_9 : decode cX3_convert 9 = .ok (.if_icmp .ne 9, 3) := by decide +kernel
theorem dX3_convert_12 : decode cX3_convert 12 = .ok (.lload_n 1, 1) := by decide +kernel
theorem dX3_convert_13 : decode cX3_convert 13 = .ok (.l2i, 1) := by decide +kernel
theorem dX3_convert_14 : decode cX3_convert 14 = .ok (.i2l, 1) := by decide +kernel
theorem dX3_convert_15 : decode cX3_convert 15 = .ok (.goto 12, 3) := by decide +kernel
theorem dX3_convert_18 : decode cX3_convert 18 = .ok (.iconst 5, 1) := by decide +kernel
theorem dX3_convert_19 : decode cX3_convert 19 = .ok (.iload_n 0, 1) := by decide +kernel
theorem dX3_convert_20 : decode cX3_convert 20 = .ok (.iadd, 1) := by decide +kernel
theorem dX3_convert_21 : decode cX3_convert 21 = .ok (.lload_n 1, 1) := by decide +kernel
theorem dX3_convert_22 : decode cX3_convert 22 = .ok (.l2i, 1) := by decide +kernel
theorem dX3_convert_23 : decode cX3_convert 23 = .ok (.invokestatic 9, 3) := by decide +kernel
theorem dX3_convert_26 : decode cX3_convert 26 = .ok (.i2l, 1) := by decide +kernel
theorem dX3_convert_27 : decode cX3_convert 27 = .ok (.lreturn, 1) := by decide +kernel
theorem dX3_passes_0 : decode cX3_passes 0 = .ok (.iload_n 0, 1) := by decide +kernel
theorem dX3_passes_1 : decode cX3_passes 1 = .ok (.tableswitch 85 0 4 #[35, 45, 55, 65, 75], 35) := by decide +kernel
theorem dX3_passes_36 : decode cX3_passes 36 = .ok (.iload_n 1, 1) := by decide +kernel
theorem dX3_passes_37 : decode cX3_passes 37 = .ok (.ifCond .ne 7, 3) := by decide +kernel
theorem dX3_passes_40 : decode cX3_passes 40 = .ok (.iconst 1, 1) := by decide +kernel
theorem dX3_passes_41 : decode cX3_passes 41 = .ok (.goto 4, 3) := by decide +kernel
theorem dX3_passes_44 : decode cX3_passes 44 = .ok (.iconst 0, 1) := by decide +kernel
theorem dX3_passes_45 : decode cX3_passes 45 = .ok (.ireturn, 1) := by decide +kernel
theorem dX3_passes_46 : decode cX3_passes 46 = .ok (.iload_n 1, 1) := by decide +kernel
theorem dX3_passes_47 : decode cX3_passes 47 = .ok (.ifCond .eq 7, 3) := by decide +kernel
theorem dX3_passes_50 : decode cX3_passes 50 = .ok (.iconst 1, 1) := by decide +kernel
theorem dX3_passes_51 : decode cX3_passes 51 = .ok (.goto 4, 3) := by decide +kernel
theorem dX3_passes_54 : decode cX3_passes 54 = .ok (.iconst 0, 1) := by decide +kernel
theorem dX3_passes_55 : decode cX3_passes 55 = .ok (.ireturn, 1) := by decide +kernel
theorem dX3_passes_56 : decode cX3_passes 56 = .ok (.iload_n 1, 1) := by decide +kernel
theorem dX3_passes_57 : decode cX3_passes 57 = .ok (.ifCond .ge 7, 3) := by decide +kernel
theorem dX3_passes_60 : decode cX3_passes 60 = .ok (.iconst 1, 1) := by decide +kernel
theorem dX3_passes_61 : decode cX3_passes 61 = .ok (.goto 4, 3) := by decide +kernel
theorem dX3_passes_64 : decode cX3_passes 64 = .ok (.iconst 0, 1) := by decide +kernel
theorem dX3_passes_65 : decode cX3_passes 65 = .ok (.ireturn, 1) := by decide +kernel
theorem dX3_passes_66 : decode cX3_passes 66 = .ok (.iload_n 1, 1) := by decide +kernel
theorem dX3_passes_67 : decode cX3_passes 67 = .ok (.ifCond .lt 7, 3) := by decide +kernel
theorem dX3_passes_70 : decode cX3_passes 70 = .ok (.iconst 1, 1) := by decide +kernel
theorem dX3_passes_71 : decode cX3_passes 71 = .ok (.goto 4, 3) := by decide +kernel
theorem dX3_passes_74 : decode cX3_passes 74 = .ok (.iconst 0, 1) := by decide +kernel
theorem dX3_passes_75 : decode cX3_passes 75 = .ok (.ireturn, 1) := by decide +kernel
theorem dX3_passes_76 : decode cX3_passes 76 = .ok (.iload_n 1, 1) := by decide +kernel
theorem dX3_passes_77 : decode cX3_passes 77 = .ok (.ifCond .le 7, 3) := by decide +kernel
theorem dX3_passes_80 : decode cX3_passes 80 = .ok (.iconst 1, 1) := by decide +kernel
theorem dX3_passes_81 : decode cX3_passes 81 = .ok (.goto 4, 3) := by decide +kernel
theorem dX3_passes_84 : decode cX3_passes 84 = .ok (.iconst 0, 1) := by decide +kernel
theorem dX3_passes_85 : decode cX3_passes 85 = .ok (.ireturn, 1) := by decide +kernel
theorem dX3_passes_86 : decode cX3_passes 86 = .ok (.iload_n 1, 1) := by decide +kernel
theorem dX3_passes_87 : decode cX3_passes 87 = .ok (.ifCond .gt 7, 3) := by decide +kernel
theorem dX3_passes_90 : decode cX3_passes 90 = .ok (.iconst 1, 1) := by decide +kernel
theorem dX3_passes_91 : decode cX3_passes 91 = .ok (.goto 4, 3) := by decide +kernel
theorem dX3_passes_94 : decode cX3_passes 94 = .ok (.iconst 0, 1) := by decide +kernel
theorem dX3_passes_95 : decode cX3_passes 95 = .ok (.ireturn, 1) := by decide +kernel
theorem dX4_addConstant_0 : decode cX4_addConstant 0 = .ok (.aload_n 0, 1) := by decide +kernel
theorem dX4_addConstant_1 : decode cX4_addConstant 1 = .ok (.getfield 25, 3) := by decide +kernel
theorem dX4_addConstant_4 : decode cX4_addConstant 4 = .ok (.istore_n 3, 1) := by decide +kernel
theorem dX4_addConstant_5 : decode cX4_addConstant 5 = .ok (.aload_n 0, 1) := by decide +kernel
theorem dX4_addConstant_6 : decode cX4_addConstant 6 = .ok (.getfield 21, 3) := by decide +kernel
theorem dX4_addConstant_9 : decode cX4_addConstant 9 = .ok (.iload_n 3, 1) := by decide +kernel
theorem dX4_addConstant_10 : decode cX4_addConstant 10 = .ok (.lload_n 1, 1) := by decide +kernel
theorem dX4_addConstant_11 : decode cX4_addConstant 11 = .ok (.lastore, 1) := by decide +kernel
theorem dX4_addConstant_12 : decode cX4_addConstant 12 = .ok (.aload_n 0, 1) := by decide +kernel
theorem dX4_addConstant_13 : decode cX4_addConstant 13 = .ok (.dup, 1) := by decide +kernel
theorem dX4_addConstant_14 : decode cX4_addConstant 14 = .ok (.getfield 25, 3) := by decide +kernel
theorem dX4_addConstant_17 : decode cX4_addConstant 17 = .ok (.iconst 1, 1) := by decide +kernel
theorem dX4_addConstant_18 : decode cX4_addConstant 18 = .ok (.iadd, 1) := by decide +kernel
theorem dX4_addConstant_19 : decode cX4_addConstant 19 = .ok (.putfield 25, 3) := by decide +kernel
theorem dX4_addConstant_22 : decode cX4_addConstant 22 = .ok (.iload_n 3, 1) := by decide +kernel
theorem dX4_addConstant_23 : decode cX4_addConstant 23 = .ok (.ireturn, 1) := by decide +kernel
theorem dX4_addMethod_0 : decode cX4_addMethod 0 = .ok (.aload_n 0, 1) := by decide +kernel
theorem dX4_addMethod_1 : decode cX4_addMethod 1 = .ok (.getfield 17, 3) := by decide +kernel
theorem dX4_addMethod_4 : decode cX4_addMethod 4 = .ok (.istore_n 2, 1) := by decide +kernel
theorem dX4_addMethod_5 : decode cX4_addMethod 5 = .ok (.aload_n 0, 1) := by decide +kernel
theorem dX4_addMethod_6 : decode cX4_addMethod 6 = .ok (.getfield 11, 3) := by decide +kernel
theorem dX4_addMethod_9 : decode cX4_addMethod 9 = .ok (.iload_n 2, 1) := by decide +kernel
theorem dX4_addMethod_10 : decode cX4_addMethod 10 = .ok (.new 9, 3) := by decide +kernel
theorem dX4_addMethod_13 : decode cX4_addMethod 13 = .ok (.dup, 1) := by decide +kernel
theorem dX4_addMethod_14 : decode cX4_addMethod 14 = .ok (.iload_n 1, 1) := by decide +kernel
theorem dX4_addMethod_15 : decode cX4_addMethod 15 = .ok (.invokespecial 41, 3) := by decide +kernel
theorem dX4_addMethod_18 : decode cX4_addMethod 18 = .ok (.aastore, 1) := by decide +kernel
theorem dX4_addMethod_19 : decode cX4_addMethod 19 = .ok (.aload_n 0, 1) := by decide +kernel
theorem dX4_addMethod_20 : decode cX4_addMethod 20 = .ok (.dup, 1) := by decide +kernel
theorem dX4_addMethod_21 : decode cX4_addMethod 21 = .ok (.getfield 17, 3) := by decide +kernel
theorem dX4_addMethod_24 : decode cX4_addMethod 24 = .ok (.iconst 1, 1) := by decide +kernel
theorem dX4_addMethod_25 : decode cX4_addMethod 25 = .ok (.iadd, 1) := by decide +kernel
theorem dX4_addMethod_26 : decode cX4_addMethod 26 = .ok (.putfield 17, 3) := by decide +kernel
theorem dX4_addMethod_29 : decode cX4_addMethod 29 = .ok (.iload_n 2, 1) := by decide +kernel
theorem dX4_addMethod_30 : decode cX4_addMethod 30 = .ok (.ireturn, 1) := by decide +kernel
theorem dX7_init_0 : decode cX7_init 0 = .ok (.aload_n 0, 1) := by decide +kernel
theorem dX7_init_1 : decode cX7_init 1 = .ok (.invokespecial 3, 3) := by decide +kernel
theorem dX7_init_4 : decode cX7_init 4 = .ok (.aload_n 0, 1) := by decide +kernel
theorem dX7_init_5 : decode cX7_init 5 = .ok (.bipush 8, 2) := by decide +kernel
theorem dX7_init_7 : decode cX7_init 7 = .ok (.newarray .int, 2) := by decide +kernel
theorem dX7_init_9 : decode cX7_init 9 = .ok (.putfield 9, 3) := by decide +kernel
theorem dX7_init_12 : decode cX7_init 12 = .ok (.aload_n 0, 1) := by decide +kernel
theorem dX7_init_13 : decode cX7_init 13 = .ok (.bipush 8, 2) := by decide +kernel
theorem dX7_init_15 : decode cX7_init 15 = .ok (.newarray .int, 2) := by decide +kernel
theorem dX7_init_17 : decode cX7_init 17 = .ok (.putfield 15, 3) := by decide +kernel
theorem dX7_init_20 : decode cX7_init 20 = .ok (.aload_n 0, 1) := by decide +kernel
theorem dX7_init_21 : decode cX7_init 21 = .ok (.iconst 0, 1) := by decide +kernel
theorem dX7_init_22 : decode cX7_init 22 = .ok (.putfield 18, 3) := by decide +kernel
theorem dX7_init_25 : decode cX7_init 25 = .ok (.aload_n 0, 1) := by decide +kernel
theorem dX7_init_26 : decode cX7_init 26 = .ok (.iload_n 1, 1) := by decide +kernel
theorem dX7_init_27 : decode cX7_init 27 = .ok (.putfield 22, 3) := by decide +kernel
theorem dX7_init_30 : decode cX7_init 30 = .ok (.aload_n 0, 1) := by decide +kernel
theorem dX7_init_31 : decode cX7_init 31 = .ok (.iload_n 2, 1) := by decide +kernel
theorem dX7_init_32 : decode cX7_init 32 = .ok (.putfield 26, 3) := by decide +kernel
theorem dX7_init_35 : decode cX7_init 35 = .ok (.aload_n 0, 1) := by decide +kernel
theorem dX7_init_36 : decode cX7_init 36 = .ok (.iload_n 3, 1) := by decide +kernel
theorem dX7_init_37 : decode cX7_init 37 = .ok (.putfield 29, 3) := by decide +kernel
theorem dX7_init_40 : decode cX7_init 40 = .ok (.return_, 1) := by decide +kernel
theorem dX4_addTable_0 : decode cX4_addTable 0 = .ok (.aload_n 0, 1) := by decide +kernel
theorem dX4_addTable_1 : decode cX4_addTable 1 = .ok (.getfield 34, 3) := by decide +kernel
theorem dX4_addTable_4 : decode cX4_addTable 4 = .ok (.istore 4, 2) := by decide +kernel
theorem dX4_addTable_6 : decode cX4_addTable 6 = .ok (.aload_n 0, 1) := by decide +kernel
theorem dX4_addTable_7 : decode cX4_addTable 7 = .ok (.getfield 30, 3) := by decide +kernel
theorem dX4_addTable_10 : decode cX4_addTable 10 = .ok (.iload 4, 2) := by decide +kernel
theorem dX4_addTable_12 : decode cX4_addTable 12 = .ok (.new 28, 3) := by decide +kernel
theorem dX4_addTable_15 : decode cX4_addTable 15 = .ok (.dup, 1) := by decide +kernel
theorem dX4_addTable_16 : decode cX4_addTable 16 = .ok (.iload_n 1, 1) := by decide +kernel
theorem dX4_addTable_17 : decode cX4_addTable 17 = .ok (.iload_n 2, 1) := by decide +kernel
theorem dX4_addTable_18 : decode cX4_addTable 18 = .ok (.iload_n 3, 1) := by decide +kernel
theorem dX4_addTable_19 : decode cX4_addTable 19 = .ok (.invokespecial 44, 3) := by decide +kernel
theorem dX4_addTable_22 : decode cX4_addTable 22 = .ok (.aastore, 1) := by decide +kernel
theorem dX4_addTable_23 : decode cX4_addTable 23 = .ok (.aload_n 0, 1) := by decide +kernel
theorem dX4_addTable_24 : decode cX4_addTable 24 = .ok (.dup, 1) := by decide +kernel
theorem dX4_addTable_25 : decode cX4_addTable 25 = .ok (.getfield 34, 3) := by decide +kernel
theorem dX4_addTable_28 : decode cX4_addTable 28 = .ok (.iconst 1, 1) := by decide +kernel
theorem dX4_addTable_29 : decode cX4_addTable 29 = .ok (.iadd, 1) := by decide +kernel
theorem dX4_addTable_30 : decode cX4_addTable 30 = .ok (.putfield 34, 3) := by decide +kernel
theorem dX4_addTable_33 : decode cX4_addTable 33 = .ok (.iload 4, 2) := by decide +kernel
theorem dX4_addTable_35 : decode cX4_addTable 35 = .ok (.ireturn, 1) := by decide +kernel
theorem dX4_allFaultless_0 : decode cX4_allFaultless 0 = .ok (.iconst 0, 1) := by decide +kernel
theorem dX4_allFaultless_1 : decode cX4_allFaultless 1 = .ok (.istore_n 1, 1) := by decide +kernel
theorem dX4_allFaultless_2 : decode cX4_allFaultless 2 = .ok (.iload_n 1, 1) := by decide +kernel
theorem dX4_allFaultless_3 : decode cX4_allFaultless 3 = .ok (.aload_n 0, 1) := by decide +kernel
theorem dX4_allFaultless_4 : decode cX4_allFaultless 4 = .ok (.getfield 17, 3) := by decide +kernel
theorem dX4_allFaultless_7 : decode cX4_allFaultless 7 = .ok (.if_icmp .ge 23, 3) := by decide +kernel
theorem dX4_allFaultless_10 : decode cX4_allFaultless 10 = .ok (.aload_n 0, 1) := by decide +kernel
theorem dX4_allFaultless_11 : decode cX4_allFaultless 11 = .ok (.getfield 11, 3) := by decide +kernel
theorem dX4_allFaultless_14 : decode cX4_allFaultless 14 = .ok (.iload_n 1, 1) := by decide +kernel
theorem dX4_allFaultless_15 : decode cX4_allFaultless 15 = .ok (.aaload, 1) := by decide +kernel
theorem dX4_allFaultless_16 : decode cX4_allFaultless 16 = .ok (.getfield 51, 3) := by decide +kernel
theorem dX4_allFaultless_19 : decode cX4_allFaultless 19 = .ok (.ifCond .ne 5, 3) := by decide +kernel
theorem dX4_allFaultless_22 : decode cX4_allFaultless 22 = .ok (.iconst 0, 1) := by decide +kernel
theorem dX4_allFaultless_23 : decode cX4_allFaultless 23 = .ok (.ireturn, 1) := by decide +kernel
theorem dX4_allFaultless_24 : decode cX4_allFaultless 24 = .ok (.iinc 1 1, 3) := by decide +kernel
theorem dX4_allFaultless_27 : decode cX4_allFaultless 27 = .ok (.goto (-25), 3) := by decide +kernel
theorem dX4_allFaultless_30 : decode cX4_allFaultless 30 = .ok (.iconst 1, 1) := by decide +kernel
theorem dX4_allFaultless_31 : decode cX4_allFaultless 31 = .ok (.ireturn, 1) := by decide +kernel
theorem dX4_forgetJudgements_0 : decode cX4_forgetJudgements 0 = .ok (.iconst 0, 1) := by decide +kernel
theorem dX4_forgetJudgements_1 : decode cX4_forgetJudgements 1 = .ok (.istore_n 1, 1) := by decide +kernel
theorem dX4_forgetJudgements_2 : decode cX4_forgetJudgements 2 = .ok (.iload_n 1, 1) := by decide +kernel
theorem dX4_forgetJudgements_3 : decode cX4_forgetJudgements 3 = .ok (.aload_n 0, 1) := by decide +kernel
theorem dX4_forgetJudgements_4 : decode cX4_forgetJudgements 4 = .ok (.getfield 17, 3) := by decide +kernel
theorem dX4_forgetJudgements_7 : decode cX4_forgetJudgements 7 = .ok (.if_icmp .ge 29, 3) := by decide +kernel
theorem dX4_forgetJudgements_10 : decode cX4_forgetJudgements 10 = .ok (.aload_n 0, 1) := by decide +kernel
theorem dX4_forgetJudgements_11 : decode cX4_forgetJudgements 11 = .ok (.getfield 11, 3) := by decide +kernel
theorem dX4_forgetJudgements_14 : decode cX4_forgetJudgements 14 = .ok (.iload_n 1, 1) := by decide +kernel
theorem dX4_forgetJudgements_15 : decode cX4_forgetJudgements 15 = .ok (.aaload, 1) := by decide +kernel
theorem dX4_forgetJudgements_16 : decode cX4_forgetJudgements 16 = .ok (.iconst 0, 1) := by decide +kernel
theorem dX4_forgetJudgements_17 : decode cX4_forgetJudgements 17 = .ok (.putfield 47, 3) := by decide +kernel
theorem dX4_forgetJudgements_20 : decode cX4_forgetJudgements 20 = .ok (.aload_n 0, 1) := by decide +kernel
theorem dX4_forgetJudgements_21 : decode cX4_forgetJudgements 21 = .ok (.getfield 11, 3) := by decide +kernel
theorem dX4_forgetJudgements_24 : decode cX4_forgetJudgements 24 = .ok (.iload_n 1, 1) := by decide +kernel
theorem dX4_forgetJudgements_25 : decode cX4_forgetJudgements 25 = .ok (.aaload, 1) := by decide +kernel
theorem dX4_forgetJudgements_26 : decode cX4_forgetJudgements 26 = .ok (.iconst 0, 1) := by decide +kernel
theorem dX4_forgetJudgements_27 : decode cX4_forgetJudgements 27 = .ok (.putfield 51, 3) := by decide +kernel
theorem dX4_forgetJudgements_30 : decode cX4_forgetJudgements 30 = .ok (.iinc 1 1, 3) := by decide +kernel
theorem dX4_forgetJudgements_33 : decode cX4_forgetJudgements 33 = .ok (.goto (-31), 3) := by decide +kernel
theorem dX4_forgetJudgements_36 : decode cX4_forgetJudgements 36 = .ok (.return_, 1) := by decide +kernel
theorem dX4_init_0 : decode cX4_init 0 = .ok (.aload_n 0, 1) := by decide +kernel
theorem dX4_init_1 : decode cX4_init 1 = .ok (.invokespecial 3, 3) := by decide +kernel
theorem dX4_init_4 : decode cX4_init 4 = .ok (.aload_n 0, 1) := by decide +kernel
theorem dX4_init_5 : decode cX4_init 5 = .ok (.bipush 8, 2) := by decide +kernel
theorem dX4_init_7 : decode cX4_init 7 = .ok (.anewarray 9, 3) := by decide +kernel
theorem dX4_init_10 : decode cX4_init 10 = .ok (.putfield 11, 3) := by decide +kernel
theorem dX4_init_13 : decode cX4_init 13 = .ok (.aload_n 0, 1) := by decide +kernel
theorem dX4_init_14 : decode cX4_init 14 = .ok (.iconst 0, 1) := by decide +kernel
theorem dX4_init_15 : decode cX4_init 15 = .ok (.putfield 17, 3) := by decide +kernel
theorem dX4_init_18 : decode cX4_init 18 = .ok (.aload_n 0, 1) := by decide +kernel
theorem dX4_init_19 : decode cX4_init 19 = .ok (.bipush 40, 2) := by decide +kernel
theorem dX4_init_21 : decode cX4_init 21 = .ok (.newarray .long, 2) := by decide +kernel
theorem dX4_init_23 : decode cX4_init 23 = .ok (.putfield 21, 3) := by decide +kernel
theorem dX4_init_26 : decode cX4_init 26 = .ok (.aload_n 0, 1) := by decide +kernel
theorem dX4_init_27 : decode cX4_init 27 = .ok (.iconst 0, 1) := by decide +kernel
theorem dX4_init_28 : decode cX4_init 28 = .ok (.putfield 25, 3) := by decide +kernel
theorem dX4_init_31 : decode cX4_init 31 = .ok (.aload_n 0, 1) := by decide +kernel
theorem dX4_init_32 : decode cX4_init 32 = .ok (.bipush 8, 2) := by decide +kernel
theorem dX4_init_34 : decode cX4_init 34 = .ok (.anewarray 28, 3) := by decide +kernel
theorem dX4_init_37 : decode cX4_init 37 = .ok (.putfield 30, 3) := by decide +kernel
theorem dX4_init_40 : decode cX4_init 40 = .ok (.aload_n 0, 1) := by decide +kernel
theorem dX4_init_41 : decode cX4_init 41 = .ok (.iconst 0, 1) := by decide +kernel
theorem dX4_init_42 : decode cX4_init 42 = .ok (.putfield 34, 3) := by decide +kernel
theorem dX4_init_45 : decode cX4_init 45 = .ok (.return_, 1) := by decide +kernel
theorem dX4_readConstant_0 : decode cX4_readConstant 0 = .ok (.iload_n 1, 1) := by decide +kernel
theorem dX4_readConstant_1 : decode cX4_readConstant 1 = .ok (.aload_n 0, 1) := by decide +kernel
theorem dX4_readConstant_2 : decode cX4_readConstant 2 = .ok (.getfield 25, 3) := by decide +kernel
theorem dX4_readConstant_5 : decode cX4_readConstant 5 = .ok (.invokestatic 37, 3) := by decide +kernel
theorem dX4_readConstant_8 : decode cX4_readConstant 8 = .ok (.ifCond .eq 12, 3) := by decide +kernel
theorem dX4_readConstant_11 : decode cX4_readConstant 11 = .ok (.aload_n 0, 1) := by decide +kernel
theorem dX4_readConstant_12 : decode cX4_readConstant 12 = .ok (.getfield 21, 3) := by decide +kernel
theorem dX4_readConstant_15 : decode cX4_readConstant 15 = .ok (.iload_n 1, 1) := by decide +kernel
theorem dX4_readConstant_16 : decode cX4_readConstant 16 = .ok (.laload, 1) := by decide +kernel
theorem dX4_readConstant_17 : decode cX4_readConstant 17 = .ok (.goto 4, 3) := by decide +kernel
theorem dX4_readConstant_20 : decode cX4_readConstant 20 = .ok (.lconst 0, 1) := by decide +kernel
theorem dX4_readConstant_21 : decode cX4_readConstant 21 = .ok (.lreturn, 1) := by decide +kernel
theorem dX6_tell_0 : decode cX6_tell 0 = .ok (.aload_n 0, 1) := by decide +kernel
theorem dX6_tell_1 : decode cX6_tell 1 = .ok (.getfield 9, 3) := by decide +kernel
theorem dX6_tell_4 : decode cX6_tell 4 = .ok (.iload_n 1, 1) := by decide +kernel
theorem dX6_tell_5 : decode cX6_tell 5 = .ok (.iaload, 1) := by decide +kernel
theorem dX6_tell_6 : decode cX6_tell 6 = .ok (.iconst (-1), 1) := by decide +kernel
theorem dX6_tell_7 : decode cX6_tell 7 = .ok (.if_icmp .eq 13, 3) := by decide +kernel
theorem dX6_tell_10 : decode cX6_tell 10 = .ok (.iload_n 2, 1) := by decide +kernel
theorem dX6_tell_11 : decode cX6_tell 11 = .ok (.aload_n 0, 1) := by decide +kernel
theorem dX6_tell_12 : decode cX6_tell 12 = .ok (.getfield 9, 3) := by decide +kernel
theorem dX6_tell_15 : decode cX6_tell 15 = .ok (.iload_n 1, 1) := by decide +kernel
theorem dX6_tell_16 : decode cX6_tell 16 = .ok (.iaload, 1) := by decide +kernel
theorem dX6_tell_17 : decode cX6_tell 17 = .ok (.if_icmp .lt 5, 3) := by decide +kernel
theorem dX6_tell_20 : decode cX6_tell 20 = .ok (.iconst (-1), 1) := by decide +kernel
theorem dX6_tell_21 : decode cX6_tell 21 = .ok (.ireturn, 1) := by decide +kernel
theorem dX6_tell_22 : decode cX6_tell 22 = .ok (.iload_n 2, 1) := by decide +kernel
theorem dX6_tell_23 : decode cX6_tell 23 = .ok (.iconst (-1), 1) := by decide +kernel
theorem dX6_tell_24 : decode cX6_tell 24 = .ok (.if_icmp .ne 10, 3) := by decide +kernel
theorem dX6_tell_27 : decode cX6_tell 27 = .ok (.aload_n 0, 1) := by decide +kernel
theorem dX6_tell_28 : decode cX6_tell 28 = .ok (.getfield 9, 3) := by decide +kernel
theorem dX6_tell_31 : decode cX6_tell 31 = .ok (.iload_n 1, 1) := by decide +kernel
theorem dX6_tell_32 : decode cX6_tell 32 = .ok (.iaload, 1) := by decide +kernel
theorem dX6_tell_33 : decode cX6_tell 33 = .ok (.ireturn, 1) := by decide +kernel
theorem dX6_tell_34 : decode cX6_tell 34 = .ok (.iload_n 2, 1) := by decide +kernel
theorem dX6_tell_35 : decode cX6_tell 35 = .ok (.ifCond .lt 17, 3) := by decide +kernel
theorem dX6_tell_38 : decode cX6_tell 38 = .ok (.aload_n 0, 1) := by decide +kernel
theorem dX6_tell_39 : decode cX6_tell 39 = .ok (.getfield 15, 3) := by decide +kernel
theorem dX6_tell_42 : decode cX6_tell 42 = .ok (.iload_n 1, 1) := by decide +kernel
theorem dX6_tell_43 : decode cX6_tell 43 = .ok (.bipush 12, 2) := by decide +kernel
theorem dX6_tell_45 : decode cX6_tell 45 = .ok (.imul, 1) := by decide +kernel
theorem dX6_tell_46 : decode cX6_tell 46 = .ok (.iload_n 2, 1) := by decide +kernel
theorem dX6_tell_47 : decode cX6_tell 47 = .ok (.iadd, 1) := by decide +kernel
theorem dX6_tell_48 : decode cX6_tell 48 = .ok (.laload, 1) := by decide +kernel
theorem dX6_tell_49 : decode cX6_tell 49 = .ok (.goto 16, 3) := by decide +kernel
theorem dX6_tell_52 : decode cX6_tell 52 = .ok (.aload_n 0, 1) := by decide +kernel
theorem dX6_tell_53 : decode cX6_tell 53 = .ok (.getfield 19, 3) := by decide +kernel
theorem dX6_tell_56 : decode cX6_tell 56 = .ok (.iload_n 1, 1) := by decide +kernel
theorem dX6_tell_57 : decode cX6_tell 57 = .ok (.bipush 16, 2) := by decide +kernel
theorem dX6_tell_59 : decode cX6_tell 59 = .ok (.imul, 1) := by decide +kernel
theorem dX6_tell_60 : decode cX6_tell 60 = .ok (.iconst 2, 1) := by decide +kernel
theorem dX6_tell_61 : decode cX6_tell 61 = .ok (.isub, 1) := by decide +kernel
theorem dX6_tell_62 : decode cX6_tell 62 = .ok (.iload_n 2, 1) := by decide +kernel
theorem dX6_tell_63 : decode cX6_tell 63 = .ok (.isub, 1) := by decide +kernel
theorem dX6_tell_64 : decode cX6_tell 64 = .ok (.laload, 1) := by decide +kernel
theorem dX6_tell_65 : decode cX6_tell 65 = .ok (.l2i, 1) := by decide +kernel
theorem dX6_tell_66 : decode cX6_tell 66 = .ok (.ireturn, 1) := by decide +kernel
theorem dX7_addEntry_0 : decode cX7_addEntry 0 = .ok (.aload_n 0, 1) := by decide +kernel
theorem dX7_addEntry_1 : decode cX7_addEntry 1 = .ok (.getfield 9, 3) := by decide +kernel
theorem dX7_addEntry_4 : decode cX7_addEntry 4 = .ok (.aload_n 0, 1) := by decide +kernel
theorem dX7_addEntry_5 : decode cX7_addEntry 5 = .ok (.getfield 18, 3) := by decide +kernel
theorem dX7_addEntry_8 : decode cX7_addEntry 8 = .ok (.iload_n 1, 1) := by decide +kernel
theorem dX7_addEntry_9 : decode cX7_addEntry 9 = .ok (.iastore, 1) := by decide +kernel
theorem dX7_addEntry_10 : decode cX7_addEntry 10 = .ok (.aload_n 0, 1) := by decide +kernel
theorem dX7_addEntry_11 : decode cX7_addEntry 11 = .ok (.getfield 15, 3) := by decide +kernel
theorem dX7_addEntry_14 : decode cX7_addEntry 14 = .ok (.aload_n 0, 1) := by decide +kernel
theorem dX7_addEntry_15 : decode cX7_addEntry 15 = .ok (.getfield 18, 3) := by decide +kernel
theorem dX7_addEntry_18 : decode cX7_addEntry 18 = .ok (.iload_n 2, 1) := by decide +kernel
theorem dX7_addEntry_19 : decode cX7_addEntry 19 = .ok (.iastore, 1) := by decide +kernel
theorem dX7_addEntry_20 : decode cX7_addEntry 20 = .ok (.aload_n 0, 1) := by decide +kernel
theorem dX7_addEntry_21 : decode cX7_addEntry 21 = .ok (.dup, 1) := by decide +kernel
theorem dX7_addEntry_22 : decode cX7_addEntry 22 = .ok (.getfield 18, 3) := by decide +kernel
theorem dX7_addEntry_25 : decode cX7_addEntry 25 = .ok (.iconst 1, 1) := by decide +kernel
theorem dX7_addEntry_26 : decode cX7_addEntry 26 = .ok (.iadd, 1) := by decide +kernel
theorem dX7_addEntry_27 : decode cX7_addEntry 27 = .ok (.putfield 18, 3) := by decide +kernel
theorem dX7_addEntry_30 : decode cX7_addEntry 30 = .ok (.aload_n 0, 1) := by decide +kernel
theorem dX7_addEntry_31 : decode cX7_addEntry 31 = .ok (.getfield 18, 3) := by decide +kernel
theorem dX7_addEntry_34 : decode cX7_addEntry 34 = .ok (.ireturn, 1) := by decide +kernel
theorem dX7_mayFollow_0 : decode cX7_mayFollow 0 = .ok (.aload_n 0, 1) := by decide +kernel
theorem dX7_mayFollow_1 : decode cX7_mayFollow 1 = .ok (.getfield 22, 3) := by decide +kernel
theorem dX7_mayFollow_4 : decode cX7_mayFollow 4 = .ok (.ifCond .eq 31, 3) := by decide +kernel
theorem dX7_mayFollow_7 : decode cX7_mayFollow 7 = .ok (.aload_n 0, 1) := by decide +kernel
theorem dX7_mayFollow_8 : decode cX7_mayFollow 8 = .ok (.getfield 18, 3) := by decide +kernel
theorem dX7_mayFollow_11 : decode cX7_mayFollow 11 = .ok (.ifCond .eq 18, 3) := by decide +kernel
theorem dX7_mayFollow_14 : decode cX7_mayFollow 14 = .ok (.iload_n 1, 1) := by decide +kernel
theorem dX7_mayFollow_15 : decode cX7_mayFollow 15 = .ok (.aload_n 0, 1) := by decide +kernel
theorem dX7_mayFollow_16 : decode cX7_mayFollow 16 = .ok (.getfield 9, 3) := by decide +kernel
theorem dX7_mayFollow_19 : decode cX7_mayFollow 19 = .ok (.aload_n 0, 1) := by decide +kernel
theorem dX7_mayFollow_20 : decode cX7_mayFollow 20 = .ok (.getfield 18, 3) := by decide +kernel
theorem dX7_mayFollow_23 : decode cX7_mayFollow 23 = .ok (.iconst 1, 1) := by decide +kernel
theorem dX7_mayFollow_24 : decode cX7_mayFollow 24 = .ok (.isub, 1) := by decide +kernel
theorem dX7_mayFollow_25 : decode cX7_mayFollow 25 = .ok (.iaload, 1) := by decide +kernel
theorem dX7_mayFollow_26 : decode cX7_mayFollow 26 = .ok (.if_icmp .le 7, 3) := by decide +kernel
theorem dX7_mayFollow_29 : decode cX7_mayFollow 29 = .ok (.iconst 1, 1) := by decide +kernel
theorem dX7_mayFollow_30 : decode cX7_mayFollow 30 = .ok (.goto 4, 3) := by decide +kernel
theorem dX7_mayFollow_33 : decode cX7_mayFollow 33 = .ok (.iconst 0, 1) := by decide +kernel
theorem dX7_mayFollow_34 : decode cX7_mayFollow 34 = .ok (.ireturn, 1) := by decide +kernel
theorem dX7_mayFollow_35 : decode cX7_mayFollow 35 = .ok (.iload_n 1, 1) := by decide +kernel
theorem dX7_mayFollow_36 : decode cX7_mayFollow 36 = .ok (.i2l, 1) := by decide +kernel
theorem dX7_mayFollow_37 : decode cX7_mayFollow 37 = .ok (.aload_n 0, 1) := by decide +kernel
theorem dX7_mayFollow_38 : decode cX7_mayFollow 38 = .ok (.getfield 26, 3) := by decide +kernel
theorem dX7_mayFollow_41 : decode cX7_mayFollow 41 = .ok (.i2l, 1) := by decide +kernel
theorem dX7_mayFollow_42 : decode cX7_mayFollow 42 = .ok (.aload_n 0, 1) := by decide +kernel
theorem dX7_mayFollow_43 : decode cX7_mayFollow 43 = .ok (.getfield 18, 3) := by decide +kernel
theorem dX7_mayFollow_46 : decode cX7_mayFollow 46 = .ok (.i2l, 1) := by decide +kernel
theorem dX7_mayFollow_47 : decode cX7_mayFollow 47 = .ok (.ladd, 1) := by decide +kernel
theorem dX7_mayFollow_48 : decode cX7_mayFollow 48 = .ok (.lcmp, 1) := by decide +kernel
theorem dX7_mayFollow_49 : decode cX7_mayFollow 49 = .ok (.ifCond .ne 7, 3) := by decide +kernel
theorem dX7_mayFollow_52 : decode cX7_mayFollow 52 = .ok (.iconst 1, 1) := by decide +kernel
theorem dX7_mayFollow_53 : decode cX7_mayFollow 53 = .ok (.goto 4, 3) := by decide +kernel
theorem dX7_mayFollow_56 : decode cX7_mayFollow 56 = .ok (.iconst 0, 1) := by decide +kernel
theorem dX7_mayFollow_57 : decode cX7_mayFollow 57 = .ok (.ireturn, 1) := by decide +kernel
theorem dX7_targetFor_0 : decode cX7_targetFor 0 = .ok (.iconst 0, 1) := by decide +kernel
theorem dX7_targetFor_1 : decode cX7_targetFor 1 = .ok (.istore_n 2, 1) := by decide +kernel
theorem dX7_targetFor_2 : decode cX7_targetFor 2 = .ok (.iload_n 2, 1) := by decide +kernel
theorem dX7_targetFor_3 : decode cX7_targetFor 3 = .ok (.aload_n 0, 1) := by decide +kernel
theorem dX7_targetFor_4 : decode cX7_targetFor 4 = .ok (.getfield 18, 3) := by decide +kernel
theorem dX7_targetFor_7 : decode cX7_targetFor 7 = .ok (.if_icmp .ge 26, 3) := by decide +kernel
theorem dX7_targetFor_10 : decode cX7_targetFor 10 = .ok (.aload_n 0, 1) := by decide +kernel
theorem dX7_targetFor_11 : decode cX7_targetFor 11 = .ok (.getfield 9, 3) := by decide +kernel
theorem dX7_targetFor_14 : decode cX7_targetFor 14 = .ok (.iload_n 2, 1) := by decide +kernel
theorem dX7_targetFor_15 : decode cX7_targetFor 15 = .ok (.iaload, 1) := by decide +kernel
theorem dX7_targetFor_16 : decode cX7_targetFor 16 = .ok (.iload_n 1, 1) := by decide +kernel
theorem dX7_targetFor_17 : decode cX7_targetFor 17 = .ok (.if_icmp .ne 10, 3) := by decide +kernel
theorem dX7_targetFor_20 : decode cX7_targetFor 20 = .ok (.aload_n 0, 1) := by decide +kernel
theorem dX7_targetFor_21 : decode cX7_targetFor 21 = .ok (.getfield 15, 3) := by decide +kernel
theorem dX7_targetFor_24 : decode cX7_targetFor 24 = .ok (.iload_n 2, 1) := by decide +kernel
theorem dX7_targetFor_25 : decode cX7_targetFor 25 = .ok (.iaload, 1) := by decide +kernel
theorem dX7_targetFor_26 : decode cX7_targetFor 26 = .ok (.ireturn, 1) := by decide +kernel
theorem dX7_targetFor_27 : decode cX7_targetFor 27 = .ok (.iinc 2 1, 3) := by decide +kernel
theorem dX7_targetFor_30 : decode cX7_targetFor 30 = .ok (.goto (-28), 3) := by decide +kernel
theorem dX7_targetFor_33 : decode cX7_targetFor 33 = .ok (.aload_n 0, 1) := by decide +kernel
theorem dX7_targetFor_34 : decode cX7_targetFor 34 = .ok (.getfield 29, 3) := by decide +kernel
theorem dX7_targetFor_37 : decode cX7_targetFor 37 = .ok (.ireturn, 1) := by decide +kernel
theorem dX8_add_0 : decode cX8_add 0 = .ok (.aload_n 0, 1) := by decide +kernel
theorem dX8_add_1 : decode cX8_add 1 = .ok (.getfield 25, 3) := by decide +kernel
theorem dX8_add_4 : decode cX8_add 4 = .ok (.bipush 60, 2) := by decide +kernel
theorem dX8_add_6 : decode cX8_add 6 = .ok (.if_icmp .ne 5, 3) := by decide +kernel
theorem dX8_add_9 : decode cX8_add 9 = .ok (.iconst (-1), 1) := by decide +kernel
theorem dX8_add_10 : decode cX8_add 10 = .ok (.ireturn, 1) := by decide +kernel
theorem dX8_add_11 : decode cX8_add 11 = .ok (.aload_n 0, 1) := by decide +kernel
theorem dX8_add_12 : decode cX8_add 12 = .ok (.getfield 25, 3) := by decide +kernel
theorem dX8_add_15 : decode cX8_add 15 = .ok (.istore_n 3, 1) := by decide +kernel
theorem dX8_add_16 : decode cX8_add 16 = .ok (.aload_n 0, 1) := by decide +kernel
theorem dX8_add_17 : decode cX8_add 17 = .ok (.dup, 1) := by decide +kernel
theorem dX8_add_18 : decode cX8_add 18 = .ok (.getfield 25, 3) := by decide +kernel
theorem dX8_add_21 : decode cX8_add 21 = .ok (.iconst 1, 1) := by decide +kernel
theorem dX8_add_22 : decode cX8_add 22 = .ok (.iadd, 1) := by decide +kernel
theorem dX8_add_23 : decode cX8_add 23 = .ok (.putfield 25, 3) := by decide +kernel
theorem dX8_add_26 : decode cX8_add 26 = .ok (.aload_n 0, 1) := by decide +kernel
theorem dX8_add_27 : decode cX8_add 27 = .ok (.getfield 9, 3) := by decide +kernel
theorem dX8_add_30 : decode cX8_add 30 = .ok (.iload_n 3, 1) := by decide +kernel
theorem dX8_add_31 : decode cX8_add 31 = .ok (.iload_n 1, 1) := by decide +kernel
theorem dX8_add_32 : decode cX8_add 32 = .ok (.iastore, 1) := by decide +kernel
theorem dX8_add_33 : decode cX8_add 33 = .ok (.aload_n 0, 1) := by decide +kernel
theorem dX8_add_34 : decode cX8_add 34 = .ok (.getfield 15, 3) := by decide +kernel
theorem dX8_add_37 : decode cX8_add 37 = .ok (.iload_n 3, 1) := by decide +kernel
theorem dX8_add_38 : decode cX8_add 38 = .ok (.iload_n 2, 1) := by decide +kernel
theorem dX8_add_39 : decode cX8_add 39 = .ok (.iastore, 1) := by decide +kernel
theorem dX8_add_40 : decode cX8_add 40 = .ok (.aload_n 0, 1) := by decide +kernel
theorem dX8_add_41 : decode cX8_add 41 = .ok (.getfield 18, 3) := by decide +kernel
theorem dX8_add_44 : decode cX8_add 44 = .ok (.iload_n 3, 1) := by decide +kernel
theorem dX8_add_45 : decode cX8_add 45 = .ok (.iconst 0, 1) := by decide +kernel
theorem dX8_add_46 : decode cX8_add 46 = .ok (.iastore, 1) := by decide +kernel
theorem dX8_add_47 : decode cX8_add 47 = .ok (.iload_n 3, 1) := by decide +kernel
theorem dX8_add_48 : decode cX8_add 48 = .ok (.ireturn, 1) := by decide +kernel
theorem dX8_cellSort_0 : decode cX8_cellSort 0 = .ok (.iload_n 0, 1) := by decide +kernel
theorem dX8_cellSort_1 : decode cX8_cellSort 1 = .ok (.bipush 16, 2) := by decide +kernel
theorem dX8_cellSort_3 : decode cX8_cellSort 3 = .ok (.if_icmp .lt 7, 3) := by decide +kernel
theorem dX8_cellSort_6 : decode cX8_cellSort 6 = .ok (.iconst 4, 1) := by decide +kernel
theorem dX8_cellSort_7 : decode cX8_cellSort 7 = .ok (.goto 7, 3) := by decide +kernel
theorem dX8_cellSort_10 : decode cX8_cellSort 10 = .ok (.iload_n 0, 1) := by decide +kernel
theorem dX8_cellSort_11 : decode cX8_cellSort 11 = .ok (.bipush 8, 2) := by decide +kernel
theorem dX8_cellSort_13 : decode cX8_cellSort 13 = .ok (.irem, 1) := by decide +kernel
theorem dX8_cellSort_14 : decode cX8_cellSort 14 = .ok (.ireturn, 1) := by decide +kernel
theorem dX8_clear_0 : decode cX8_clear 0 = .ok (.aload_n 0, 1) := by decide +kernel
theorem dX8_clear_1 : decode cX8_clear 1 = .ok (.iconst 0, 1) := by decide +kernel
theorem dX8_clear_2 : decode cX8_clear 2 = .ok (.putfield 25, 3) := by decide +kernel
theorem dX8_clear_5 : decode cX8_clear 5 = .ok (.return_, 1) := by decide +kernel
theorem dX8_describe_0 : decode cX8_describe 0 = .ok (.iload_n 1, 1) := by decide +kernel
theorem dX8_describe_1 : decode cX8_describe 1 = .ok (.aload_n 0, 1) := by decide +kernel
theorem dX8_describe_2 : decode cX8_describe 2 = .ok (.getfield 25, 3) := by decide +kernel
theorem dX8_describe_5 : decode cX8_describe 5 = .ok (.invokestatic 29, 3) := by decide +kernel
theorem dX8_describe_8 : decode cX8_describe 8 = .ok (.ifCond .ne 6, 3) := by decide +kernel
theorem dX8_describe_11 : decode cX8_describe 11 = .ok (.bipush (-2), 2) := by decide +kernel
theorem dX8_describe_13 : decode cX8_describe 13 = .ok (.ireturn, 1) := by decide +kernel
theorem dX8_describe_14 : decode cX8_describe 14 = .ok (.iload_n 2, 1) := by decide +kernel
theorem dX8_describe_15 : decode cX8_describe 15 = .ok (.tableswitch 46 0 2 #[25, 32, 39], 25) := by decide +kernel
theorem dX8_describe_40 : decode cX8_describe 40 = .ok (.aload_n 0, 1) := by decide +kernel
theorem dX8_describe_41 : decode cX8_describe 41 = .ok (.getfield 9, 3) := by decide +kernel
theorem dX8_describe_44 : decode cX8_describe 44 = .ok (.iload_n 1, 1) := by decide +kernel
theorem dX8_describe_45 : decode cX8_describe 45 = .ok (.iaload, 1) := by decide +kernel
theorem dX8_describe_46 : decode cX8_describe 46 = .ok (.ireturn, 1) := by decide +kernel
theorem dX8_describe_47 : decode cX8_describe 47 = .ok (.aload_n 0, 1) := by decide +kernel
theorem dX8_describe_48 : decode cX8_describe 48 = .ok (.getfield 15, 3) := by decide +kernel
theorem dX8_describe_51 : decode cX8_describe 51 = .ok (.iload_n 1, 1) := by decide +kernel
theorem dX8_describe_52 : decode cX8_describe 52 = .ok (.iaload, 1) := by decide +kernel
theorem dX8_describe_53 : decode cX8_describe 53 = .ok (.ireturn, 1) := by decide +kernel
theorem dX8_describe_54 : decode cX8_describe 54 = .ok (.aload_n 0, 1) := by decide +kernel
theorem dX8_describe_55 : decode cX8_describe 55 = .ok (.getfield 18, 3) := by decide +kernel
theorem dX8_describe_58 : decode cX8_describe 58 = .ok (.iload_n 1, 1) := by decide +kernel
theorem dX8_describe_59 : decode cX8_describe 59 = .ok (.iaload, 1) := by decide +kernel
theorem dX8_describe_60 : decode cX8_describe 60 = .ok (.ireturn, 1) := by decide +kernel
theorem dX8_describe_61 : decode cX8_describe 61 = .ok (.bipush (-2), 2) := by decide +kernel
theorem dX8_describe_63 : decode cX8_describe 63 = .ok (.ireturn, 1) := by decide +kernel
theorem dX8_failureNumber_0 : decode cX8_failureNumber 0 = .ok (.iload_n 1, 1) := by decide +kernel
theorem dX8_failureNumber_1 : decode cX8_failureNumber 1 = .ok (.aload_n 0, 1) := by decide +kernel
theorem dX8_failureNumber_2 : decode cX8_failureNumber 2 = .ok (.getfield 25, 3) := by decide +kernel
theorem dX8_failureNumber_5 : decode cX8_failureNumber 5 = .ok (.invokestatic 29, 3) := by decide +kernel
theorem dX8_failureNumber_8 : decode cX8_failureNumber 8 = .ok (.ifCond .eq 24, 3) := by decide +kernel
theorem dX8_failureNumber_11 : decode cX8_failureNumber 11 = .ok (.aload_n 0, 1) := by decide +kernel
theorem dX8_failureNumber_12 : decode cX8_failureNumber 12 = .ok (.getfield 9, 3) := by decide +kernel
theorem dX8_failureNumber_15 : decode cX8_failureNumber 15 = .ok (.iload_n 1, 1) := by decide +kernel
theorem dX8_failureNumber_16 : decode cX8_failureNumber 16 = .ok (.iaload, 1) := by decide +kernel
theorem dX8_failureNumber_17 : decode cX8_failureNumber 17 = .ok (.ifCond .ge 15, 3) := by decide +kernel
theorem dX8_failureNumber_20 : decode cX8_failureNumber 20 = .ok (.aload_n 0, 1) := by decide +kernel
theorem dX8_failureNumber_21 : decode cX8_failureNumber 21 = .ok (.getfield 9, 3) := by decide +kernel
theorem dX8_failureNumber_24 : decode cX8_failureNumber 24 = .ok (.iload_n 1, 1) := by decide +kernel
theorem dX8_failureNumber_25 : decode cX8_failureNumber 25 = .ok (.iaload, 1) := by decide +kernel
theorem dX8_failureNumber_26 : decode cX8_failureNumber 26 = .ok (.bipush (-100), 2) := by decide +kernel
theorem dX8_failureNumber_28 : decode cX8_failureNumber 28 = .ok (.isub, 1) := by decide +kernel
theorem dX8_failureNumber_29 : decode cX8_failureNumber 29 = .ok (.goto 4, 3) := by decide +kernel
theorem dX8_failureNumber_32 : decode cX8_failureNumber 32 = .ok (.iconst (-1), 1) := by decide +kernel
theorem dX8_failureNumber_33 : decode cX8_failureNumber 33 = .ok (.ireturn, 1) := by decide +kernel
theorem dX8_hasCell_0 : decode cX8_hasCell 0 = .ok (.iload_n 1, 1) := by decide +kernel
theorem dX8_hasCell_1 : decode cX8_hasCell 1 = .ok (.ifCond .lt 29, 3) := by decide +kernel
theorem dX8_hasCell_4 : decode cX8_hasCell 4 = .ok (.iload_n 1, 1) := by decide +kernel
theorem dX8_hasCell_5 : decode cX8_hasCell 5 = .ok (.aload_n 0, 1) := by decide +kernel
theorem dX8_hasCell_6 : decode cX8_hasCell 6 = .ok (.getfield 25, 3) := by decide +kernel
theorem dX8_hasCell_9 : decode cX8_hasCell 9 = .ok (.if_icmp .ge 21, 3) := by decide +kernel
theorem dX8_hasCell_12 : decode cX8_hasCell 12 = .ok (.iload_n 2, 1) := by decide +kernel
theorem dX8_hasCell_13 : decode cX8_hasCell 13 = .ok (.ifCond .lt 17, 3) := by decide +kernel
theorem dX8_hasCell_16 : decode cX8_hasCell 16 = .ok (.iload_n 2, 1) := by decide +kernel
theorem dX8_hasCell_17 : decode cX8_hasCell 17 = .ok (.aload_n 0, 1) := by decide +kernel
theorem dX8_hasCell_18 : decode cX8_hasCell 18 = .ok (.getfield 15, 3) := by decide +kernel
theorem dX8_hasCell_21 : decode cX8_hasCell 21 = .ok (.iload_n 1, 1) := by decide +kernel
theorem dX8_hasCell_22 : decode cX8_hasCell 22 = .ok (.iaload, 1) := by decide +kernel
theorem dX8_hasCell_23 : decode cX8_hasCell 23 = .ok (.if_icmp .ge 7, 3) := by decide +kernel
theorem dX8_hasCell_26 : decode cX8_hasCell 26 = .ok (.iconst 1, 1) := by decide +kernel
theorem dX8_hasCell_27 : decode cX8_hasCell 27 = .ok (.goto 4, 3) := by decide +kernel
theorem dX8_hasCell_30 : decode cX8_hasCell 30 = .ok (.iconst 0, 1) := by decide +kernel
theorem dX8_hasCell_31 : decode cX8_hasCell 31 = .ok (.ireturn, 1) := by decide +kernel
theorem dX8_haveRoom_0 : decode cX8_haveRoom 0 = .ok (.lconst 1, 1) := by decide +kernel
theorem dX8_haveRoom_1 : decode cX8_haveRoom 1 = .ok (.lstore_n 3, 1) := by decide +kernel
theorem dX8_haveRoom_2 : decode cX8_haveRoom 2 = .ok (.aload_n 0, 1) := by decide +kernel
theorem dX8_haveRoom_3 : decode cX8_haveRoom 3 = .ok (.getfield 25, 3) := by decide +kernel
theorem dX8_haveRoom_6 : decode cX8_haveRoom 6 = .ok (.i2l, 1) := by decide +kernel
theorem dX8_haveRoom_7 : decode cX8_haveRoom 7 = .ok (.lstore 5, 2) := by decide +kernel
theorem dX8_haveRoom_9 : decode cX8_haveRoom 9 = .ok (.iconst 0, 1) := by decide +kernel
theorem dX8_haveRoom_10 : decode cX8_haveRoom 10 = .ok (.istore 7, 2) := by decide +kernel
theorem dX8_haveRoom_12 : decode cX8_haveRoom 12 = .ok (.iload 7, 2) := by decide +kernel
theorem dX8_haveRoom_14 : decode cX8_haveRoom 14 = .ok (.iload_n 2, 1) := by decide +kernel
theorem dX8_haveRoom_15 : decode cX8_haveRoom 15 = .ok (.if_icmp .ge 47, 3) := by decide +kernel
theorem dX8_haveRoom_18 : decode cX8_haveRoom 18 = .ok (.iload 7, 2) := by decide +kernel
theorem dX8_haveRoom_20 : decode cX8_haveRoom 20 = .ok (.aload_n 1, 1) := by decide +kernel
theorem dX8_haveRoom_21 : decode cX8_haveRoom 21 = .ok (.arraylength, 1) := by decide +kernel
theorem dX8_haveRoom_22 : decode cX8_haveRoom 22 = .ok (.if_icmp .ge 40, 3) := by decide +kernel
theorem dX8_haveRoom_25 : decode cX8_haveRoom 25 = .ok (.lload_n 3, 1) := by decide +kernel
theorem dX8_haveRoom_26 : decode cX8_haveRoom 26 = .ok (.lconst 0, 1) := by decide +kernel
theorem dX8_haveRoom_27 : decode cX8_haveRoom 27 = .ok (.lcmp, 1) := by decide +kernel
theorem dX8_haveRoom_28 : decode cX8_haveRoom 28 = .ok (.ifCond .le 14, 3) := by decide +kernel
theorem dX8_haveRoom_31 : decode cX8_haveRoom 31 = .ok (.aload_n 1, 1) := by decide +kernel
theorem dX8_haveRoom_32 : decode cX8_haveRoom 32 = .ok (.iload 7, 2) := by decide +kernel
theorem dX8_haveRoom_34 : decode cX8_haveRoom 34 = .ok (.iaload, 1) := by decide +kernel
theorem dX8_haveRoom_35 : decode cX8_haveRoom 35 = .ok (.bipush 100, 2) := by decide +kernel
theorem dX8_haveRoom_37 : decode cX8_haveRoom 37 = .ok (.if_icmp .le 5, 3) := by decide +kernel
theorem dX8_haveRoom_40 : decode cX8_haveRoom 40 = .ok (.iconst 0, 1) := by decide +kernel
theorem dX8_haveRoom_41 : decode cX8_haveRoom 41 = .ok (.ireturn, 1) := by decide +kernel
theorem dX8_haveRoom_42 : decode cX8_haveRoom 42 = .ok (.lload 5, 2) := by decide +kernel
theorem dX8_haveRoom_44 : decode cX8_haveRoom 44 = .ok (.lload_n 3, 1) := by decide +kernel
theorem dX8_haveRoom_45 : decode cX8_haveRoom 45 = .ok (.ladd, 1) := by decide +kernel
theorem dX8_haveRoom_46 : decode cX8_haveRoom 46 = .ok (.lstore 5, 2) := by decide +kernel
theorem dX8_haveRoom_48 : decode cX8_haveRoom 48 = .ok (.lload_n 3, 1) := by decide +kernel
theorem dX8_haveRoom_49 : decode cX8_haveRoom 49 = .ok (.aload_n 1, 1) := by decide +kernel
theorem dX8_haveRoom_50 : decode cX8_haveRoom 50 = .ok (.iload 7, 2) := by decide +kernel
theorem dX8_haveRoom_52 : decode cX8_haveRoom 52 = .ok (.iaload, 1) := by decide +kernel
theorem dX8_haveRoom_53 : decode cX8_haveRoom 53 = .ok (.i2l, 1) := by decide +kernel
theorem dX8_haveRoom_54 : decode cX8_haveRoom 54 = .ok (.lmul, 1) := by decide +kernel
theorem dX8_haveRoom_55 : decode cX8_haveRoom 55 = .ok (.lstore_n 3, 1) := by decide +kernel
theorem dX8_haveRoom_56 : decode cX8_haveRoom 56 = .ok (.iinc 7 1, 3) := by decide +kernel
theorem dX8_haveRoom_59 : decode cX8_haveRoom 59 = .ok (.goto (-47), 3) := by decide +kernel
theorem dX8_haveRoom_62 : decode cX8_haveRoom 62 = .ok (.lload 5, 2) := by decide +kernel
theorem dX8_haveRoom_64 : decode cX8_haveRoom 64 = .ok (.ldc2_w 51, 3) := by decide +kernel
theorem dX8_haveRoom_67 : decode cX8_haveRoom 67 = .ok (.lcmp, 1) := by decide +kernel
theorem dX8_haveRoom_68 : decode cX8_haveRoom 68 = .ok (.ifCond .gt 7, 3) := by decide +kernel
theorem dX8_haveRoom_71 : decode cX8_haveRoom 71 = .ok (.iconst 1, 1) := by decide +kernel
theorem dX8_haveRoom_72 : decode cX8_haveRoom 72 = .ok (.goto 4, 3) := by decide +kernel
theorem dX8_haveRoom_75 : decode cX8_haveRoom 75 = .ok (.iconst 0, 1) := by decide +kernel
theorem dX8_haveRoom_76 : decode cX8_haveRoom 76 = .ok (.ireturn, 1) := by decide +kernel
theorem dX8_init_0 : decode cX8_init 0 = .ok (.aload_n 0, 1) := by decide +kernel
theorem dX8_init_1 : decode cX8_init 1 = .ok (.invokespecial 3, 3) := by decide +kernel
theorem dX8_init_4 : decode cX8_init 4 = .ok (.aload_n 0, 1) := by decide +kernel
theorem dX8_init_5 : decode cX8_init 5 = .ok (.bipush 60, 2) := by decide +kernel
theorem dX8_init_7 : decode cX8_init 7 = .ok (.newarray .int, 2) := by decide +kernel
theorem dX8_init_9 : decode cX8_init 9 = .ok (.putfield 9, 3) := by decide +kernel
theorem dX8_init_12 : decode cX8_init 12 = .ok (.aload_n 0, 1) := by decide +kernel
theorem dX8_init_13 : decode cX8_init 13 = .ok (.bipush 60, 2) := by decide +kernel
theorem dX8_init_15 : decode cX8_init 15 = .ok (.newarray .int, 2) := by decide +kernel
theorem dX8_init_17 : decode cX8_init 17 = .ok (.putfield 15, 3) := by decide +kernel
theorem dX8_init_20 : decode cX8_init 20 = .ok (.aload_n 0, 1) := by decide +kernel
theorem dX8_init_21 : decode cX8_init 21 = .ok (.bipush 60, 2) := by decide +kernel
theorem dX8_init_23 : decode cX8_init 23 = .ok (.newarray .int, 2) := by decide +kernel
theorem dX8_init_25 : decode cX8_init 25 = .ok (.putfield 18, 3) := by decide +kernel
theorem dX8_init_28 : decode cX8_init 28 = .ok (.aload_n 0, 1) := by decide +kernel
theorem dX8_init_29 : decode cX8_init 29 = .ok (.sipush 6000, 3) := by decide +kernel
theorem dX8_init_32 : decode cX8_init 32 = .ok (.newarray .long, 2) := by decide +kernel
theorem dX8_init_34 : decode cX8_init 34 = .ok (.putfield 21, 3) := by decide +kernel
theorem dX8_init_37 : decode cX8_init 37 = .ok (.aload_n 0, 1) := by decide +kernel
theorem dX8_init_38 : decode cX8_init 38 = .ok (.iconst 0, 1) := by decide +kernel
theorem dX8_init_39 : decode cX8_init 39 = .ok (.putfield 25, 3) := by decide +kernel
theorem dX8_init_42 : decode cX8_init 42 = .ok (.return_, 1) := by decide +kernel
theorem dX8_isArray_0 : decode cX8_isArray 0 = .ok (.iload_n 1, 1) := by decide +kernel
theorem dX8_isArray_1 : decode cX8_isArray 1 = .ok (.aload_n 0, 1) := by decide +kernel
theorem dX8_isArray_2 : decode cX8_isArray 2 = .ok (.getfield 25, 3) := by decide +kernel
theorem dX8_isArray_5 : decode cX8_isArray 5 = .ok (.invokestatic 29, 3) := by decide +kernel
theorem dX8_isArray_8 : decode cX8_isArray 8 = .ok (.ifCond .eq 16, 3) := by decide +kernel
theorem dX8_isArray_11 : decode cX8_isArray 11 = .ok (.aload_n 0, 1) := by decide +kernel
theorem dX8_isArray_12 : decode cX8_isArray 12 = .ok (.getfield 9, 3) := by decide +kernel
theorem dX8_isArray_15 : decode cX8_isArray 15 = .ok (.iload_n 1, 1) := by decide +kernel
theorem dX8_isArray_16 : decode cX8_isArray 16 = .ok (.iaload, 1) := by decide +kernel
theorem dX8_isArray_17 : decode cX8_isArray 17 = .ok (.ifCond .lt 7, 3) := by decide +kernel
theorem dX8_isArray_20 : decode cX8_isArray 20 = .ok (.iconst 1, 1) := by decide +kernel
theorem dX8_isArray_21 : decode cX8_isArray 21 = .ok (.goto 4, 3) := by decide +kernel
theorem dX8_isArray_24 : decode cX8_isArray 24 = .ok (.iconst 0, 1) := by decide +kernel
theorem dX8_isArray_25 : decode cX8_isArray 25 = .ok (.ireturn, 1) := by decide +kernel
theorem dX8_isOfType_0 : decode cX8_isOfType 0 = .ok (.iload_n 1, 1) := by decide +kernel
theorem dX8_isOfType_1 : decode cX8_isOfType 1 = .ok (.aload_n 0, 1) := by decide +kernel
theorem dX8_isOfType_2 : decode cX8_isOfType 2 = .ok (.getfield 25, 3) := by decide +kernel
theorem dX8_isOfType_5 : decode cX8_isOfType 5 = .ok (.invokestatic 29, 3) := by decide +kernel
theorem dX8_isOfType_8 : decode cX8_isOfType 8 = .ok (.ifCond .eq 17, 3) := by decide +kernel
theorem dX8_isOfType_11 : decode cX8_isOfType 11 = .ok (.aload_n 0, 1) := by decide +kernel
theorem dX8_isOfType_12 : decode cX8_isOfType 12 = .ok (.getfield 9, 3) := by decide +kernel
theorem dX8_isOfType_15 : decode cX8_isOfType 15 = .ok (.iload_n 1, 1) := by decide +kernel
theorem dX8_isOfType_16 : decode cX8_isOfType 16 = .ok (.iaload, 1) := by decide +kernel
theorem dX8_isOfType_17 : decode cX8_isOfType 17 = .ok (.iload_n 2, 1) := by decide +kernel
theorem dX8_isOfType_18 : decode cX8_isOfType 18 = .ok (.if_icmp .ne 7, 3) := by decide +kernel
theorem dX8_isOfType_21 : decode cX8_isOfType 21 = .ok (.iconst 1, 1) := by decide +kernel
theorem dX8_isOfType_22 : decode cX8_isOfType 22 = .ok (.goto 4, 3) := by decide +kernel
theorem dX8_isOfType_25 : decode cX8_isOfType 25 = .ok (.iconst 0, 1) := by decide +kernel
theorem dX8_isOfType_26 : decode cX8_isOfType 26 = .ok (.ireturn, 1) := by decide +kernel
theorem dX8_makeFailure_0 : decode cX8_makeFailure 0 = .ok (.aload_n 0, 1) := by decide +kernel
theorem dX8_makeFailure_1 : decode cX8_makeFailure 1 = .ok (.bipush (-100), 2) := by decide +kernel
theorem dX8_makeFailure_3 : decode cX8_makeFailure 3 = .ok (.iload_n 1, 1) := by decide +kernel
theorem dX8_makeFailure_4 : decode cX8_makeFailure 4 = .ok (.iadd, 1) := by decide +kernel
theorem dX8_makeFailure_5 : decode cX8_makeFailure 5 = .ok (.iconst 0, 1) := by decide +kernel
theorem dX8_makeFailure_6 : decode cX8_makeFailure 6 = .ok (.invokevirtual 47, 3) := by decide +kernel
theorem dX8_makeFailure_9 : decode cX8_makeFailure 9 = .ok (.ireturn, 1) := by decide +kernel
theorem dX8_write_0 : decode cX8_write 0 = .ok (.aload_n 0, 1) := by decide +kernel
theorem dX8_write_1 : decode cX8_write 1 = .ok (.iload_n 1, 1) := by decide +kernel
theorem dX8_write_2 : decode cX8_write 2 = .ok (.iload_n 2, 1) := by decide +kernel
theorem dX8_write_3 : decode cX8_write 3 = .ok (.invokevirtual 33, 3) := by decide +kernel
theorem dX8_write_6 : decode cX8_write 6 = .ok (.ifCond .eq 15, 3) := by decide +kernel
theorem dX8_write_9 : decode cX8_write 9 = .ok (.aload_n 0, 1) := by decide +kernel
theorem dX8_write_10 : decode cX8_write 10 = .ok (.getfield 21, 3) := by decide +kernel
theorem dX8_write_13 : decode cX8_write 13 = .ok (.iload_n 1, 1) := by decide +kernel
theorem dX8_write_14 : decode cX8_write 14 = .ok (.bipush 100, 2) := by decide +kernel
theorem dX8_write_16 : decode cX8_write 16 = .ok (.imul, 1) := by decide +kernel
theorem dX8_write_17 : decode cX8_write 17 = .ok (.iload_n 2, 1) := by decide +kernel
theorem dX8_write_18 : decode cX8_write 18 = .ok (.iadd, 1) := by decide +kernel
theorem dX8_write_19 : decode cX8_write 19 = .ok (.lload_n 3, 1) := by decide +kernel
theorem dX8_write_20 : decode cX8_write 20 = .ok (.lastore, 1) := by decide +kernel
theorem dX8_write_21 : decode cX8_write 21 = .ok (.return_, 1) := by decide +kernel
theorem dX8_makeRow_0 : decode cX8_makeRow 0 = .ok (.iload_n 3, 1) := by decide +kernel
theorem dX8_makeRow_1 : decode cX8_makeRow 1 = .ok (.iload 4, 2) := by decide +kernel
theorem dX8_makeRow_3 : decode cX8_makeRow 3 = .ok (.if_icmp .ge 9, 3) := by decide +kernel
theorem dX8_makeRow_6 : decode cX8_makeRow 6 = .ok (.iload_n 3, 1) := by decide +kernel
theorem dX8_makeRow_7 : decode cX8_makeRow 7 = .ok (.aload_n 2, 1) := by decide +kernel
theorem dX8_makeRow_8 : decode cX8_makeRow 8 = .ok (.arraylength, 1) := by decide +kernel
theorem dX8_makeRow_9 : decode cX8_makeRow 9 = .ok (.if_icmp .lt 5, 3) := by decide +kernel
theorem dX8_makeRow_12 : decode cX8_makeRow 12 = .ok (.iconst (-1), 1) := by decide +kernel
theorem dX8_makeRow_13 : decode cX8_makeRow 13 = .ok (.ireturn, 1) := by decide +kernel
theorem dX8_makeRow_14 : decode cX8_makeRow 14 = .ok (.aload_n 0, 1) := by decide +kernel
theorem dX8_makeRow_15 : decode cX8_makeRow 15 = .ok (.iload_n 1, 1) := by decide +kernel
theorem dX8_makeRow_16 : decode cX8_makeRow 16 = .ok (.aload_n 2, 1) := by decide +kernel
theorem dX8_makeRow_17 : decode cX8_makeRow 17 = .ok (.iload_n 3, 1) := by decide +kernel
theorem dX8_makeRow_18 : decode cX8_makeRow 18 = .ok (.iaload, 1) := by decide +kernel
theorem dX8_makeRow_19 : decode cX8_makeRow 19 = .ok (.invokevirtual 47, 3) := by decide +kernel
theorem dX8_makeRow_22 : decode cX8_makeRow 22 = .ok (.istore 5, 2) := by decide +kernel
theorem dX8_makeRow_24 : decode cX8_makeRow 24 = .ok (.iload_n 1, 1) := by decide +kernel
theorem dX8_makeRow_25 : decode cX8_makeRow 25 = .ok (.invokestatic 40, 3) := by decide +kernel
theorem dX8_makeRow_28 : decode cX8_makeRow 28 = .ok (.iconst 4, 1) := by decide +kernel
theorem dX8_makeRow_29 : decode cX8_makeRow 29 = .ok (.if_icmp .ne 7, 3) := by decide +kernel
theorem dX8_makeRow_32 : decode cX8_makeRow 32 = .ok (.iconst 1, 1) := by decide +kernel
theorem dX8_makeRow_33 : decode cX8_makeRow 33 = .ok (.goto 4, 3) := by decide +kernel
theorem dX8_makeRow_36 : decode cX8_makeRow 36 = .ok (.iconst 0, 1) := by decide +kernel
theorem dX8_makeRow_37 : decode cX8_makeRow 37 = .ok (.istore 6, 2) := by decide +kernel
theorem dX8_makeRow_39 : decode cX8_makeRow 39 = .ok (.iconst 0, 1) := by decide +kernel
theorem dX8_makeRow_40 : decode cX8_makeRow 40 = .ok (.istore 7, 2) := by decide +kernel
theorem dX8_makeRow_42 : decode cX8_makeRow 42 = .ok (.iload 7, 2) := by decide +kernel
theorem dX8_makeRow_44 : decode cX8_makeRow 44 = .ok (.aload_n 2, 1) := by decide +kernel
theorem dX8_makeRow_45 : decode cX8_makeRow 45 = .ok (.iload_n 3, 1) := by decide +kernel
theorem dX8_makeRow_46 : decode cX8_makeRow 46 = .ok (.iaload, 1) := by decide +kernel
theorem dX8_makeRow_47 : decode cX8_makeRow 47 = .ok (.if_icmp .ge 41, 3) := by decide +kernel
theorem dX8_makeRow_50 : decode cX8_makeRow 50 = .ok (.aload_n 0, 1) := by decide +kernel
theorem dX8_makeRow_51 : decode cX8_makeRow 51 = .ok (.iload 5, 2) := by decide +kernel
theorem dX8_makeRow_53 : decode cX8_makeRow 53 = .ok (.iload 7, 2) := by decide +kernel
theorem dX8_makeRow_55 : decode cX8_makeRow 55 = .ok (.iload 6, 2) := by decide +kernel
theorem dX8_makeRow_57 : decode cX8_makeRow 57 = .ok (.ifCond .eq 21, 3) := by decide +kernel
theorem dX8_makeRow_60 : decode cX8_makeRow 60 = .ok (.aload_n 0, 1) := by decide +kernel
theorem dX8_makeRow_61 : decode cX8_makeRow 61 = .ok (.iload_n 1, 1) := by decide +kernel
theorem dX8_makeRow_62 : decode cX8_makeRow 62 = .ok (.bipush 8, 2) := by decide +kernel
theorem dX8_makeRow_64 : decode cX8_makeRow 64 = .ok (.isub, 1) := by decide +kernel
theorem dX8_makeRow_65 : decode cX8_makeRow 65 = .ok (.aload_n 2, 1) := by decide +kernel
theorem dX8_makeRow_66 : decode cX8_makeRow 66 = .ok (.iload_n 3, 1) := by decide +kernel
theorem dX8_makeRow_67 : decode cX8_makeRow 67 = .ok (.iconst 1, 1) := by decide +kernel
theorem dX8_makeRow_68 : decode cX8_makeRow 68 = .ok (.iadd, 1) := by decide +kernel
theorem dX8_makeRow_69 : decode cX8_makeRow 69 = .ok (.iload 4, 2) := by decide +kernel
theorem dX8_makeRow_71 : decode cX8_makeRow 71 = .ok (.invokestatic 53, 3) := by decide +kernel
theorem dX8_makeRow_74 : decode cX8_makeRow 74 = .ok (.i2l, 1) := by decide +kernel
theorem dX8_makeRow_75 : decode cX8_makeRow 75 = .ok (.goto 4, 3) := by decide +kernel
theorem dX8_makeRow_78 : decode cX8_makeRow 78 = .ok (.lconst 0, 1) := by decide +kernel
theorem dX8_makeRow_79 : decode cX8_makeRow 79 = .ok (.invokevirtual 57, 3) := by decide +kernel
theorem dX8_makeRow_82 : decode cX8_makeRow 82 = .ok (.iinc 7 1, 3) := by decide +kernel
theorem dX8_makeRow_85 : decode cX8_makeRow 85 = .ok (.goto (-43), 3) := by decide +kernel
theorem dX8_makeRow_88 : decode cX8_makeRow 88 = .ok (.iload 5, 2) := by decide +kernel
theorem dX8_makeRow_90 : decode cX8_makeRow 90 = .ok (.ireturn, 1) := by decide +kernel
