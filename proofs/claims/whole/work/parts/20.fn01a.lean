theorem dX10_clear_0 : decode cX10_clear 0 = .ok (.aload_n 0, 1) := by decide +kernel
theorem dX10_clear_1 : decode cX10_clear 1 = .ok (.iconst 0, 1) := by decide +kernel
theorem dX10_clear_2 : decode cX10_clear 2 = .ok (.putfield 15, 3) := by decide +kernel
theorem dX10_clear_5 : decode cX10_clear 5 = .ok (.return_, 1) := by decide +kernel
theorem dX0_begin_0 : decode cX0_begin 0 = .ok (.aload_n 0, 1) := by decide +kernel
theorem dX0_begin_1 : decode cX0_begin 1 = .ok (.iload_n 1, 1) := by decide +kernel
theorem dX0_begin_2 : decode cX0_begin 2 = .ok (.putfield 9, 3) := by decide +kernel
theorem dX0_begin_5 : decode cX0_begin 5 = .ok (.aload_n 0, 1) := by decide +kernel
theorem dX0_begin_6 : decode cX0_begin 6 = .ok (.aload_n 2, 1) := by decide +kernel
theorem dX0_begin_7 : decode cX0_begin 7 = .ok (.putfield 15, 3) := by decide +kernel
theorem dX0_begin_10 : decode cX0_begin 10 = .ok (.aload_n 0, 1) := by decide +kernel
theorem dX0_begin_11 : decode cX0_begin 11 = .ok (.iconst 0, 1) := by decide +kernel
theorem dX0_begin_12 : decode cX0_begin 12 = .ok (.putfield 19, 3) := by decide +kernel
theorem dX0_begin_15 : decode cX0_begin 15 = .ok (.aload_n 0, 1) := by decide +kernel
theorem dX0_begin_16 : decode cX0_begin 16 = .ok (.getfield 28, 3) := by decide +kernel
theorem dX0_begin_19 : decode cX0_begin 19 = .ok (.invokevirtual 43, 3) := by decide +kernel
theorem dX0_begin_22 : decode cX0_begin 22 = .ok (.aload_n 0, 1) := by decide +kernel
theorem dX0_begin_23 : decode cX0_begin 23 = .ok (.iconst 0, 1) := by decide +kernel
theorem dX0_begin_24 : decode cX0_begin 24 = .ok (.putfield 40, 3) := by decide +kernel
theorem dX0_begin_27 : decode cX0_begin 27 = .ok (.iconst 0, 1) := by decide +kernel
theorem dX0_begin_28 : decode cX0_begin 28 = .ok (.istore_n 3, 1) := by decide +kernel
theorem dX0_begin_29 : decode cX0_begin 29 = .ok (.iload_n 3, 1) := by decide +kernel
theorem dX0_begin_30 : decode cX0_begin 30 = .ok (.bipush 60, 2) := by decide +kernel
theorem dX0_begin_32 : decode cX0_begin 32 = .ok (.if_icmp .ge 16, 3) := by decide +kernel
theorem dX0_begin_35 : decode cX0_begin 35 = .ok (.aload_n 0, 1) := by decide +kernel
theorem dX0_begin_36 : decode cX0_begin 36 = .ok (.getfield 36, 3) := by decide +kernel
theorem dX0_begin_39 : decode cX0_begin 39 = .ok (.iload_n 3, 1) := by decide +kernel
theorem dX0_begin_40 : decode cX0_begin 40 = .ok (.iconst 0, 1) := by decide +kernel
theorem dX0_begin_41 : decode cX0_begin 41 = .ok (.iastore, 1) := by decide +kernel
theorem dX0_begin_42 : decode cX0_begin 42 = .ok (.iinc 3 1, 3) := by decide +kernel
theorem dX0_begin_45 : decode cX0_begin 45 = .ok (.goto (-16), 3) := by decide +kernel
theorem dX0_begin_48 : decode cX0_begin 48 = .ok (.return_, 1) := by decide +kernel
theorem dX10_init_0 : decode cX10_init 0 = .ok (.aload_n 0, 1) := by decide +kernel
theorem dX10_init_1 : decode cX10_init 1 = .ok (.invokespecial 3, 3) := by decide +kernel
theorem dX10_init_4 : decode cX10_init 4 = .ok (.aload_n 0, 1) := by decide +kernel
theorem dX10_init_5 : decode cX10_init 5 = .ok (.bipush 14, 2) := by decide +kernel
theorem dX10_init_7 : decode cX10_init 7 = .ok (.newarray .long, 2) := by decide +kernel
theorem dX10_init_9 : decode cX10_init 9 = .ok (.putfield 9, 3) := by decide +kernel
theorem dX10_init_12 : decode cX10_init 12 = .ok (.aload_n 0, 1) := by decide +kernel
theorem dX10_init_13 : decode cX10_init 13 = .ok (.iconst 0, 1) := by decide +kernel
theorem dX10_init_14 : decode cX10_init 14 = .ok (.putfield 15, 3) := by decide +kernel
theorem dX10_init_17 : decode cX10_init 17 = .ok (.return_, 1) := by decide +kernel
theorem dX0_init_0 : decode cX0_init 0 = .ok (.aload_n 0, 1) := by decide +kernel
theorem dX0_init_1 : decode cX0_init 1 = .ok (.invokespecial 3, 3) := by decide +kernel
theorem dX0_init_4 : decode cX0_init 4 = .ok (.aload_n 0, 1) := by decide +kernel
theorem dX0_init_5 : decode cX0_init 5 = .ok (.iconst (-1), 1) := by decide +kernel
theorem dX0_init_6 : decode cX0_init 6 = .ok (.putfield 9, 3) := by decide +kernel
theorem dX0_init_9 : decode cX0_init 9 = .ok (.aload_n 0, 1) := by decide +kernel
theorem dX0_init_10 : decode cX0_init 10 = .ok (.aconst_null, 1) := by decide +kernel
theorem dX0_init_11 : decode cX0_init 11 = .ok (.putfield 15, 3) := by decide +kernel
theorem dX0_init_14 : decode cX0_init 14 = .ok (.aload_n 0, 1) := by decide +kernel
theorem dX0_init_15 : decode cX0_init 15 = .ok (.iconst 0, 1) := by decide +kernel
theorem dX0_init_16 : decode cX0_init 16 = .ok (.putfield 19, 3) := by decide +kernel
theorem dX0_init_19 : decode cX0_init 19 = .ok (.aload_n 0, 1) := by decide +kernel
theorem dX0_init_20 : decode cX0_init 20 = .ok (.iconst 0, 1) := by decide +kernel
theorem dX0_init_21 : decode cX0_init 21 = .ok (.putfield 22, 3) := by decide +kernel
theorem dX0_init_24 : decode cX0_init 24 = .ok (.aload_n 0, 1) := by decide +kernel
theorem dX0_init_25 : decode cX0_init 25 = .ok (.new 25, 3) := by decide +kernel
theorem dX0_init_28 : decode cX0_init 28 = .ok (.dup, 1) := by decide +kernel
theorem dX0_init_29 : decode cX0_init 29 = .ok (.invokespecial 27, 3) := by decide +kernel
theorem dX0_init_32 : decode cX0_init 32 = .ok (.putfield 28, 3) := by decide +kernel
theorem dX0_init_35 : decode cX0_init 35 = .ok (.aload_n 0, 1) := by decide +kernel
theorem dX0_init_36 : decode cX0_init 36 = .ok (.bipush 16, 2) := by decide +kernel
theorem dX0_init_38 : decode cX0_init 38 = .ok (.newarray .long, 2) := by decide +kernel
theorem dX0_init_40 : decode cX0_init 40 = .ok (.putfield 32, 3) := by decide +kernel
theorem dX0_init_43 : decode cX0_init 43 = .ok (.aload_n 0, 1) := by decide +kernel
theorem dX0_init_44 : decode cX0_init 44 = .ok (.bipush 60, 2) := by decide +kernel
theorem dX0_init_46 : decode cX0_init 46 = .ok (.newarray .int, 2) := by decide +kernel
theorem dX0_init_48 : decode cX0_init 48 = .ok (.putfield 36, 3) := by decide +kernel
theorem dX0_init_51 : decode cX0_init 51 = .ok (.aload_n 0, 1) := by decide +kernel
theorem dX0_init_52 : decode cX0_init 52 = .ok (.iconst 0, 1) := by decide +kernel
theorem dX0_init_53 : decode cX0_init 53 = .ok (.putfield 40, 3) := by decide +kernel
theorem dX0_init_56 : decode cX0_init 56 = .ok (.return_, 1) := by decide +kernel
theorem dX11_within_0 : decode cX11_within 0 = .ok (.iload_n 0, 1) := by decide +kernel
theorem dX11_within_1 : decode cX11_within 1 = .ok (.ifCond .lt 12, 3) := by decide +kernel
theorem dX11_within_4 : decode cX11_within 4 = .ok (.iload_n 0, 1) := by decide +kernel
theorem dX11_within_5 : decode cX11_within 5 = .ok (.iload_n 1, 1) := by decide +kernel
theorem dX11_within_6 : decode cX11_within 6 = .ok (.if_icmp .ge 7, 3) := by decide +kernel
theorem dX11_within_9 : decode cX11_within 9 = .ok (.iconst 1, 1) := by decide +kernel
theorem dX11_within_10 : decode cX11_within 10 = .ok (.goto 4, 3) := by decide +kernel
theorem dX11_within_13 : decode cX11_within 13 = .ok (.iconst 0, 1) := by decide +kernel
theorem dX11_within_14 : decode cX11_within 14 = .ok (.ireturn, 1) := by decide +kernel
theorem dX0_readLocal_0 : decode cX0_readLocal 0 = .ok (.iload_n 1, 1) := by decide +kernel
theorem dX0_readLocal_1 : decode cX0_readLocal 1 = .ok (.bipush 16, 2) := by decide +kernel
theorem dX0_readLocal_3 : decode cX0_readLocal 3 = .ok (.invokestatic 46, 3) := by decide +kernel
theorem dX0_readLocal_6 : decode cX0_readLocal 6 = .ok (.ifCond .eq 12, 3) := by decide +kernel
theorem dX0_readLocal_9 : decode cX0_readLocal 9 = .ok (.aload_n 0, 1) := by decide +kernel
theorem dX0_readLocal_10 : decode cX0_readLocal 10 = .ok (.getfield 32, 3) := by decide +kernel
theorem dX0_readLocal_13 : decode cX0_readLocal 13 = .ok (.iload_n 1, 1) := by decide +kernel
theorem dX0_readLocal_14 : decode cX0_readLocal 14 = .ok (.laload, 1) := by decide +kernel
theorem dX0_readLocal_15 : decode cX0_readLocal 15 = .ok (.goto 4, 3) := by decide +kernel
theorem dX0_readLocal_18 : decode cX0_readLocal 18 = .ok (.lconst 0, 1) := by decide +kernel
theorem dX0_readLocal_19 : decode cX0_readLocal 19 = .ok (.lreturn, 1) := by decide +kernel
theorem dX0_writeLocal_0 : decode cX0_writeLocal 0 = .ok (.iload_n 1, 1) := by decide +kernel
theorem dX0_writeLocal_1 : decode cX0_writeLocal 1 = .ok (.bipush 16, 2) := by decide +kernel
theorem dX0_writeLocal_3 : decode cX0_writeLocal 3 = .ok (.invokestatic 46, 3) := by decide +kernel
theorem dX0_writeLocal_6 : decode cX0_writeLocal 6 = .ok (.ifCond .eq 10, 3) := by decide +kernel
theorem dX0_writeLocal_9 : decode cX0_writeLocal 9 = .ok (.aload_n 0, 1) := by decide +kernel
theorem dX0_writeLocal_10 : decode cX0_writeLocal 10 = .ok (.getfield 32, 3) := by decide +kernel
theorem dX0_writeLocal_13 : decode cX0_writeLocal 13 = .ok (.iload_n 1, 1) := by decide +kernel
theorem dX0_writeLocal_14 : decode cX0_writeLocal 14 = .ok (.lload_n 2, 1) := by decide +kernel
theorem dX0_writeLocal_15 : decode cX0_writeLocal 15 = .ok (.lastore, 1) := by decide +kernel
theorem dX0_writeLocal_16 : decode cX0_writeLocal 16 = .ok (.return_, 1) := by decide +kernel
theorem dX10_at_0 : decode cX10_at 0 = .ok (.iload_n 1, 1) := by decide +kernel
theorem dX10_at_1 : decode cX10_at 1 = .ok (.ifCond .lt 20, 3) := by decide +kernel
theorem dX10_at_4 : decode cX10_at 4 = .ok (.iload_n 1, 1) := by decide +kernel
theorem dX10_at_5 : decode cX10_at 5 = .ok (.aload_n 0, 1) := by decide +kernel
theorem dX10_at_6 : decode cX10_at 6 = .ok (.getfield 15, 3) := by decide +kernel
theorem dX10_at_9 : decode cX10_at 9 = .ok (.if_icmp .ge 12, 3) := by decide +kernel
theorem dX10_at_12 : decode cX10_at 12 = .ok (.aload_n 0, 1) := by decide +kernel
theorem dX10_at_13 : decode cX10_at 13 = .ok (.getfield 9, 3) := by decide +kernel
theorem dX10_at_16 : decode cX10_at 16 = .ok (.iload_n 1, 1) := by decide +kernel
theorem dX10_at_17 : decode cX10_at 17 = .ok (.laload, 1) := by decide +kernel
theorem dX10_at_18 : decode cX10_at 18 = .ok (.goto 6, 3) := by decide +kernel
theorem dX10_at_21 : decode cX10_at 21 = .ok (.ldc2_w 19, 3) := by decide +kernel
theorem dX10_at_24 : decode cX10_at 24 = .ok (.lreturn, 1) := by decide +kernel
theorem dX10_copyUnder_0 : decode cX10_copyUnder 0 = .ok (.aload_n 0, 1) := by decide +kernel
theorem dX10_copyUnder_1 : decode cX10_copyUnder 1 = .ok (.getfield 15, 3) := by decide +kernel
theorem dX10_copyUnder_4 : decode cX10_copyUnder 4 = .ok (.iload_n 1, 1) := by decide +kernel
theorem dX10_copyUnder_5 : decode cX10_copyUnder 5 = .ok (.isub, 1) := by decide +kernel
theorem dX10_copyUnder_6 : decode cX10_copyUnder 6 = .ok (.iload_n 2, 1) := by decide +kernel
theorem dX10_copyUnder_7 : decode cX10_copyUnder 7 = .ok (.isub, 1) := by decide +kernel
theorem dX10_copyUnder_8 : decode cX10_copyUnder 8 = .ok (.istore_n 3, 1) := by decide +kernel
theorem dX10_copyUnder_9 : decode cX10_copyUnder 9 = .ok (.iload_n 3, 1) := by decide +kernel
theorem dX10_copyUnder_10 : decode cX10_copyUnder 10 = .ok (.ifCond .lt 17, 3) := by decide +kernel
theorem dX10_copyUnder_13 : decode cX10_copyUnder 13 = .ok (.aload_n 0, 1) := by decide +kernel
theorem dX10_copyUnder_14 : decode cX10_copyUnder 14 = .ok (.getfield 15, 3) := by decide +kernel
theorem dX10_copyUnder_17 : decode cX10_copyUnder 17 = .ok (.iload_n 2, 1) := by decide +kernel
theorem dX10_copyUnder_18 : decode cX10_copyUnder 18 = .ok (.iadd, 1) := by decide +kernel
theorem dX10_copyUnder_19 : decode cX10_copyUnder 19 = .ok (.aload_n 0, 1) := by decide +kernel
theorem dX10_copyUnder_20 : decode cX10_copyUnder 20 = .ok (.getfield 9, 3) := by decide +kernel
theorem dX10_copyUnder_23 : decode cX10_copyUnder 23 = .ok (.arraylength, 1) := by decide +kernel
theorem dX10_copyUnder_24 : decode cX10_copyUnder 24 = .ok (.if_icmp .le 4, 3) := by decide +kernel
theorem dX10_copyUnder_27 : decode cX10_copyUnder 27 = .ok (.return_, 1) := by decide +kernel
theorem dX10_copyUnder_28 : decode cX10_copyUnder 28 = .ok (.aload_n 0, 1) := by decide +kernel
theorem dX10_copyUnder_29 : decode cX10_copyUnder 29 = .ok (.getfield 15, 3) := by decide +kernel
theorem dX10_copyUnder_32 : decode cX10_copyUnder 32 = .ok (.iconst 1, 1) := by decide +kernel
theorem dX10_copyUnder_33 : decode cX10_copyUnder 33 = .ok (.isub, 1) := by decide +kernel
theorem dX10_copyUnder_34 : decode cX10_copyUnder 34 = .ok (.istore 4, 2) := by decide +kernel
theorem dX10_copyUnder_36 : decode cX10_copyUnder 36 = .ok (.iload 4, 2) := by decide +kernel
theorem dX10_copyUnder_38 : decode cX10_copyUnder 38 = .ok (.iload_n 3, 1) := by decide +kernel
theorem dX10_copyUnder_39 : decode cX10_copyUnder 39 = .ok (.if_icmp .lt 25, 3) := by decide +kernel
theorem dX10_copyUnder_42 : decode cX10_copyUnder 42 = .ok (.aload_n 0, 1) := by decide +kernel
theorem dX10_copyUnder_43 : decode cX10_copyUnder 43 = .ok (.getfield 9, 3) := by decide +kernel
theorem dX10_copyUnder_46 : decode cX10_copyUnder 46 = .ok (.iload 4, 2) := by decide +kernel
theorem dX10_copyUnder_48 : decode cX10_copyUnder 48 = .ok (.iload_n 2, 1) := by decide +kernel
theorem dX10_copyUnder_49 : decode cX10_copyUnder 49 = .ok (.iadd, 1) := by decide +kernel
theorem dX10_copyUnder_50 : decode cX10_copyUnder 50 = .ok (.aload_n 0, 1) := by decide +kernel
theorem dX10_copyUnder_51 : decode cX10_copyUnder 51 = .ok (.getfield 9, 3) := by decide +kernel
theorem dX10_copyUnder_54 : decode cX10_copyUnder 54 = .ok (.iload 4, 2) := by decide +kernel
theorem dX10_copyUnder_56 : decode cX10_copyUnder 56 = .ok (.laload, 1) := by decide +kernel
theorem dX10_copyUnder_57 : decode cX10_copyUnder 57 = .ok (.lastore, 1) := by decide +kernel
theorem dX10_copyUnder_58 : decode cX10_copyUnder 58 = .ok (.iinc 4 (-1), 3) := by decide +kernel
theorem dX10_copyUnder_61 : decode cX10_copyUnder 61 = .ok (.goto (-25), 3) := by decide +kernel
theorem dX10_copyUnder_64 : decode cX10_copyUnder 64 = .ok (.iconst 0, 1) := by decide +kernel
theorem dX10_copyUnder_65 : decode cX10_copyUnder 65 = .ok (.istore 4, 2) := by decide +kernel
theorem dX10_copyUnder_67 : decode cX10_copyUnder 67 = .ok (.iload 4, 2) := by decide +kernel
theorem dX10_copyUnder_69 : decode cX10_copyUnder 69 = .ok (.iload_n 2, 1) := by decide +kernel
theorem dX10_copyUnder_70 : decode cX10_copyUnder 70 = .ok (.if_icmp .ge 30, 3) := by decide +kernel
theorem dX10_copyUnder_73 : decode cX10_copyUnder 73 = .ok (.aload_n 0, 1) := by decide +kernel
theorem dX10_copyUnder_74 : decode cX10_copyUnder 74 = .ok (.getfield 9, 3) := by decide +kernel
theorem dX10_copyUnder_77 : decode cX10_copyUnder 77 = .ok (.iload_n 3, 1) := by decide +kernel
theorem dX10_copyUnder_78 : decode cX10_copyUnder 78 = .ok (.iload 4, 2) := by decide +kernel
theorem dX10_copyUnder_80 : decode cX10_copyUnder 80 = .ok (.iadd, 1) := by decide +kernel
theorem dX10_copyUnder_81 : decode cX10_copyUnder 81 = .ok (.aload_n 0, 1) := by decide +kernel
theorem dX10_copyUnder_82 : decode cX10_copyUnder 82 = .ok (.getfield 9, 3) := by decide +kernel
theorem dX10_copyUnder_85 : decode cX10_copyUnder 85 = .ok (.aload_n 0, 1) := by decide +kernel
theorem dX10_copyUnder_86 : decode cX10_copyUnder 86 = .ok (.getfield 15, 3) := by decide +kernel
theorem dX10_copyUnder_89 : decode cX10_copyUnder 89 = .ok (.iload 4, 2) := by decide +kernel
theorem dX10_copyUnder_91 : decode cX10_copyUnder 91 = .ok (.iadd, 1) := by decide +kernel
theorem dX10_copyUnder_92 : decode cX10_copyUnder 92 = .ok (.laload, 1) := by decide +kernel
theorem dX10_copyUnder_93 : decode cX10_copyUnder 93 = .ok (.lastore, 1) := by decide +kernel
theorem dX10_copyUnder_94 : decode cX10_copyUnder 94 = .ok (.iinc 4 1, 3) := by decide +kernel
theorem dX10_copyUnder_97 : decode cX10_copyUnder 97 = .ok (.goto (-30), 3) := by decide +kernel
theorem dX10_copyUnder_100 : decode cX10_copyUnder 100 = .ok (.aload_n 0, 1) := by decide +kernel
theorem dX10_copyUnder_101 : decode cX10_copyUnder 101 = .ok (.dup, 1) := by decide +kernel
theorem dX10_copyUnder_102 : decode cX10_copyUnder 102 = .ok (.getfield 15, 3) := by decide +kernel
theorem dX10_copyUnder_105 : decode cX10_copyUnder 105 = .ok (.iload_n 2, 1) := by decide +kernel
theorem dX10_copyUnder_106 : decode cX10_copyUnder 106 = .ok (.iadd, 1) := by decide +kernel
theorem dX10_copyUnder_107 : decode cX10_copyUnder 107 = .ok (.putfield 15, 3) := by decide +kernel
theorem dX10_copyUnder_110 : decode cX10_copyUnder 110 = .ok (.return_, 1) := by decide +kernel
theorem dX10_drop_0 : decode cX10_drop 0 = .ok (.aload_n 0, 1) := by decide +kernel
theorem dX10_drop_1 : decode cX10_drop 1 = .ok (.iconst 0, 1) := by decide +kernel
theorem dX10_drop_2 : decode cX10_drop 2 = .ok (.aload_n 0, 1) := by decide +kernel
theorem dX10_drop_3 : decode cX10_drop 3 = .ok (.getfield 15, 3) := by decide +kernel
theorem dX10_drop_6 : decode cX10_drop 6 = .ok (.iload_n 1, 1) := by decide +kernel
theorem dX10_drop_7 : decode cX10_drop 7 = .ok (.isub, 1) := by decide +kernel
theorem dX10_drop_8 : decode cX10_drop 8 = .ok (.invokestatic 33, 3) := by decide +kernel
theorem dX10_drop_11 : decode cX10_drop 11 = .ok (.putfield 15, 3) := by decide +kernel
theorem dX10_drop_14 : decode cX10_drop 14 = .ok (.return_, 1) := by decide +kernel
theorem dX10_pop_0 : decode cX10_pop 0 = .ok (.aload_n 0, 1) := by decide +kernel
theorem dX10_pop_1 : decode cX10_pop 1 = .ok (.getfield 15, 3) := by decide +kernel
theorem dX10_pop_4 : decode cX10_pop 4 = .ok (.ifCond .ne 5, 3) := by decide +kernel
theorem dX10_pop_7 : decode cX10_pop 7 = .ok (.lconst 0, 1) := by decide +kernel
theorem dX10_pop_8 : decode cX10_pop 8 = .ok (.lreturn, 1) := by decide +kernel
theorem dX10_pop_9 : decode cX10_pop 9 = .ok (.aload_n 0, 1) := by decide +kernel
theorem dX10_pop_10 : decode cX10_pop 10 = .ok (.dup, 1) := by decide +kernel
theorem dX10_pop_11 : decode cX10_pop 11 = .ok (.getfield 15, 3) := by decide +kernel
theorem dX10_pop_14 : decode cX10_pop 14 = .ok (.iconst 1, 1) := by decide +kernel
theorem dX10_pop_15 : decode cX10_pop 15 = .ok (.isub, 1) := by decide +kernel
theorem dX10_pop_16 : decode cX10_pop 16 = .ok (.putfield 15, 3) := by decide +kernel
theorem dX10_pop_19 : decode cX10_pop 19 = .ok (.aload_n 0, 1) := by decide +kernel
theorem dX10_pop_20 : decode cX10_pop 20 = .ok (.getfield 9, 3) := by decide +kernel
theorem dX10_pop_23 : decode cX10_pop 23 = .ok (.aload_n 0, 1) := by decide +kernel
theorem dX10_pop_24 : decode cX10_pop 24 = .ok (.getfield 15, 3) := by decide +kernel
theorem dX10_pop_27 : decode cX10_pop 27 = .ok (.laload, 1) := by decide +kernel
theorem dX10_pop_28 : decode cX10_pop 28 = .ok (.lreturn, 1) := by decide +kernel
theorem dX10_push_0 : decode cX10_push 0 = .ok (.aload_n 0, 1) := by decide +kernel
theorem dX10_push_1 : decode cX10_push 1 = .ok (.getfield 15, 3) := by decide +kernel
theorem dX10_push_4 : decode cX10_push 4 = .ok (.aload_n 0, 1) := by decide +kernel
theorem dX10_push_5 : decode cX10_push 5 = .ok (.getfield 9, 3) := by decide +kernel
theorem dX10_push_8 : decode cX10_push 8 = .ok (.arraylength, 1) := by decide +kernel
theorem dX10_push_9 : decode cX10_push 9 = .ok (.if_icmp .ge 23, 3) := by decide +kernel
theorem dX10_push_12 : decode cX10_push 12 = .ok (.aload_n 0, 1) := by decide +kernel
theorem dX10_push_13 : decode cX10_push 13 = .ok (.getfield 9, 3) := by decide +kernel
theorem dX10_push_16 : decode cX10_push 16 = .ok (.aload_n 0, 1) := by decide +kernel
theorem dX10_push_17 : decode cX10_push 17 = .ok (.getfield 15, 3) := by decide +kernel
theorem dX10_push_20 : decode cX10_push 20 = .ok (.lload_n 1, 1) := by decide +kernel
theorem dX10_push_21 : decode cX10_push 21 = .ok (.lastore, 1) := by decide +kernel
theorem dX10_push_22 : decode cX10_push 22 = .ok (.aload_n 0, 1) := by decide +kernel
theorem dX10_push_23 : decode cX10_push 23 = .ok (.dup, 1) := by decide +kernel
theorem dX10_push_24 : decode cX10_push 24 = .ok (.getfield 15, 3) := by decide +kernel
theorem dX10_push_27 : decode cX10_push 27 = .ok (.iconst 1, 1) := by decide +kernel
theorem dX10_push_28 : decode cX10_push 28 = .ok (.iadd, 1) := by decide +kernel
theorem dX10_push_29 : decode cX10_push 29 = .ok (.putfield 15, 3) := by decide +kernel
theorem dX10_push_32 : decode cX10_push 32 = .ok (.return_, 1) := by decide +kernel
theorem dX10_move_0 : decode cX10_move 0 = .ok (.getstatic 39, 3) := by decide +kernel
theorem dX10_move_3 : decode cX10_move 3 = .ok (.iload_n 1, 1) := by decide +kernel
theorem dX10_move_4 : decode cX10_move 4 = .ok (.bipush 8, 2) := by decide +kernel
theorem dX10_move_6 : decode cX10_move 6 = .ok (.isub, 1) := by decide +kernel
theorem dX10_move_7 : decode cX10_move 7 = .ok (.iaload, 1) := by decide +kernel
theorem dX10_move_8 : decode cX10_move 8 = .ok (.istore_n 2, 1) := by decide +kernel
theorem dX10_move_9 : decode cX10_move 9 = .ok (.iload_n 1, 1) := by decide +kernel
theorem dX10_move_10 : decode cX10_move 10 = .ok (.bipush 9, 2) := by decide +kernel
theorem dX10_move_12 : decode cX10_move 12 = .ok (.if_icmp .gt 11, 3) := by decide +kernel
theorem dX10_move_15 : decode cX10_move 15 = .ok (.aload_n 0, 1) := by decide +kernel
theorem dX10_move_16 : decode cX10_move 16 = .ok (.iload_n 2, 1) := by decide +kernel
theorem dX10_move_17 : decode cX10_move 17 = .ok (.invokevirtual 43, 3) := by decide +kernel
theorem dX10_move_20 : decode cX10_move 20 = .ok (.goto 47, 3) := by decide +kernel
theorem dX10_move_23 : decode cX10_move 23 = .ok (.iload_n 1, 1) := by decide +kernel
theorem dX10_move_24 : decode cX10_move 24 = .ok (.bipush 16, 2) := by decide +kernel
theorem dX10_move_26 : decode cX10_move 26 = .ok (.if_icmp .ne 28, 3) := by decide +kernel
theorem dX10_move_29 : decode cX10_move 29 = .ok (.aload_n 0, 1) := by decide +kernel
theorem dX10_move_30 : decode cX10_move 30 = .ok (.invokevirtual 29, 3) := by decide +kernel
theorem dX10_move_33 : decode cX10_move 33 = .ok (.lstore_n 3, 1) := by decide +kernel
theorem dX10_move_34 : decode cX10_move 34 = .ok (.aload_n 0, 1) := by decide +kernel
theorem dX10_move_35 : decode cX10_move 35 = .ok (.invokevirtual 29, 3) := by decide +kernel
theorem dX10_move_38 : decode cX10_move 38 = .ok (.lstore 5, 2) := by decide +kernel
theorem dX10_move_40 : decode cX10_move 40 = .ok (.aload_n 0, 1) := by decide +kernel
theorem dX10_move_41 : decode cX10_move 41 = .ok (.lload_n 3, 1) := by decide +kernel
theorem dX10_move_42 : decode cX10_move 42 = .ok (.invokevirtual 21, 3) := by decide +kernel
theorem dX10_move_45 : decode cX10_move 45 = .ok (.aload_n 0, 1) := by decide +kernel
theorem dX10_move_46 : decode cX10_move 46 = .ok (.lload 5, 2) := by decide +kernel
theorem dX10_move_48 : decode cX10_move 48 = .ok (.invokevirtual 21, 3) := by decide +kernel
theorem dX10_move_51 : decode cX10_move 51 = .ok (.goto 16, 3) := by decide +kernel
theorem dX10_move_54 : decode cX10_move 54 = .ok (.aload_n 0, 1) := by decide +kernel
theorem dX10_move_55 : decode cX10_move 55 = .ok (.getstatic 47, 3) := by decide +kernel
theorem dX10_move_58 : decode cX10_move 58 = .ok (.iload_n 1, 1) := by decide +kernel
theorem dX10_move_59 : decode cX10_move 59 = .ok (.bipush 8, 2) := by decide +kernel
theorem dX10_move_61 : decode cX10_move 61 = .ok (.isub, 1) := by decide +kernel
theorem dX10_move_62 : decode cX10_move 62 = .ok (.iaload, 1) := by decide +kernel
theorem dX10_move_63 : decode cX10_move 63 = .ok (.iload_n 2, 1) := by decide +kernel
theorem dX10_move_64 : decode cX10_move 64 = .ok (.invokevirtual 50, 3) := by decide +kernel
theorem dX10_move_67 : decode cX10_move 67 = .ok (.return_, 1) := by decide +kernel
theorem dX11_isWide_0 : decode cX11_isWide 0 = .ok (.iload_n 0, 1) := by decide +kernel
theorem dX11_isWide_1 : decode cX11_isWide 1 = .ok (.iconst 1, 1) := by decide +kernel
theorem dX11_isWide_2 : decode cX11_isWide 2 = .ok (.if_icmp .eq 8, 3) := by decide +kernel
theorem dX11_isWide_5 : decode cX11_isWide 5 = .ok (.iload_n 0, 1) := by decide +kernel
theorem dX11_isWide_6 : decode cX11_isWide 6 = .ok (.iconst 3, 1) := by decide +kernel
theorem dX11_isWide_7 : decode cX11_isWide 7 = .ok (.if_icmp .ne 7, 3) := by decide +kernel
theorem dX11_isWide_10 : decode cX11_isWide 10 = .ok (.iconst 1, 1) := by decide +kernel
theorem dX11_isWide_11 : decode cX11_isWide 11 = .ok (.goto 4, 3) := by decide +kernel
theorem dX11_isWide_14 : decode cX11_isWide 14 = .ok (.iconst 0, 1) := by decide +kernel
theorem dX11_isWide_15 : decode cX11_isWide 15 = .ok (.ireturn, 1) := by decide +kernel
theorem dX10_popBits_0 : decode cX10_popBits 0 = .ok (.iload_n 1, 1) := by decide +kernel
theorem dX10_popBits_1 : decode cX10_popBits 1 = .ok (.invokestatic 25, 3) := by decide +kernel
theorem dX10_popBits_4 : decode cX10_popBits 4 = .ok (.ifCond .eq 8, 3) := by decide +kernel
theorem dX10_popBits_7 : decode cX10_popBits 7 = .ok (.aload_n 0, 1) := by decide +kernel
theorem dX10_popBits_8 : decode cX10_popBits 8 = .ok (.invokevirtual 29, 3) := by decide +kernel
theorem dX10_popBits_11 : decode cX10_popBits 11 = .ok (.pop2, 1) := by decide +kernel
theorem dX10_popBits_12 : decode cX10_popBits 12 = .ok (.aload_n 0, 1) := by decide +kernel
theorem dX10_popBits_13 : decode cX10_popBits 13 = .ok (.invokevirtual 29, 3) := by decide +kernel
theorem dX10_popBits_16 : decode cX10_popBits 16 = .ok (.lreturn, 1) := by decide +kernel
theorem dX10_popInt_0 : decode cX10_popInt 0 = .ok (.aload_n 0, 1) := by decide +kernel
theorem dX10_popInt_1 : decode cX10_popInt 1 = .ok (.invokevirtual 29, 3) := by decide +kernel
theorem dX10_popInt_4 : decode cX10_popInt 4 = .ok (.l2i, 1) := by decide +kernel
theorem dX10_popInt_5 : decode cX10_popInt 5 = .ok (.ireturn, 1) := by decide +kernel
theorem dX10_pushBits_0 : decode cX10_pushBits 0 = .ok (.aload_n 0, 1) := by decide +kernel
theorem dX10_pushBits_1 : decode cX10_pushBits 1 = .ok (.lload_n 2, 1) := by decide +kernel
theorem dX10_pushBits_2 : decode cX10_pushBits 2 = .ok (.invokevirtual 21, 3) := by decide +kernel
theorem dX10_pushBits_5 : decode cX10_pushBits 5 = .ok (.iload_n 1, 1) := by decide +kernel
theorem dX10_pushBits_6 : decode cX10_pushBits 6 = .ok (.invokestatic 25, 3) := by decide +kernel
theorem dX10_pushBits_9 : decode cX10_pushBits 9 = .ok (.ifCond .eq 8, 3) := by decide +kernel
theorem dX10_pushBits_12 : decode cX10_pushBits 12 = .ok (.aload_n 0, 1) := by decide +kernel
theorem dX10_pushBits_13 : decode cX10_pushBits 13 = .ok (.lconst 0, 1) := by decide +kernel
theorem dX10_pushBits_14 : decode cX10_pushBits 14 = .ok (.invokevirtual 21, 3) := by decide +kernel
theorem dX10_pushBits_17 : decode cX10_pushBits 17 = .ok (.return_, 1) := by decide +kernel
theorem dX5_writeLocal_0 : decode cX5_writeLocal 0 = .ok (.iload_n 1, 1) := by decide +kernel
theorem dX5_writeLocal_1 : decode cX5_writeLocal 1 = .ok (.bipush 16, 2) := by decide +kernel
theorem dX5_writeLocal_3 : decode cX5_writeLocal 3 = .ok (.invokestatic 68, 3) := by decide +kernel
theorem dX5_writeLocal_6 : decode cX5_writeLocal 6 = .ok (.ifCond .eq 11, 3) := by decide +kernel
theorem dX5_writeLocal_9 : decode cX5_writeLocal 9 = .ok (.aload_n 0, 1) := by decide +kernel
theorem dX5_writeLocal_10 : decode cX5_writeLocal 10 = .ok (.getfield 18, 3) := by decide +kernel
theorem dX5_writeLocal_13 : decode cX5_writeLocal 13 = .ok (.iload_n 1, 1) := by decide +kernel
theorem dX5_writeLocal_14 : decode cX5_writeLocal 14 = .ok (.iload_n 2, 1) := by decide +kernel
theorem dX5_writeLocal_15 : decode cX5_writeLocal 15 = .ok (.i2l, 1) := by decide +kernel
theorem dX5_writeLocal_16 : decode cX5_writeLocal 16 = .ok (.lastore, 1) := by decide +kernel
theorem dX5_writeLocal_17 : decode cX5_writeLocal 17 = .ok (.return_, 1) := by decide +kernel
theorem dX11_endOf_0 : decode cX11_endOf 0 = .ok (.iload_n 0, 1) := by decide +kernel
theorem dX11_endOf_1 : decode cX11_endOf 1 = .ok (.iconst 1, 1) := by decide +kernel
theorem dX11_endOf_2 : decode cX11_endOf 2 = .ok (.if_icmp .ne 8, 3) := by decide +kernel
theorem dX11_endOf_5 : decode cX11_endOf 5 = .ok (.bipush 6, 2) := by decide +kernel
theorem dX11_endOf_7 : decode cX11_endOf 7 = .ok (.goto 5, 3) := by decide +kernel
theorem dX11_endOf_10 : decode cX11_endOf 10 = .ok (.bipush 7, 2) := by decide +kernel
theorem dX11_endOf_12 : decode cX11_endOf 12 = .ok (.ireturn, 1) := by decide +kernel
theorem dX5_dropHalves_0 : decode cX5_dropHalves 0 = .ok (.iconst 0, 1) := by decide +kernel
theorem dX5_dropHalves_1 : decode cX5_dropHalves 1 = .ok (.istore_n 2, 1) := by decide +kernel
theorem dX5_dropHalves_2 : decode cX5_dropHalves 2 = .ok (.iload_n 2, 1) := by decide +kernel
theorem dX5_dropHalves_3 : decode cX5_dropHalves 3 = .ok (.bipush 16, 2) := by decide +kernel
theorem dX5_dropHalves_5 : decode cX5_dropHalves 5 = .ok (.if_icmp .ge 153, 3) := by decide +kernel
theorem dX5_dropHalves_8 : decode cX5_dropHalves 8 = .ok (.aload_n 0, 1) := by decide +kernel
theorem dX5_dropHalves_9 : decode cX5_dropHalves 9 = .ok (.iload_n 1, 1) := by decide +kernel
theorem dX5_dropHalves_10 : decode cX5_dropHalves 10 = .ok (.iload_n 2, 1) := by decide +kernel
theorem dX5_dropHalves_11 : decode cX5_dropHalves 11 = .ok (.iadd, 1) := by decide +kernel
theorem dX5_dropHalves_12 : decode cX5_dropHalves 12 = .ok (.laload, 1) := by decide +kernel
theorem dX5_dropHalves_13 : decode cX5_dropHalves 13 = .ok (.lstore_n 3, 1) := by decide +kernel
theorem dX5_dropHalves_14 : decode cX5_dropHalves 14 = .ok (.iload_n 2, 1) := by decide +kernel
theorem dX5_dropHalves_15 : decode cX5_dropHalves 15 = .ok (.iconst 1, 1) := by decide +kernel
theorem dX5_dropHalves_16 : decode cX5_dropHalves 16 = .ok (.iadd, 1) := by decide +kernel
theorem dX5_dropHalves_17 : decode cX5_dropHalves 17 = .ok (.bipush 16, 2) := by decide +kernel
theorem dX5_dropHalves_19 : decode cX5_dropHalves 19 = .ok (.if_icmp .ge 13, 3) := by decide +kernel
theorem dX5_dropHalves_22 : decode cX5_dropHalves 22 = .ok (.aload_n 0, 1) := by decide +kernel
theorem dX5_dropHalves_23 : decode cX5_dropHalves 23 = .ok (.iload_n 1, 1) := by decide +kernel
theorem dX5_dropHalves_24 : decode cX5_dropHalves 24 = .ok (.iload_n 2, 1) := by decide +kernel
theorem dX5_dropHalves_25 : decode cX5_dropHalves 25 = .ok (.iadd, 1) := by decide +kernel
theorem dX5_dropHalves_26 : decode cX5_dropHalves 26 = .ok (.iconst 1, 1) := by decide +kernel
theorem dX5_dropHalves_27 : decode cX5_dropHalves 27 = .ok (.iadd, 1) := by decide +kernel
theorem dX5_dropHalves_28 : decode cX5_dropHalves 28 = .ok (.laload, 1) := by decide +kernel
theorem dX5_dropHalves_29 : decode cX5_dropHalves 29 = .ok (.goto 6, 3) := by decide +kernel
theorem dX5_dropHalves_32 : decode cX5_dropHalves 32 = .ok (.ldc2_w 72, 3) := by decide +kernel
theorem dX5_dropHalves_35 : decode cX5_dropHalves 35 = .ok (.lstore 5, 2) := by decide +kernel
theorem dX5_dropHalves_37 : decode cX5_dropHalves 37 = .ok (.iload_n 2, 1) := by decide +kernel
theorem dX5_dropHalves_38 : decode cX5_dropHalves 38 = .ok (.ifCond .le 13, 3) := by decide +kernel
theorem dX5_dropHalves_41 : decode cX5_dropHalves 41 = .ok (.aload_n 0, 1) := by decide +kernel
theorem dX5_dropHalves_42 : decode cX5_dropHalves 42 = .ok (.iload_n 1, 1) := by decide +kernel
theorem dX5_dropHalves_43 : decode cX5_dropHalves 43 = .ok (.iload_n 2, 1) := by decide +kernel
theorem dX5_dropHalves_44 : decode cX5_dropHalves 44 = .ok (.iadd, 1) := by decide +kernel
theorem dX5_dropHalves_45 : decode cX5_dropHalves 45 = .ok (.iconst 1, 1) := by decide +kernel
theorem dX5_dropHalves_46 : decode cX5_dropHalves 46 = .ok (.isub, 1) := by decide +kernel
theorem dX5_dropHalves_47 : decode cX5_dropHalves 47 = .ok (.laload, 1) := by decide +kernel
theorem dX5_dropHalves_48 : decode cX5_dropHalves 48 = .ok (.goto 6, 3) := by decide +kernel
theorem dX5_dropHalves_51 : decode cX5_dropHalves 51 = .ok (.ldc2_w 72, 3) := by decide +kernel
theorem dX5_dropHalves_54 : decode cX5_dropHalves 54 = .ok (.lstore 7, 2) := by decide +kernel
theorem dX5_dropHalves_56 : decode cX5_dropHalves 56 = .ok (.lload_n 3, 1) := by decide +kernel
theorem dX5_dropHalves_57 : decode cX5_dropHalves 57 = .ok (.lconst 1, 1) := by decide +kernel
theorem dX5_dropHalves_58 : decode cX5_dropHalves 58 = .ok (.lcmp, 1) := by decide +kernel
theorem dX5_dropHalves_59 : decode cX5_dropHalves 59 = .ok (.ifCond .ne 12, 3) := by decide +kernel
theorem dX5_dropHalves_62 : decode cX5_dropHalves 62 = .ok (.lload 5, 2) := by decide +kernel
theorem dX5_dropHalves_64 : decode cX5_dropHalves 64 = .ok (.ldc2_w 74, 3) := by decide +kernel
theorem dX5_dropHalves_67 : decode cX5_dropHalves 67 = .ok (.lcmp, 1) := by decide +kernel
theorem dX5_dropHalves_68 : decode cX5_dropHalves 68 = .ok (.ifCond .ne 20, 3) := by decide +kernel
theorem dX5_dropHalves_71 : decode cX5_dropHalves 71 = .ok (.lload_n 3, 1) := by decide +kernel
theorem dX5_dropHalves_72 : decode cX5_dropHalves 72 = .ok (.ldc2_w 76, 3) := by decide +kernel
theorem dX5_dropHalves_75 : decode cX5_dropHalves 75 = .ok (.lcmp, 1) := by decide +kernel
theorem dX5_dropHalves_76 : decode cX5_dropHalves 76 = .ok (.ifCond .ne 16, 3) := by decide +kernel
theorem dX5_dropHalves_79 : decode cX5_dropHalves 79 = .ok (.lload 5, 2) := by decide +kernel
theorem dX5_dropHalves_81 : decode cX5_dropHalves 81 = .ok (.ldc2_w 78, 3) := by decide +kernel
theorem dX5_dropHalves_84 : decode cX5_dropHalves 84 = .ok (.lcmp, 1) := by decide +kernel
theorem dX5_dropHalves_85 : decode cX5_dropHalves 85 = .ok (.ifCond .eq 7, 3) := by decide +kernel
theorem dX5_dropHalves_88 : decode cX5_dropHalves 88 = .ok (.iconst 1, 1) := by decide +kernel
theorem dX5_dropHalves_89 : decode cX5_dropHalves 89 = .ok (.goto 4, 3) := by decide +kernel
theorem dX5_dropHalves_92 : decode cX5_dropHalves 92 = .ok (.iconst 0, 1) := by decide +kernel
theorem dX5_dropHalves_93 : decode cX5_dropHalves 93 = .ok (.istore 9, 2) := by decide +kernel
theorem dX5_dropHalves_95 : decode cX5_dropHalves 95 = .ok (.lload_n 3, 1) := by decide +kernel
theorem dX5_dropHalves_96 : decode cX5_dropHalves 96 = .ok (.ldc2_w 74, 3) := by decide +kernel
theorem dX5_dropHalves_99 : decode cX5_dropHalves 99 = .ok (.lcmp, 1) := by decide +kernel
theorem dX5_dropHalves_100 : decode cX5_dropHalves 100 = .ok (.ifCond .ne 10, 3) := by decide +kernel
theorem dX5_dropHalves_103 : decode cX5_dropHalves 103 = .ok (.lload 7, 2) := by decide +kernel
theorem dX5_dropHalves_105 : decode cX5_dropHalves 105 = .ok (.lconst 1, 1) := by decide +kernel
theorem dX5_dropHalves_106 : decode cX5_dropHalves 106 = .ok (.lcmp, 1) := by decide +kernel
theorem dX5_dropHalves_107 : decode cX5_dropHalves 107 = .ok (.ifCond .ne 20, 3) := by decide +kernel
theorem dX5_dropHalves_110 : decode cX5_dropHalves 110 = .ok (.lload_n 3, 1) := by decide +kernel
theorem dX5_dropHalves_111 : decode cX5_dropHalves 111 = .ok (.ldc2_w 78, 3) := by decide +kernel
theorem dX5_dropHalves_114 : decode cX5_dropHalves 114 = .ok (.lcmp, 1) := by decide +kernel
theorem dX5_dropHalves_115 : decode cX5_dropHalves 115 = .ok (.ifCond .ne 16, 3) := by decide +kernel
theorem dX5_dropHalves_118 : decode cX5_dropHalves 118 = .ok (.lload 7, 2) := by decide +kernel
theorem dX5_dropHalves_120 : decode cX5_dropHalves 120 = .ok (.ldc2_w 76, 3) := by decide +kernel
theorem dX5_dropHalves_123 : decode cX5_dropHalves 123 = .ok (.lcmp, 1) := by decide +kernel
theorem dX5_dropHalves_124 : decode cX5_dropHalves 124 = .ok (.ifCond .eq 7, 3) := by decide +kernel
theorem dX5_dropHalves_127 : decode cX5_dropHalves 127 = .ok (.iconst 1, 1) := by decide +kernel
theorem dX5_dropHalves_128 : decode cX5_dropHalves 128 = .ok (.goto 4, 3) := by decide +kernel
theorem dX5_dropHalves_131 : decode cX5_dropHalves 131 = .ok (.iconst 0, 1) := by decide +kernel
theorem dX5_dropHalves_132 : decode cX5_dropHalves 132 = .ok (.istore 10, 2) := by decide +kernel
theorem dX5_dropHalves_134 : decode cX5_dropHalves 134 = .ok (.iload 9, 2) := by decide +kernel
theorem dX5_dropHalves_136 : decode cX5_dropHalves 136 = .ok (.ifCond .ne 8, 3) := by decide +kernel
theorem dX5_dropHalves_139 : decode cX5_dropHalves 139 = .ok (.iload 10, 2) := by decide +kernel
theorem dX5_dropHalves_141 : decode cX5_dropHalves 141 = .ok (.ifCond .eq 11, 3) := by decide +kernel
theorem dX5_dropHalves_144 : decode cX5_dropHalves 144 = .ok (.aload_n 0, 1) := by decide +kernel
theorem dX5_dropHalves_145 : decode cX5_dropHalves 145 = .ok (.iload_n 1, 1) := by decide +kernel
theorem dX5_dropHalves_146 : decode cX5_dropHalves 146 = .ok (.iload_n 2, 1) := by decide +kernel
theorem dX5_dropHalves_147 : decode cX5_dropHalves 147 = .ok (.iadd, 1) := by decide +kernel
theorem dX5_dropHalves_148 : decode cX5_dropHalves 148 = .ok (.ldc2_w 72, 3) := by decide +kernel
theorem dX5_dropHalves_151 : decode cX5_dropHalves 151 = .ok (.lastore, 1) := by decide +kernel
theorem dX5_dropHalves_152 : decode cX5_dropHalves 152 = .ok (.iinc 2 1, 3) := by decide +kernel
theorem dX5_dropHalves_155 : decode cX5_dropHalves 155 = .ok (.goto (-153), 3) := by decide +kernel
theorem dX5_dropHalves_158 : decode cX5_dropHalves 158 = .ok (.return_, 1) := by decide +kernel
theorem dX5_store_0 : decode cX5_store 0 = .ok (.aload_n 0, 1) := by decide +kernel
theorem dX5_store_1 : decode cX5_store 1 = .ok (.iload_n 1, 1) := by decide +kernel
theorem dX5_store_2 : decode cX5_store 2 = .ok (.iload_n 2, 1) := by decide +kernel
theorem dX5_store_3 : decode cX5_store 3 = .ok (.invokevirtual 60, 3) := by decide +kernel
theorem dX5_store_6 : decode cX5_store 6 = .ok (.iload_n 2, 1) := by decide +kernel
theorem dX5_store_7 : decode cX5_store 7 = .ok (.invokestatic 26, 3) := by decide +kernel
theorem dX5_store_10 : decode cX5_store 10 = .ok (.ifCond .eq 14, 3) := by decide +kernel
theorem dX5_store_13 : decode cX5_store 13 = .ok (.aload_n 0, 1) := by decide +kernel
theorem dX5_store_14 : decode cX5_store 14 = .ok (.iload_n 1, 1) := by decide +kernel
theorem dX5_store_15 : decode cX5_store 15 = .ok (.iconst 1, 1) := by decide +kernel
theorem dX5_store_16 : decode cX5_store 16 = .ok (.iadd, 1) := by decide +kernel
theorem dX5_store_17 : decode cX5_store 17 = .ok (.iload_n 2, 1) := by decide +kernel
theorem dX5_store_18 : decode cX5_store 18 = .ok (.invokestatic 30, 3) := by decide +kernel
theorem dX5_store_21 : decode cX5_store 21 = .ok (.invokevirtual 60, 3) := by decide +kernel
theorem dX5_store_24 : decode cX5_store 24 = .ok (.aload_n 0, 1) := by decide +kernel
theorem dX5_store_25 : decode cX5_store 25 = .ok (.getfield 18, 3) := by decide +kernel
theorem dX5_store_28 : decode cX5_store 28 = .ok (.iconst 0, 1) := by decide +kernel
theorem dX5_store_29 : decode cX5_store 29 = .ok (.invokestatic 64, 3) := by decide +kernel
theorem dX5_store_32 : decode cX5_store 32 = .ok (.return_, 1) := by decide +kernel
theorem dX11_width_0 : decode cX11_width 0 = .ok (.iload_n 0, 1) := by decide +kernel
theorem dX11_width_1 : decode cX11_width 1 = .ok (.invokestatic 179, 3) := by decide +kernel
theorem dX11_width_4 : decode cX11_width 4 = .ok (.ifCond .eq 7, 3) := by decide +kernel
theorem dX11_width_7 : decode cX11_width 7 = .ok (.iconst 2, 1) := by decide +kernel
theorem dX11_width_8 : decode cX11_width 8 = .ok (.goto 4, 3) := by decide +kernel
theorem dX11_width_11 : decode cX11_width 11 = .ok (.iconst 1, 1) := by decide +kernel
theorem dX11_width_12 : decode cX11_width 12 = .ok (.ireturn, 1) := by decide +kernel
theorem dX6_forget_0 : decode cX6_forget 0 = .ok (.iconst 0, 1) := by decide +kernel
theorem dX6_forget_1 : decode cX6_forget 1 = .ok (.istore_n 1, 1) := by decide +kernel
theorem dX6_forget_2 : decode cX6_forget 2 = .ok (.iload_n 1, 1) := by decide +kernel
theorem dX6_forget_3 : decode cX6_forget 3 = .ok (.bipush 60, 2) := by decide +kernel
theorem dX6_forget_5 : decode cX6_forget 5 = .ok (.if_icmp .ge 23, 3) := by decide +kernel
theorem dX6_forget_8 : decode cX6_forget 8 = .ok (.aload_n 0, 1) := by decide +kernel
theorem dX6_forget_9 : decode cX6_forget 9 = .ok (.getfield 9, 3) := by decide +kernel
theorem dX6_forget_12 : decode cX6_forget 12 = .ok (.iload_n 1, 1) := by decide +kernel
theorem dX6_forget_13 : decode cX6_forget 13 = .ok (.iconst (-1), 1) := by decide +kernel
theorem dX6_forget_14 : decode cX6_forget 14 = .ok (.iastore, 1) := by decide +kernel
theorem dX6_forget_15 : decode cX6_forget 15 = .ok (.aload_n 0, 1) := by decide +kernel
theorem dX6_forget_16 : decode cX6_forget 16 = .ok (.getfield 22, 3) := by decide +kernel
theorem dX6_forget_19 : decode cX6_forget 19 = .ok (.iload_n 1, 1) := by decide +kernel
theorem dX6_forget_20 : decode cX6_forget 20 = .ok (.iconst 0, 1) := by decide +kernel
theorem dX6_forget_21 : decode cX6_forget 21 = .ok (.bastore, 1) := by decide +kernel
theorem dX6_forget_22 : decode cX6_forget 22 = .ok (.iinc 1 1, 3) := by decide +kernel
theorem dX6_forget_25 : decode cX6_forget 25 = .ok (.goto (-23), 3) := by decide +kernel
theorem dX6_forget_28 : decode cX6_forget 28 = .ok (.return_, 1) := by decide +kernel
theorem dX6_keep_0 : decode cX6_keep 0 = .ok (.aload_n 0, 1) := by decide +kernel
theorem dX6_keep_1 : decode cX6_keep 1 = .ok (.getfield 9, 3) := by decide +kernel
theorem dX6_keep_4 : decode cX6_keep 4 = .ok (.iload_n 1, 1) := by decide +kernel
theorem dX6_keep_5 : decode cX6_keep 5 = .ok (.aload_n 2, 1) := by decide +kernel
theorem dX6_keep_6 : decode cX6_keep 6 = .ok (.getfield 26, 3) := by decide +kernel
theorem dX6_keep_9 : decode cX6_keep 9 = .ok (.getfield 32, 3) := by decide +kernel
theorem dX6_keep_12 : decode cX6_keep 12 = .ok (.iastore, 1) := by decide +kernel
theorem dX6_keep_13 : decode cX6_keep 13 = .ok (.aload_n 2, 1) := by decide +kernel
theorem dX6_keep_14 : decode cX6_keep 14 = .ok (.getfield 26, 3) := by decide +kernel
theorem dX6_keep_17 : decode cX6_keep 17 = .ok (.getfield 38, 3) := by decide +kernel
theorem dX6_keep_20 : decode cX6_keep 20 = .ok (.iconst 0, 1) := by decide +kernel
theorem dX6_keep_21 : decode cX6_keep 21 = .ok (.aload_n 0, 1) := by decide +kernel
theorem dX6_keep_22 : decode cX6_keep 22 = .ok (.getfield 15, 3) := by decide +kernel
theorem dX6_keep_25 : decode cX6_keep 25 = .ok (.iload_n 1, 1) := by decide +kernel
theorem dX6_keep_26 : decode cX6_keep 26 = .ok (.bipush 12, 2) := by decide +kernel
theorem dX6_keep_28 : decode cX6_keep 28 = .ok (.imul, 1) := by decide +kernel
theorem dX6_keep_29 : decode cX6_keep 29 = .ok (.bipush 12, 2) := by decide +kernel
theorem dX6_keep_31 : decode cX6_keep 31 = .ok (.invokestatic 41, 3) := by decide +kernel
theorem dX6_keep_34 : decode cX6_keep 34 = .ok (.aload_n 2, 1) := by decide +kernel
theorem dX6_keep_35 : decode cX6_keep 35 = .ok (.getfield 47, 3) := by decide +kernel
theorem dX6_keep_38 : decode cX6_keep 38 = .ok (.iconst 0, 1) := by decide +kernel
theorem dX6_keep_39 : decode cX6_keep 39 = .ok (.aload_n 0, 1) := by decide +kernel
theorem dX6_keep_40 : decode cX6_keep 40 = .ok (.getfield 19, 3) := by decide +kernel
theorem dX6_keep_43 : decode cX6_keep 43 = .ok (.iload_n 1, 1) := by decide +kernel
theorem dX6_keep_44 : decode cX6_keep 44 = .ok (.bipush 16, 2) := by decide +kernel
theorem dX6_keep_46 : decode cX6_keep 46 = .ok (.imul, 1) := by decide +kernel
theorem dX6_keep_47 : decode cX6_keep 47 = .ok (.bipush 16, 2) := by decide +kernel
theorem dX6_keep_49 : decode cX6_keep 49 = .ok (.invokestatic 41, 3) := by decide +kernel
theorem dX6_keep_52 : decode cX6_keep 52 = .ok (.return_, 1) := by decide +kernel
theorem dX6_isStack_0 : decode cX6_isStack 0 = .ok (.aload_n 0, 1) := by decide +kernel
theorem dX6_isStack_1 : decode cX6_isStack 1 = .ok (.getfield 9, 3) := by decide +kernel
theorem dX6_isStack_4 : decode cX6_isStack 4 = .ok (.iload_n 1, 1) := by decide +kernel
theorem dX6_isStack_5 : decode cX6_isStack 5 = .ok (.iaload, 1) := by decide +kernel
theorem dX6_isStack_6 : decode cX6_isStack 6 = .ok (.aload_n 2, 1) := by decide +kernel
theorem dX6_isStack_7 : decode cX6_isStack 7 = .ok (.getfield 32, 3) := by decide +kernel
theorem dX6_isStack_10 : decode cX6_isStack 10 = .ok (.if_icmp .eq 5, 3) := by decide +kernel
theorem dX6_isStack_13 : decode cX6_isStack 13 = .ok (.iconst 0, 1) := by decide +kernel
theorem dX6_isStack_14 : decode cX6_isStack 14 = .ok (.ireturn, 1) := by decide +kernel
theorem dX6_isStack_15 : decode cX6_isStack 15 = .ok (.iconst 0, 1) := by decide +kernel
theorem dX6_isStack_16 : decode cX6_isStack 16 = .ok (.istore_n 3, 1) := by decide +kernel
theorem dX6_isStack_17 : decode cX6_isStack 17 = .ok (.iload_n 3, 1) := by decide +kernel
theorem dX6_isStack_18 : decode cX6_isStack 18 = .ok (.aload_n 2, 1) := by decide +kernel
theorem dX6_isStack_19 : decode cX6_isStack 19 = .ok (.getfield 32, 3) := by decide +kernel
theorem dX6_isStack_22 : decode cX6_isStack 22 = .ok (.if_icmp .ge 31, 3) := by decide +kernel
theorem dX6_isStack_25 : decode cX6_isStack 25 = .ok (.aload_n 0, 1) := by decide +kernel
theorem dX6_isStack_26 : decode cX6_isStack 26 = .ok (.getfield 15, 3) := by decide +kernel
theorem dX6_isStack_29 : decode cX6_isStack 29 = .ok (.iload_n 1, 1) := by decide +kernel
theorem dX6_isStack_30 : decode cX6_isStack 30 = .ok (.bipush 12, 2) := by decide +kernel
theorem dX6_isStack_32 : decode cX6_isStack 32 = .ok (.imul, 1) := by decide +kernel
theorem dX6_isStack_33 : decode cX6_isStack 33 = .ok (.iload_n 3, 1) := by decide +kernel
theorem dX6_isStack_34 : decode cX6_isStack 34 = .ok (.iadd, 1) := by decide +kernel
theorem dX6_isStack_35 : decode cX6_isStack 35 = .ok (.laload, 1) := by decide +kernel
theorem dX6_isStack_36 : decode cX6_isStack 36 = .ok (.aload_n 2, 1) := by decide +kernel
theorem dX6_isStack_37 : decode cX6_isStack 37 = .ok (.iload_n 3, 1) := by decide +kernel
theorem dX6_isStack_38 : decode cX6_isStack 38 = .ok (.invokevirtual 60, 3) := by decide +kernel
theorem dX6_isStack_41 : decode cX6_isStack 41 = .ok (.lcmp, 1) := by decide +kernel
theorem dX6_isStack_42 : decode cX6_isStack 42 = .ok (.ifCond .eq 5, 3) := by decide +kernel
theorem dX6_isStack_45 : decode cX6_isStack 45 = .ok (.iconst 0, 1) := by decide +kernel
theorem dX6_isStack_46 : decode cX6_isStack 46 = .ok (.ireturn, 1) := by decide +kernel
theorem dX6_isStack_47 : decode cX6_isStack 47 = .ok (.iinc 3 1, 3) := by decide +kernel
theorem dX6_isStack_50 : decode cX6_isStack 50 = .ok (.goto (-33), 3) := by decide +kernel
theorem dX6_isStack_53 : decode cX6_isStack 53 = .ok (.iconst 1, 1) := by decide +kernel
theorem dX6_isStack_54 : decode cX6_isStack 54 = .ok (.ireturn, 1) := by decide +kernel
theorem dX6_joinLocals_0 : decode cX6_joinLocals 0 = .ok (.iconst 0, 1) := by decide +kernel
theorem dX6_joinLocals_1 : decode cX6_joinLocals 1 = .ok (.istore_n 3, 1) := by decide +kernel
theorem dX6_joinLocals_2 : decode cX6_joinLocals 2 = .ok (.iconst 0, 1) := by decide +kernel
theorem dX6_joinLocals_3 : decode cX6_joinLocals 3 = .ok (.istore 4, 2) := by decide +kernel
theorem dX6_joinLocals_5 : decode cX6_joinLocals 5 = .ok (.iload 4, 2) := by decide +kernel
theorem dX6_joinLocals_7 : decode cX6_joinLocals 7 = .ok (.bipush 16, 2) := by decide +kernel
theorem dX6_joinLocals_9 : decode cX6_joinLocals 9 = .ok (.if_icmp .ge 56, 3) := by decide +kernel
theorem dX6_joinLocals_12 : decode cX6_joinLocals 12 = .ok (.aload_n 0, 1) := by decide +kernel
theorem dX6_joinLocals_13 : decode cX6_joinLocals 13 = .ok (.getfield 19, 3) := by decide +kernel
theorem dX6_joinLocals_16 : decode cX6_joinLocals 16 = .ok (.iload_n 1, 1) := by decide +kernel
theorem dX6_joinLocals_17 : decode cX6_joinLocals 17 = .ok (.iload 4, 2) := by decide +kernel
theorem dX6_joinLocals_19 : decode cX6_joinLocals 19 = .ok (.iadd, 1) := by decide +kernel
theorem dX6_joinLocals_20 : decode cX6_joinLocals 20 = .ok (.laload, 1) := by decide +kernel
theorem dX6_joinLocals_21 : decode cX6_joinLocals 21 = .ok (.aload_n 2, 1) := by decide +kernel
theorem dX6_joinLocals_22 : decode cX6_joinLocals 22 = .ok (.iload 4, 2) := by decide +kernel
theorem dX6_joinLocals_24 : decode cX6_joinLocals 24 = .ok (.laload, 1) := by decide +kernel
theorem dX6_joinLocals_25 : decode cX6_joinLocals 25 = .ok (.lcmp, 1) := by decide +kernel
theorem dX6_joinLocals_26 : decode cX6_joinLocals 26 = .ok (.ifCond .eq 33, 3) := by decide +kernel
theorem dX6_joinLocals_29 : decode cX6_joinLocals 29 = .ok (.aload_n 0, 1) := by decide +kernel
theorem dX6_joinLocals_30 : decode cX6_joinLocals 30 = .ok (.getfield 19, 3) := by decide +kernel
theorem dX6_joinLocals_33 : decode cX6_joinLocals 33 = .ok (.iload_n 1, 1) := by decide +kernel
theorem dX6_joinLocals_34 : decode cX6_joinLocals 34 = .ok (.iload 4, 2) := by decide +kernel
theorem dX6_joinLocals_36 : decode cX6_joinLocals 36 = .ok (.iadd, 1) := by decide +kernel
theorem dX6_joinLocals_37 : decode cX6_joinLocals 37 = .ok (.laload, 1) := by decide +kernel
theorem dX6_joinLocals_38 : decode cX6_joinLocals 38 = .ok (.ldc2_w 64, 3) := by decide +kernel
theorem dX6_joinLocals_41 : decode cX6_joinLocals 41 = .ok (.lcmp, 1) := by decide +kernel
theorem dX6_joinLocals_42 : decode cX6_joinLocals 42 = .ok (.ifCond .eq 17, 3) := by decide +kernel
theorem dX6_joinLocals_45 : decode cX6_joinLocals 45 = .ok (.aload_n 0, 1) := by decide +kernel
theorem dX6_joinLocals_46 : decode cX6_joinLocals 46 = .ok (.getfield 19, 3) := by decide +kernel
theorem dX6_joinLocals_49 : decode cX6_joinLocals 49 = .ok (.iload_n 1, 1) := by decide +kernel
theorem dX6_joinLocals_50 : decode cX6_joinLocals 50 = .ok (.iload 4, 2) := by decide +kernel
theorem dX6_joinLocals_52 : decode cX6_joinLocals 52 = .ok (.iadd, 1) := by decide +kernel
theorem dX6_joinLocals_53 : decode cX6_joinLocals 53 = .ok (.ldc2_w 64, 3) := by decide +kernel
theorem dX6_joinLocals_56 : decode cX6_joinLocals 56 = .ok (.lastore, 1) := by decide +kernel
theorem dX6_joinLocals_57 : decode cX6_joinLocals 57 = .ok (.iconst 1, 1) := by decide +kernel
theorem dX6_joinLocals_58 : decode cX6_joinLocals 58 = .ok (.istore_n 3, 1) := by decide +kernel
theorem dX6_joinLocals_59 : decode cX6_joinLocals 59 = .ok (.iinc 4 1, 3) := by decide +kernel
theorem dX6_joinLocals_62 : decode cX6_joinLocals 62 = .ok (.goto (-57), 3) := by decide +kernel
theorem dX6_joinLocals_65 : decode cX6_joinLocals 65 = .ok (.iload_n 3, 1) := by decide +kernel
theorem dX6_joinLocals_66 : decode cX6_joinLocals 66 = .ok (.ifCond .eq 11, 3) := by decide +kernel
theorem dX6_joinLocals_69 : decode cX6_joinLocals 69 = .ok (.aload_n 0, 1) := by decide +kernel
theorem dX6_joinLocals_70 : decode cX6_joinLocals 70 = .ok (.getfield 19, 3) := by decide +kernel
theorem dX6_joinLocals_73 : decode cX6_joinLocals 73 = .ok (.iload_n 1, 1) := by decide +kernel
theorem dX6_joinLocals_74 : decode cX6_joinLocals 74 = .ok (.invokestatic 66, 3) := by decide +kernel
theorem dX6_joinLocals_77 : decode cX6_joinLocals 77 = .ok (.iload_n 3, 1) := by decide +kernel
theorem dX6_joinLocals_78 : decode cX6_joinLocals 78 = .ok (.ireturn, 1) := by decide +kernel
theorem dX6_bring_0 : decode cX6_bring 0 = .ok (.aload_n 0, 1) := by decide +kernel
theorem dX6_bring_1 : decode cX6_bring 1 = .ok (.getfield 9, 3) := by decide +kernel
theorem dX6_bring_4 : decode cX6_bring 4 = .ok (.iload_n 1, 1) := by decide +kernel
theorem dX6_bring_5 : decode cX6_bring 5 = .ok (.iaload, 1) := by decide +kernel
theorem dX6_bring_6 : decode cX6_bring 6 = .ok (.iconst (-1), 1) := by decide +kernel
theorem dX6_bring_7 : decode cX6_bring 7 = .ok (.if_icmp .ne 18, 3) := by decide +kernel
theorem dX6_bring_10 : decode cX6_bring 10 = .ok (.aload_n 0, 1) := by decide +kernel
theorem dX6_bring_11 : decode cX6_bring 11 = .ok (.iload_n 1, 1) := by decide +kernel
theorem dX6_bring_12 : decode cX6_bring 12 = .ok (.aload_n 2, 1) := by decide +kernel
theorem dX6_bring_13 : decode cX6_bring 13 = .ok (.invokevirtual 48, 3) := by decide +kernel
theorem dX6_bring_16 : decode cX6_bring 16 = .ok (.aload_n 0, 1) := by decide +kernel
theorem dX6_bring_17 : decode cX6_bring 17 = .ok (.getfield 22, 3) := by decide +kernel
theorem dX6_bring_20 : decode cX6_bring 20 = .ok (.iload_n 1, 1) := by decide +kernel
theorem dX6_bring_21 : decode cX6_bring 21 = .ok (.iconst 1, 1) := by decide +kernel
theorem dX6_bring_22 : decode cX6_bring 22 = .ok (.bastore, 1) := by decide +kernel
theorem dX6_bring_23 : decode cX6_bring 23 = .ok (.iconst 1, 1) := by decide +kernel
theorem dX6_bring_24 : decode cX6_bring 24 = .ok (.ireturn, 1) := by decide +kernel
theorem dX6_bring_25 : decode cX6_bring 25 = .ok (.aload_n 0, 1) := by decide +kernel
theorem dX6_bring_26 : decode cX6_bring 26 = .ok (.iload_n 1, 1) := by decide +kernel
theorem dX6_bring_27 : decode cX6_bring 27 = .ok (.aload_n 2, 1) := by decide +kernel
theorem dX6_bring_28 : decode cX6_bring 28 = .ok (.getfield 26, 3) := by decide +kernel
theorem dX6_bring_31 : decode cX6_bring 31 = .ok (.invokevirtual 52, 3) := by decide +kernel
theorem dX6_bring_34 : decode cX6_bring 34 = .ok (.ifCond .ne 5, 3) := by decide +kernel
theorem dX6_bring_37 : decode cX6_bring 37 = .ok (.iconst 0, 1) := by decide +kernel
theorem dX6_bring_38 : decode cX6_bring 38 = .ok (.ireturn, 1) := by decide +kernel
theorem dX6_bring_39 : decode cX6_bring 39 = .ok (.aload_n 0, 1) := by decide +kernel
theorem dX6_bring_40 : decode cX6_bring 40 = .ok (.iload_n 1, 1) := by decide +kernel
theorem dX6_bring_41 : decode cX6_bring 41 = .ok (.bipush 16, 2) := by decide +kernel
theorem dX6_bring_43 : decode cX6_bring 43 = .ok (.imul, 1) := by decide +kernel
theorem dX6_bring_44 : decode cX6_bring 44 = .ok (.aload_n 2, 1) := by decide +kernel
theorem dX6_bring_45 : decode cX6_bring 45 = .ok (.getfield 47, 3) := by decide +kernel
theorem dX6_bring_48 : decode cX6_bring 48 = .ok (.invokevirtual 56, 3) := by decide +kernel
theorem dX6_bring_51 : decode cX6_bring 51 = .ok (.ifCond .eq 10, 3) := by decide +kernel
theorem dX6_bring_54 : decode cX6_bring 54 = .ok (.aload_n 0, 1) := by decide +kernel
theorem dX6_bring_55 : decode cX6_bring 55 = .ok (.getfield 22, 3) := by decide +kernel
theorem dX6_bring_58 : decode cX6_bring 58 = .ok (.iload_n 1, 1) := by decide +kernel
theorem dX6_bring_59 : decode cX6_bring 59 = .ok (.iconst 1, 1) := by decide +kernel
theorem dX6_bring_60 : decode cX6_bring 60 = .ok (.bastore, 1) := by decide +kernel
theorem dX6_bring_61 : decode cX6_bring 61 = .ok (.iconst 1, 1) := by decide +kernel
theorem dX6_bring_62 : decode cX6_bring 62 = .ok (.ireturn, 1) := by decide +kernel
theorem dX1_begin_0 : decode cX1_begin 0 = .ok (.aload_n 0, 1) := by decide +kernel
theorem dX1_begin_1 : decode cX1_begin 1 = .ok (.iconst 0, 1) := by decide +kernel
theorem dX1_begin_2 : decode cX1_begin 2 = .ok (.putfield 28, 3) := by decide +kernel
theorem dX1_begin_5 : decode cX1_begin 5 = .ok (.aload_n 0, 1) := by decide +kernel
theorem dX1_begin_6 : decode cX1_begin 6 = .ok (.getfield 12, 3) := by decide +kernel
theorem dX1_begin_9 : decode cX1_begin 9 = .ok (.getfield 76, 3) := by decide +kernel
theorem dX1_begin_12 : decode cX1_begin 12 = .ok (.invokevirtual 80, 3) := by decide +kernel
theorem dX1_begin_15 : decode cX1_begin 15 = .ok (.iconst 0, 1) := by decide +kernel
theorem dX1_begin_16 : decode cX1_begin 16 = .ok (.istore_n 2, 1) := by decide +kernel
theorem dX1_begin_17 : decode cX1_begin 17 = .ok (.iload_n 2, 1) := by decide +kernel
theorem dX1_begin_18 : decode cX1_begin 18 = .ok (.bipush 16, 2) := by decide +kernel
theorem dX1_begin_20 : decode cX1_begin 20 = .ok (.if_icmp .ge 21, 3) := by decide +kernel
theorem dX1_begin_23 : decode cX1_begin 23 = .ok (.aload_n 0, 1) := by decide +kernel
theorem dX1_begin_24 : decode cX1_begin 24 = .ok (.getfield 12, 3) := by decide +kernel
theorem dX1_begin_27 : decode cX1_begin 27 = .ok (.getfield 85, 3) := by decide +kernel
theorem dX1_begin_30 : decode cX1_begin 30 = .ok (.iload_n 2, 1) := by decide +kernel
theorem dX1_begin_31 : decode cX1_begin 31 = .ok (.ldc2_w 89, 3) := by decide +kernel
theorem dX1_begin_34 : decode cX1_begin 34 = .ok (.lastore, 1) := by decide +kernel
theorem dX1_begin_35 : decode cX1_begin 35 = .ok (.iinc 2 1, 3) := by decide +kernel
theorem dX1_begin_38 : decode cX1_begin 38 = .ok (.goto (-21), 3) := by decide +kernel
theorem dX1_begin_41 : decode cX1_begin 41 = .ok (.iconst 0, 1) := by decide +kernel
theorem dX1_begin_42 : decode cX1_begin 42 = .ok (.istore_n 2, 1) := by decide +kernel
theorem dX1_begin_43 : decode cX1_begin 43 = .ok (.iconst 0, 1) := by decide +kernel
theorem dX1_begin_44 : decode cX1_begin 44 = .ok (.istore_n 3, 1) := by decide +kernel
theorem dX1_begin_45 : decode cX1_begin 45 = .ok (.iload_n 3, 1) := by decide +kernel
theorem dX1_begin_46 : decode cX1_begin 46 = .ok (.aload_n 1, 1) := by decide +kernel
theorem dX1_begin_47 : decode cX1_begin 47 = .ok (.getfield 91, 3) := by decide +kernel
theorem dX1_begin_50 : decode cX1_begin 50 = .ok (.if_icmp .ge 35, 3) := by decide +kernel
theorem dX1_begin_53 : decode cX1_begin 53 = .ok (.aload_n 0, 1) := by decide +kernel
theorem dX1_begin_54 : decode cX1_begin 54 = .ok (.getfield 12, 3) := by decide +kernel
theorem dX1_begin_57 : decode cX1_begin 57 = .ok (.iload_n 2, 1) := by decide +kernel
theorem dX1_begin_58 : decode cX1_begin 58 = .ok (.aload_n 1, 1) := by decide +kernel
theorem dX1_begin_59 : decode cX1_begin 59 = .ok (.getfield 94, 3) := by decide +kernel
theorem dX1_begin_62 : decode cX1_begin 62 = .ok (.iload_n 3, 1) := by decide +kernel
theorem dX1_begin_63 : decode cX1_begin 63 = .ok (.iaload, 1) := by decide +kernel
theorem dX1_begin_64 : decode cX1_begin 64 = .ok (.invokevirtual 98, 3) := by decide +kernel
theorem dX1_begin_67 : decode cX1_begin 67 = .ok (.iload_n 2, 1) := by decide +kernel
theorem dX1_begin_68 : decode cX1_begin 68 = .ok (.aload_n 1, 1) := by decide +kernel
theorem dX1_begin_69 : decode cX1_begin 69 = .ok (.getfield 94, 3) := by decide +kernel
theorem dX1_begin_72 : decode cX1_begin 72 = .ok (.iload_n 3, 1) := by decide +kernel
theorem dX1_begin_73 : decode cX1_begin 73 = .ok (.iaload, 1) := by decide +kernel
theorem dX1_begin_74 : decode cX1_begin 74 = .ok (.invokestatic 102, 3) := by decide +kernel
theorem dX1_begin_77 : decode cX1_begin 77 = .ok (.iadd, 1) := by decide +kernel
theorem dX1_begin_78 : decode cX1_begin 78 = .ok (.istore_n 2, 1) := by decide +kernel
theorem dX1_begin_79 : decode cX1_begin 79 = .ok (.iinc 3 1, 3) := by decide +kernel
theorem dX1_begin_82 : decode cX1_begin 82 = .ok (.goto (-37), 3) := by decide +kernel
theorem dX1_begin_85 : decode cX1_begin 85 = .ok (.aload_n 1, 1) := by decide +kernel
theorem dX1_begin_86 : decode cX1_begin 86 = .ok (.getfield 48, 3) := by decide +kernel
theorem dX1_begin_89 : decode cX1_begin 89 = .ok (.invokevirtual 106, 3) := by decide +kernel
theorem dX1_begin_92 : decode cX1_begin 92 = .ok (.aload_n 1, 1) := by decide +kernel
theorem dX1_begin_93 : decode cX1_begin 93 = .ok (.getfield 48, 3) := by decide +kernel
theorem dX1_begin_96 : decode cX1_begin 96 = .ok (.iconst 0, 1) := by decide +kernel
theorem dX1_begin_97 : decode cX1_begin 97 = .ok (.aload_n 0, 1) := by decide +kernel
theorem dX1_begin_98 : decode cX1_begin 98 = .ok (.getfield 12, 3) := by decide +kernel
theorem dX1_begin_101 : decode cX1_begin 101 = .ok (.invokevirtual 109, 3) := by decide +kernel
theorem dX1_begin_104 : decode cX1_begin 104 = .ok (.pop, 1) := by decide +kernel
theorem dX1_begin_105 : decode cX1_begin 105 = .ok (.return_, 1) := by decide +kernel
theorem dX6_load_0 : decode cX6_load 0 = .ok (.aload_n 2, 1) := by decide +kernel
theorem dX6_load_1 : decode cX6_load 1 = .ok (.getfield 26, 3) := by decide +kernel
theorem dX6_load_4 : decode cX6_load 4 = .ok (.aload_n 0, 1) := by decide +kernel
theorem dX6_load_5 : decode cX6_load 5 = .ok (.getfield 9, 3) := by decide +kernel
theorem dX6_load_8 : decode cX6_load 8 = .ok (.iload_n 1, 1) := by decide +kernel
theorem dX6_load_9 : decode cX6_load 9 = .ok (.iaload, 1) := by decide +kernel
theorem dX6_load_10 : decode cX6_load 10 = .ok (.putfield 32, 3) := by decide +kernel
theorem dX6_load_13 : decode cX6_load 13 = .ok (.aload_n 0, 1) := by decide +kernel
theorem dX6_load_14 : decode cX6_load 14 = .ok (.getfield 15, 3) := by decide +kernel
theorem dX6_load_17 : decode cX6_load 17 = .ok (.iload_n 1, 1) := by decide +kernel
theorem dX6_load_18 : decode cX6_load 18 = .ok (.bipush 12, 2) := by decide +kernel
theorem dX6_load_20 : decode cX6_load 20 = .ok (.imul, 1) := by decide +kernel
theorem dX6_load_21 : decode cX6_load 21 = .ok (.aload_n 2, 1) := by decide +kernel
theorem dX6_load_22 : decode cX6_load 22 = .ok (.getfield 26, 3) := by decide +kernel
theorem dX6_load_25 : decode cX6_load 25 = .ok (.getfield 38, 3) := by decide +kernel
theorem dX6_load_28 : decode cX6_load 28 = .ok (.iconst 0, 1) := by decide +kernel
theorem dX6_load_29 : decode cX6_load 29 = .ok (.bipush 12, 2) := by decide +kernel
theorem dX6_load_31 : decode cX6_load 31 = .ok (.invokestatic 41, 3) := by decide +kernel
theorem dX6_load_34 : decode cX6_load 34 = .ok (.aload_n 0, 1) := by decide +kernel
theorem dX6_load_35 : decode cX6_load 35 = .ok (.getfield 19, 3) := by decide +kernel
theorem dX6_load_38 : decode cX6_load 38 = .ok (.iload_n 1, 1) := by decide +kernel
theorem dX6_load_39 : decode cX6_load 39 = .ok (.bipush 16, 2) := by decide +kernel
theorem dX6_load_41 : decode cX6_load 41 = .ok (.imul, 1) := by decide +kernel
theorem dX6_load_42 : decode cX6_load 42 = .ok (.aload_n 2, 1) := by decide +kernel
theorem dX6_load_43 : decode cX6_load 43 = .ok (.getfield 47, 3) := by decide +kernel
theorem dX6_load_46 : decode cX6_load 46 = .ok (.iconst 0, 1) := by decide +kernel
theorem dX6_load_47 : decode cX6_load 47 = .ok (.bipush 16, 2) := by decide +kernel
theorem dX6_load_49 : decode cX6_load 49 = .ok (.invokestatic 41, 3) := by decide +kernel
theorem dX6_load_52 : decode cX6_load 52 = .ok (.return_, 1) := by decide +kernel
theorem dX11_isType_0 : decode cX11_isType 0 = .ok (.iload_n 0, 1) := by decide +kernel
theorem dX11_isType_1 : decode cX11_isType 1 = .ok (.bipush 8, 2) := by decide +kernel
theorem dX11_isType_3 : decode cX11_isType 3 = .ok (.if_icmp .lt 21, 3) := by decide +kernel
theorem dX11_isType_6 : decode cX11_isType 6 = .ok (.iload_n 0, 1) := by decide +kernel
theorem dX11_isType_7 : decode cX11_isType 7 = .ok (.bipush 32, 2) := by decide +kernel
theorem dX11_isType_9 : decode cX11_isType 9 = .ok (.if_icmp .ge 15, 3) := by decide +kernel
theorem dX11_isType_12 : decode cX11_isType 12 = .ok (.iload_n 0, 1) := by decide +kernel
theorem dX11_isType_13 : decode cX11_isType 13 = .ok (.bipush 8, 2) := by decide +kernel
theorem dX11_isType_15 : decode cX11_isType 15 = .ok (.irem, 1) := by decide +kernel
theorem dX11_isType_16 : decode cX11_isType 16 = .ok (.iconst 4, 1) := by decide +kernel
theorem dX11_isType_17 : decode cX11_isType 17 = .ok (.if_icmp .eq 7, 3) := by decide +kernel
theorem dX11_isType_20 : decode cX11_isType 20 = .ok (.iconst 1, 1) := by decide +kernel
theorem dX11_isType_21 : decode cX11_isType 21 = .ok (.goto 4, 3) := by decide +kernel
theorem dX11_isType_24 : decode cX11_isType 24 = .ok (.iconst 0, 1) := by decide +kernel
theorem dX11_isType_25 : decode cX11_isType 25 = .ok (.ireturn, 1) := by decide +kernel
