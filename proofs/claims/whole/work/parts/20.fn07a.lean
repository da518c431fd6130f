theorem dX11_good_0 : decode cX11_good 0 = .ok (.aload_n 0, 1) := by decide +kernel
theorem dX11_good_1 : decode cX11_good 1 = .ok (.getfield 10, 3) := by decide +kernel
theorem dX11_good_4 : decode cX11_good 4 = .ok (.iload_n 1, 1) := by decide +kernel
theorem dX11_good_5 : decode cX11_good 5 = .ok (.invokevirtual 54, 3) := by decide +kernel
theorem dX11_good_8 : decode cX11_good 8 = .ok (.astore_n 2, 1) := by decide +kernel
theorem dX11_good_9 : decode cX11_good 9 = .ok (.aload_n 2, 1) := by decide +kernel
theorem dX11_good_10 : decode cX11_good 10 = .ok (.ifnonnull 6, 3) := by decide +kernel
theorem dX11_good_13 : decode cX11_good 13 = .ok (.bipush (-2), 2) := by decide +kernel
theorem dX11_good_15 : decode cX11_good 15 = .ok (.ireturn, 1) := by decide +kernel
theorem dX11_good_16 : decode cX11_good 16 = .ok (.aload_n 2, 1) := by decide +kernel
theorem dX11_good_17 : decode cX11_good 17 = .ok (.getfield 124, 3) := by decide +kernel
theorem dX11_good_20 : decode cX11_good 20 = .ok (.ifCond .eq 7, 3) := by decide +kernel
theorem dX11_good_23 : decode cX11_good 23 = .ok (.iconst 1, 1) := by decide +kernel
theorem dX11_good_24 : decode cX11_good 24 = .ok (.goto 4, 3) := by decide +kernel
theorem dX11_good_27 : decode cX11_good 27 = .ok (.iconst 0, 1) := by decide +kernel
theorem dX11_good_28 : decode cX11_good 28 = .ok (.ireturn, 1) := by decide +kernel
theorem dX11_handler_0 : decode cX11_handler 0 = .ok (.aload_n 0, 1) := by decide +kernel
theorem dX11_handler_1 : decode cX11_handler 1 = .ok (.getfield 10, 3) := by decide +kernel
theorem dX11_handler_4 : decode cX11_handler 4 = .ok (.iload_n 1, 1) := by decide +kernel
theorem dX11_handler_5 : decode cX11_handler 5 = .ok (.invokevirtual 54, 3) := by decide +kernel
theorem dX11_handler_8 : decode cX11_handler 8 = .ok (.astore 6, 2) := by decide +kernel
theorem dX11_handler_10 : decode cX11_handler 10 = .ok (.aload 6, 2) := by decide +kernel
theorem dX11_handler_12 : decode cX11_handler 12 = .ok (.ifnull 18, 3) := by decide +kernel
theorem dX11_handler_15 : decode cX11_handler 15 = .ok (.iload_n 2, 1) := by decide +kernel
theorem dX11_handler_16 : decode cX11_handler 16 = .ok (.ifCond .lt 14, 3) := by decide +kernel
theorem dX11_handler_19 : decode cX11_handler 19 = .ok (.iload_n 2, 1) := by decide +kernel
theorem dX11_handler_20 : decode cX11_handler 20 = .ok (.iload_n 3, 1) := by decide +kernel
theorem dX11_handler_21 : decode cX11_handler 21 = .ok (.if_icmp .gt 9, 3) := by decide +kernel
theorem dX11_handler_24 : decode cX11_handler 24 = .ok (.iload_n 3, 1) := by decide +kernel
theorem dX11_handler_25 : decode cX11_handler 25 = .ok (.bipush 60, 2) := by decide +kernel
theorem dX11_handler_27 : decode cX11_handler 27 = .ok (.if_icmp .le 6, 3) := by decide +kernel
theorem dX11_handler_30 : decode cX11_handler 30 = .ok (.bipush (-2), 2) := by decide +kernel
theorem dX11_handler_32 : decode cX11_handler 32 = .ok (.ireturn, 1) := by decide +kernel
theorem dX11_handler_33 : decode cX11_handler 33 = .ok (.iload 4, 2) := by decide +kernel
theorem dX11_handler_35 : decode cX11_handler 35 = .ok (.bipush 60, 2) := by decide +kernel
theorem dX11_handler_37 : decode cX11_handler 37 = .ok (.invokestatic 40, 3) := by decide +kernel
theorem dX11_handler_40 : decode cX11_handler 40 = .ok (.ifCond .eq 16, 3) := by decide +kernel
theorem dX11_handler_43 : decode cX11_handler 43 = .ok (.iload 5, 2) := by decide +kernel
theorem dX11_handler_45 : decode cX11_handler 45 = .ok (.iconst (-1), 1) := by decide +kernel
theorem dX11_handler_46 : decode cX11_handler 46 = .ok (.if_icmp .lt 10, 3) := by decide +kernel
theorem dX11_handler_49 : decode cX11_handler 49 = .ok (.iload 5, 2) := by decide +kernel
theorem dX11_handler_51 : decode cX11_handler 51 = .ok (.bipush 16, 2) := by decide +kernel
theorem dX11_handler_53 : decode cX11_handler 53 = .ok (.if_icmp .lt 6, 3) := by decide +kernel
theorem dX11_handler_56 : decode cX11_handler 56 = .ok (.bipush (-2), 2) := by decide +kernel
theorem dX11_handler_58 : decode cX11_handler 58 = .ok (.ireturn, 1) := by decide +kernel
theorem dX11_handler_59 : decode cX11_handler 59 = .ok (.aload 6, 2) := by decide +kernel
theorem dX11_handler_61 : decode cX11_handler 61 = .ok (.getfield 76, 3) := by decide +kernel
theorem dX11_handler_64 : decode cX11_handler 64 = .ok (.bipush 6, 2) := by decide +kernel
theorem dX11_handler_66 : decode cX11_handler 66 = .ok (.if_icmp .ne 6, 3) := by decide +kernel
theorem dX11_handler_69 : decode cX11_handler 69 = .ok (.bipush (-4), 2) := by decide +kernel
theorem dX11_handler_71 : decode cX11_handler 71 = .ok (.ireturn, 1) := by decide +kernel
theorem dX11_handler_72 : decode cX11_handler 72 = .ok (.aload_n 0, 1) := by decide +kernel
theorem dX11_handler_73 : decode cX11_handler 73 = .ok (.getfield 10, 3) := by decide +kernel
theorem dX11_handler_76 : decode cX11_handler 76 = .ok (.invokevirtual 47, 3) := by decide +kernel
theorem dX11_handler_79 : decode cX11_handler 79 = .ok (.aload 6, 2) := by decide +kernel
theorem dX11_handler_81 : decode cX11_handler 81 = .ok (.iload_n 2, 1) := by decide +kernel
theorem dX11_handler_82 : decode cX11_handler 82 = .ok (.iload_n 3, 1) := by decide +kernel
theorem dX11_handler_83 : decode cX11_handler 83 = .ok (.iload 4, 2) := by decide +kernel
theorem dX11_handler_85 : decode cX11_handler 85 = .ok (.iload 5, 2) := by decide +kernel
theorem dX11_handler_87 : decode cX11_handler 87 = .ok (.invokevirtual 79, 3) := by decide +kernel
theorem dX11_handler_90 : decode cX11_handler 90 = .ok (.ireturn, 1) := by decide +kernel
theorem dX11_init_0 : decode cX11_init 0 = .ok (.aload_n 0, 1) := by decide +kernel
theorem dX11_init_1 : decode cX11_init 1 = .ok (.invokespecial 1, 3) := by decide +kernel
theorem dX11_init_4 : decode cX11_init 4 = .ok (.aload_n 0, 1) := by decide +kernel
theorem dX11_init_5 : decode cX11_init 5 = .ok (.new 7, 3) := by decide +kernel
theorem dX11_init_8 : decode cX11_init 8 = .ok (.dup, 1) := by decide +kernel
theorem dX11_init_9 : decode cX11_init 9 = .ok (.invokespecial 9, 3) := by decide +kernel
theorem dX11_init_12 : decode cX11_init 12 = .ok (.putfield 10, 3) := by decide +kernel
theorem dX11_init_15 : decode cX11_init 15 = .ok (.aload_n 0, 1) := by decide +kernel
theorem dX11_init_16 : decode cX11_init 16 = .ok (.new 16, 3) := by decide +kernel
theorem dX11_init_19 : decode cX11_init 19 = .ok (.dup, 1) := by decide +kernel
theorem dX11_init_20 : decode cX11_init 20 = .ok (.aload_n 0, 1) := by decide +kernel
theorem dX11_init_21 : decode cX11_init 21 = .ok (.getfield 10, 3) := by decide +kernel
theorem dX11_init_24 : decode cX11_init 24 = .ok (.invokespecial 18, 3) := by decide +kernel
theorem dX11_init_27 : decode cX11_init 27 = .ok (.putfield 21, 3) := by decide +kernel
theorem dX11_init_30 : decode cX11_init 30 = .ok (.aload_n 0, 1) := by decide +kernel
theorem dX11_init_31 : decode cX11_init 31 = .ok (.new 25, 3) := by decide +kernel
theorem dX11_init_34 : decode cX11_init 34 = .ok (.dup, 1) := by decide +kernel
theorem dX11_init_35 : decode cX11_init 35 = .ok (.aload_n 0, 1) := by decide +kernel
theorem dX11_init_36 : decode cX11_init 36 = .ok (.getfield 10, 3) := by decide +kernel
theorem dX11_init_39 : decode cX11_init 39 = .ok (.invokespecial 27, 3) := by decide +kernel
theorem dX11_init_42 : decode cX11_init 42 = .ok (.putfield 28, 3) := by decide +kernel
theorem dX11_init_45 : decode cX11_init 45 = .ok (.aload_n 0, 1) := by decide +kernel
theorem dX11_init_46 : decode cX11_init 46 = .ok (.bipush 8, 2) := by decide +kernel
theorem dX11_init_48 : decode cX11_init 48 = .ok (.newarray .long, 2) := by decide +kernel
theorem dX11_init_50 : decode cX11_init 50 = .ok (.putfield 32, 3) := by decide +kernel
theorem dX11_init_53 : decode cX11_init 53 = .ok (.aload_n 0, 1) := by decide +kernel
theorem dX11_init_54 : decode cX11_init 54 = .ok (.iconst 0, 1) := by decide +kernel
theorem dX11_init_55 : decode cX11_init 55 = .ok (.putfield 36, 3) := by decide +kernel
theorem dX11_init_58 : decode cX11_init 58 = .ok (.return_, 1) := by decide +kernel
theorem dX11_judge_0 : decode cX11_judge 0 = .ok (.aload_n 0, 1) := by decide +kernel
theorem dX11_judge_1 : decode cX11_judge 1 = .ok (.getfield 10, 3) := by decide +kernel
theorem dX11_judge_4 : decode cX11_judge 4 = .ok (.iload_n 1, 1) := by decide +kernel
theorem dX11_judge_5 : decode cX11_judge 5 = .ok (.invokevirtual 54, 3) := by decide +kernel
theorem dX11_judge_8 : decode cX11_judge 8 = .ok (.astore_n 2, 1) := by decide +kernel
theorem dX11_judge_9 : decode cX11_judge 9 = .ok (.aload_n 2, 1) := by decide +kernel
theorem dX11_judge_10 : decode cX11_judge 10 = .ok (.ifnonnull 8, 3) := by decide +kernel
theorem dX11_judge_13 : decode cX11_judge 13 = .ok (.bipush (-2), 2) := by decide +kernel
theorem dX11_judge_15 : decode cX11_judge 15 = .ok (.goto 12, 3) := by decide +kernel
theorem dX11_judge_18 : decode cX11_judge 18 = .ok (.aload_n 0, 1) := by decide +kernel
theorem dX11_judge_19 : decode cX11_judge 19 = .ok (.getfield 21, 3) := by decide +kernel
theorem dX11_judge_22 : decode cX11_judge 22 = .ok (.iload_n 1, 1) := by decide +kernel
theorem dX11_judge_23 : decode cX11_judge 23 = .ok (.aload_n 2, 1) := by decide +kernel
theorem dX11_judge_24 : decode cX11_judge 24 = .ok (.invokevirtual 114, 3) := by decide +kernel
theorem dX11_judge_27 : decode cX11_judge 27 = .ok (.ireturn, 1) := by decide +kernel
theorem dX11_method_0 : decode cX11_method 0 = .ok (.iload_n 1, 1) := by decide +kernel
theorem dX11_method_1 : decode cX11_method 1 = .ok (.bipush 6, 2) := by decide +kernel
theorem dX11_method_3 : decode cX11_method 3 = .ok (.invokestatic 40, 3) := by decide +kernel
theorem dX11_method_6 : decode cX11_method 6 = .ok (.ifCond .ne 6, 3) := by decide +kernel
theorem dX11_method_9 : decode cX11_method 9 = .ok (.bipush (-2), 2) := by decide +kernel
theorem dX11_method_11 : decode cX11_method 11 = .ok (.ireturn, 1) := by decide +kernel
theorem dX11_method_12 : decode cX11_method 12 = .ok (.aload_n 0, 1) := by decide +kernel
theorem dX11_method_13 : decode cX11_method 13 = .ok (.getfield 10, 3) := by decide +kernel
theorem dX11_method_16 : decode cX11_method 16 = .ok (.getfield 44, 3) := by decide +kernel
theorem dX11_method_19 : decode cX11_method 19 = .ok (.bipush 8, 2) := by decide +kernel
theorem dX11_method_21 : decode cX11_method 21 = .ok (.if_icmp .ne 6, 3) := by decide +kernel
theorem dX11_method_24 : decode cX11_method 24 = .ok (.bipush (-4), 2) := by decide +kernel
theorem dX11_method_26 : decode cX11_method 26 = .ok (.ireturn, 1) := by decide +kernel
theorem dX11_method_27 : decode cX11_method 27 = .ok (.aload_n 0, 1) := by decide +kernel
theorem dX11_method_28 : decode cX11_method 28 = .ok (.getfield 10, 3) := by decide +kernel
theorem dX11_method_31 : decode cX11_method 31 = .ok (.invokevirtual 47, 3) := by decide +kernel
theorem dX11_method_34 : decode cX11_method 34 = .ok (.aload_n 0, 1) := by decide +kernel
theorem dX11_method_35 : decode cX11_method 35 = .ok (.getfield 10, 3) := by decide +kernel
theorem dX11_method_38 : decode cX11_method 38 = .ok (.iload_n 1, 1) := by decide +kernel
theorem dX11_method_39 : decode cX11_method 39 = .ok (.invokevirtual 50, 3) := by decide +kernel
theorem dX11_method_42 : decode cX11_method 42 = .ok (.ireturn, 1) := by decide +kernel
theorem dX11_op_0 : decode cX11_op 0 = .ok (.aload_n 0, 1) := by decide +kernel
theorem dX11_op_1 : decode cX11_op 1 = .ok (.getfield 10, 3) := by decide +kernel
theorem dX11_op_4 : decode cX11_op 4 = .ok (.iload_n 1, 1) := by decide +kernel
theorem dX11_op_5 : decode cX11_op 5 = .ok (.invokevirtual 54, 3) := by decide +kernel
theorem dX11_op_8 : decode cX11_op 8 = .ok (.astore 5, 2) := by decide +kernel
theorem dX11_op_10 : decode cX11_op 10 = .ok (.aload 5, 2) := by decide +kernel
theorem dX11_op_12 : decode cX11_op 12 = .ok (.ifnull 12, 3) := by decide +kernel
theorem dX11_op_15 : decode cX11_op 15 = .ok (.iload_n 2, 1) := by decide +kernel
theorem dX11_op_16 : decode cX11_op 16 = .ok (.bipush 36, 2) := by decide +kernel
theorem dX11_op_18 : decode cX11_op 18 = .ok (.invokestatic 40, 3) := by decide +kernel
theorem dX11_op_21 : decode cX11_op 21 = .ok (.ifCond .ne 6, 3) := by decide +kernel
theorem dX11_op_24 : decode cX11_op 24 = .ok (.bipush (-2), 2) := by decide +kernel
theorem dX11_op_26 : decode cX11_op 26 = .ok (.ireturn, 1) := by decide +kernel
theorem dX11_op_27 : decode cX11_op 27 = .ok (.aload 5, 2) := by decide +kernel
theorem dX11_op_29 : decode cX11_op 29 = .ok (.getfield 69, 3) := by decide +kernel
theorem dX11_op_32 : decode cX11_op 32 = .ok (.bipush 60, 2) := by decide +kernel
theorem dX11_op_34 : decode cX11_op 34 = .ok (.if_icmp .ne 6, 3) := by decide +kernel
theorem dX11_op_37 : decode cX11_op 37 = .ok (.bipush (-4), 2) := by decide +kernel
theorem dX11_op_39 : decode cX11_op 39 = .ok (.ireturn, 1) := by decide +kernel
theorem dX11_op_40 : decode cX11_op 40 = .ok (.aload_n 0, 1) := by decide +kernel
theorem dX11_op_41 : decode cX11_op 41 = .ok (.getfield 10, 3) := by decide +kernel
theorem dX11_op_44 : decode cX11_op 44 = .ok (.invokevirtual 47, 3) := by decide +kernel
theorem dX11_op_47 : decode cX11_op 47 = .ok (.aload 5, 2) := by decide +kernel
theorem dX11_op_49 : decode cX11_op 49 = .ok (.getfield 69, 3) := by decide +kernel
theorem dX11_op_52 : decode cX11_op 52 = .ok (.istore 6, 2) := by decide +kernel
theorem dX11_op_54 : decode cX11_op 54 = .ok (.aload 5, 2) := by decide +kernel
theorem dX11_op_56 : decode cX11_op 56 = .ok (.dup, 1) := by decide +kernel
theorem dX11_op_57 : decode cX11_op 57 = .ok (.getfield 69, 3) := by decide +kernel
theorem dX11_op_60 : decode cX11_op 60 = .ok (.iconst 1, 1) := by decide +kernel
theorem dX11_op_61 : decode cX11_op 61 = .ok (.iadd, 1) := by decide +kernel
theorem dX11_op_62 : decode cX11_op 62 = .ok (.putfield 69, 3) := by decide +kernel
theorem dX11_op_65 : decode cX11_op 65 = .ok (.aload 5, 2) := by decide +kernel
theorem dX11_op_67 : decode cX11_op 67 = .ok (.iload 6, 2) := by decide +kernel
theorem dX11_op_69 : decode cX11_op 69 = .ok (.iload_n 2, 1) := by decide +kernel
theorem dX11_op_70 : decode cX11_op 70 = .ok (.iload_n 3, 1) := by decide +kernel
theorem dX11_op_71 : decode cX11_op 71 = .ok (.iload 4, 2) := by decide +kernel
theorem dX11_op_73 : decode cX11_op 73 = .ok (.invokevirtual 72, 3) := by decide +kernel
theorem dX11_op_76 : decode cX11_op 76 = .ok (.iload 6, 2) := by decide +kernel
theorem dX11_op_78 : decode cX11_op 78 = .ok (.ireturn, 1) := by decide +kernel
theorem dX11_shape_0 : decode cX11_shape 0 = .ok (.aload_n 0, 1) := by decide +kernel
theorem dX11_shape_1 : decode cX11_shape 1 = .ok (.getfield 10, 3) := by decide +kernel
theorem dX11_shape_4 : decode cX11_shape 4 = .ok (.iload_n 1, 1) := by decide +kernel
theorem dX11_shape_5 : decode cX11_shape 5 = .ok (.invokevirtual 54, 3) := by decide +kernel
theorem dX11_shape_8 : decode cX11_shape 8 = .ok (.astore 4, 2) := by decide +kernel
theorem dX11_shape_10 : decode cX11_shape 10 = .ok (.aload 4, 2) := by decide +kernel
theorem dX11_shape_12 : decode cX11_shape 12 = .ok (.ifnull 27, 3) := by decide +kernel
theorem dX11_shape_15 : decode cX11_shape 15 = .ok (.iload_n 2, 1) := by decide +kernel
theorem dX11_shape_16 : decode cX11_shape 16 = .ok (.aload 4, 2) := by decide +kernel
theorem dX11_shape_18 : decode cX11_shape 18 = .ok (.getfield 69, 3) := by decide +kernel
theorem dX11_shape_21 : decode cX11_shape 21 = .ok (.invokestatic 40, 3) := by decide +kernel
theorem dX11_shape_24 : decode cX11_shape 24 = .ok (.ifCond .eq 15, 3) := by decide +kernel
theorem dX11_shape_27 : decode cX11_shape 27 = .ok (.iload_n 3, 1) := by decide +kernel
theorem dX11_shape_28 : decode cX11_shape 28 = .ok (.bipush (-17), 2) := by decide +kernel
theorem dX11_shape_30 : decode cX11_shape 30 = .ok (.if_icmp .lt 9, 3) := by decide +kernel
theorem dX11_shape_33 : decode cX11_shape 33 = .ok (.iload_n 3, 1) := by decide +kernel
theorem dX11_shape_34 : decode cX11_shape 34 = .ok (.bipush 12, 2) := by decide +kernel
theorem dX11_shape_36 : decode cX11_shape 36 = .ok (.if_icmp .lt 6, 3) := by decide +kernel
theorem dX11_shape_39 : decode cX11_shape 39 = .ok (.bipush (-2), 2) := by decide +kernel
theorem dX11_shape_41 : decode cX11_shape 41 = .ok (.ireturn, 1) := by decide +kernel
theorem dX11_shape_42 : decode cX11_shape 42 = .ok (.aload 4, 2) := by decide +kernel
theorem dX11_shape_44 : decode cX11_shape 44 = .ok (.getfield 128, 3) := by decide +kernel
theorem dX11_shape_47 : decode cX11_shape 47 = .ok (.ifCond .eq 16, 3) := by decide +kernel
theorem dX11_shape_50 : decode cX11_shape 50 = .ok (.aload 4, 2) := by decide +kernel
theorem dX11_shape_52 : decode cX11_shape 52 = .ok (.getfield 131, 3) := by decide +kernel
theorem dX11_shape_55 : decode cX11_shape 55 = .ok (.iload_n 2, 1) := by decide +kernel
theorem dX11_shape_56 : decode cX11_shape 56 = .ok (.iload_n 3, 1) := by decide +kernel
theorem dX11_shape_57 : decode cX11_shape 57 = .ok (.invokevirtual 135, 3) := by decide +kernel
theorem dX11_shape_60 : decode cX11_shape 60 = .ok (.goto 4, 3) := by decide +kernel
theorem dX11_shape_63 : decode cX11_shape 63 = .ok (.iconst (-1), 1) := by decide +kernel
theorem dX11_shape_64 : decode cX11_shape 64 = .ok (.ireturn, 1) := by decide +kernel
theorem dX11_table_0 : decode cX11_table 0 = .ok (.iload_n 3, 1) := by decide +kernel
theorem dX11_table_1 : decode cX11_table 1 = .ok (.bipush 60, 2) := by decide +kernel
theorem dX11_table_3 : decode cX11_table 3 = .ok (.invokestatic 40, 3) := by decide +kernel
theorem dX11_table_6 : decode cX11_table 6 = .ok (.ifCond .ne 6, 3) := by decide +kernel
theorem dX11_table_9 : decode cX11_table 9 = .ok (.bipush (-2), 2) := by decide +kernel
theorem dX11_table_11 : decode cX11_table 11 = .ok (.ireturn, 1) := by decide +kernel
theorem dX11_table_12 : decode cX11_table 12 = .ok (.aload_n 0, 1) := by decide +kernel
theorem dX11_table_13 : decode cX11_table 13 = .ok (.getfield 10, 3) := by decide +kernel
theorem dX11_table_16 : decode cX11_table 16 = .ok (.getfield 90, 3) := by decide +kernel
theorem dX11_table_19 : decode cX11_table 19 = .ok (.bipush 8, 2) := by decide +kernel
theorem dX11_table_21 : decode cX11_table 21 = .ok (.if_icmp .ne 6, 3) := by decide +kernel
theorem dX11_table_24 : decode cX11_table 24 = .ok (.bipush (-4), 2) := by decide +kernel
theorem dX11_table_26 : decode cX11_table 26 = .ok (.ireturn, 1) := by decide +kernel
theorem dX11_table_27 : decode cX11_table 27 = .ok (.aload_n 0, 1) := by decide +kernel
theorem dX11_table_28 : decode cX11_table 28 = .ok (.getfield 10, 3) := by decide +kernel
theorem dX11_table_31 : decode cX11_table 31 = .ok (.invokevirtual 47, 3) := by decide +kernel
theorem dX11_table_34 : decode cX11_table 34 = .ok (.aload_n 0, 1) := by decide +kernel
theorem dX11_table_35 : decode cX11_table 35 = .ok (.getfield 10, 3) := by decide +kernel
theorem dX11_table_38 : decode cX11_table 38 = .ok (.iload_n 1, 1) := by decide +kernel
theorem dX11_table_39 : decode cX11_table 39 = .ok (.iload_n 2, 1) := by decide +kernel
theorem dX11_table_40 : decode cX11_table 40 = .ok (.iload_n 3, 1) := by decide +kernel
theorem dX11_table_41 : decode cX11_table 41 = .ok (.invokevirtual 93, 3) := by decide +kernel
theorem dX11_table_44 : decode cX11_table 44 = .ok (.ireturn, 1) := by decide +kernel
theorem dX11_thing_0 : decode cX11_thing 0 = .ok (.aload_n 0, 1) := by decide +kernel
theorem dX11_thing_1 : decode cX11_thing 1 = .ok (.getfield 28, 3) := by decide +kernel
theorem dX11_thing_4 : decode cX11_thing 4 = .ok (.getfield 161, 3) := by decide +kernel
theorem dX11_thing_7 : decode cX11_thing 7 = .ok (.iload_n 1, 1) := by decide +kernel
theorem dX11_thing_8 : decode cX11_thing 8 = .ok (.iload_n 2, 1) := by decide +kernel
theorem dX11_thing_9 : decode cX11_thing 9 = .ok (.invokevirtual 165, 3) := by decide +kernel
theorem dX11_thing_12 : decode cX11_thing 12 = .ok (.ireturn, 1) := by decide +kernel
theorem dX11_told_0 : decode cX11_told 0 = .ok (.aload_n 0, 1) := by decide +kernel
theorem dX11_told_1 : decode cX11_told 1 = .ok (.getfield 28, 3) := by decide +kernel
theorem dX11_told_4 : decode cX11_told 4 = .ok (.iload_n 1, 1) := by decide +kernel
theorem dX11_told_5 : decode cX11_told 5 = .ok (.invokevirtual 158, 3) := by decide +kernel
theorem dX11_told_8 : decode cX11_told 8 = .ok (.ireturn, 1) := by decide +kernel
theorem dX11_value_0 : decode cX11_value 0 = .ok (.aload_n 0, 1) := by decide +kernel
theorem dX11_value_1 : decode cX11_value 1 = .ok (.getfield 28, 3) := by decide +kernel
theorem dX11_value_4 : decode cX11_value 4 = .ok (.getfield 154, 3) := by decide +kernel
theorem dX11_value_7 : decode cX11_value 7 = .ok (.lreturn, 1) := by decide +kernel
theorem dX11_walk_0 : decode cX11_walk 0 = .ok (.aload_n 0, 1) := by decide +kernel
theorem dX11_walk_1 : decode cX11_walk 1 = .ok (.getfield 10, 3) := by decide +kernel
theorem dX11_walk_4 : decode cX11_walk 4 = .ok (.iload_n 1, 1) := by decide +kernel
theorem dX11_walk_5 : decode cX11_walk 5 = .ok (.invokevirtual 54, 3) := by decide +kernel
theorem dX11_walk_8 : decode cX11_walk 8 = .ok (.astore_n 3, 1) := by decide +kernel
theorem dX11_walk_9 : decode cX11_walk 9 = .ok (.aload_n 3, 1) := by decide +kernel
theorem dX11_walk_10 : decode cX11_walk 10 = .ok (.ifnull 14, 3) := by decide +kernel
theorem dX11_walk_13 : decode cX11_walk 13 = .ok (.iload_n 2, 1) := by decide +kernel
theorem dX11_walk_14 : decode cX11_walk 14 = .ok (.ifCond .lt 10, 3) := by decide +kernel
theorem dX11_walk_17 : decode cX11_walk 17 = .ok (.iload_n 2, 1) := by decide +kernel
theorem dX11_walk_18 : decode cX11_walk 18 = .ok (.sipush 3000, 3) := by decide +kernel
theorem dX11_walk_21 : decode cX11_walk 21 = .ok (.if_icmp .le 6, 3) := by decide +kernel
theorem dX11_walk_24 : decode cX11_walk 24 = .ok (.bipush (-2), 2) := by decide +kernel
theorem dX11_walk_26 : decode cX11_walk 26 = .ok (.ireturn, 1) := by decide +kernel
theorem dX11_walk_27 : decode cX11_walk 27 = .ok (.aload_n 0, 1) := by decide +kernel
theorem dX11_walk_28 : decode cX11_walk 28 = .ok (.getfield 10, 3) := by decide +kernel
theorem dX11_walk_31 : decode cX11_walk 31 = .ok (.invokevirtual 140, 3) := by decide +kernel
theorem dX11_walk_34 : decode cX11_walk 34 = .ok (.ifCond .eq 14, 3) := by decide +kernel
theorem dX11_walk_37 : decode cX11_walk 37 = .ok (.aload_n 0, 1) := by decide +kernel
theorem dX11_walk_38 : decode cX11_walk 38 = .ok (.getfield 36, 3) := by decide +kernel
theorem dX11_walk_41 : decode cX11_walk 41 = .ok (.aload_n 3, 1) := by decide +kernel
theorem dX11_walk_42 : decode cX11_walk 42 = .ok (.getfield 144, 3) := by decide +kernel
theorem dX11_walk_45 : decode cX11_walk 45 = .ok (.if_icmp .eq 6, 3) := by decide +kernel
theorem dX11_walk_48 : decode cX11_walk 48 = .ok (.bipush (-3), 2) := by decide +kernel
theorem dX11_walk_50 : decode cX11_walk 50 = .ok (.ireturn, 1) := by decide +kernel
theorem dX11_walk_51 : decode cX11_walk 51 = .ok (.aload_n 0, 1) := by decide +kernel
theorem dX11_walk_52 : decode cX11_walk 52 = .ok (.iconst 0, 1) := by decide +kernel
theorem dX11_walk_53 : decode cX11_walk 53 = .ok (.putfield 36, 3) := by decide +kernel
theorem dX11_walk_56 : decode cX11_walk 56 = .ok (.aload_n 0, 1) := by decide +kernel
theorem dX11_walk_57 : decode cX11_walk 57 = .ok (.getfield 28, 3) := by decide +kernel
theorem dX11_walk_60 : decode cX11_walk 60 = .ok (.iload_n 1, 1) := by decide +kernel
theorem dX11_walk_61 : decode cX11_walk 61 = .ok (.aload_n 3, 1) := by decide +kernel
theorem dX11_walk_62 : decode cX11_walk 62 = .ok (.aload_n 0, 1) := by decide +kernel
theorem dX11_walk_63 : decode cX11_walk 63 = .ok (.getfield 32, 3) := by decide +kernel
theorem dX11_walk_66 : decode cX11_walk 66 = .ok (.invokevirtual 147, 3) := by decide +kernel
theorem dX11_walk_69 : decode cX11_walk 69 = .ok (.aload_n 0, 1) := by decide +kernel
theorem dX11_walk_70 : decode cX11_walk 70 = .ok (.getfield 28, 3) := by decide +kernel
theorem dX11_walk_73 : decode cX11_walk 73 = .ok (.iload_n 2, 1) := by decide +kernel
theorem dX11_walk_74 : decode cX11_walk 74 = .ok (.invokevirtual 151, 3) := by decide +kernel
theorem dX11_walk_77 : decode cX11_walk 77 = .ok (.ireturn, 1) := by decide +kernel
theorem dX12_in_0 : decode cX12_in 0 = .ok (.lload_n 0, 1) := by decide +kernel
theorem dX12_in_1 : decode cX12_in 1 = .ok (.lload_n 2, 1) := by decide +kernel
theorem dX12_in_2 : decode cX12_in 2 = .ok (.lcmp, 1) := by decide +kernel
theorem dX12_in_3 : decode cX12_in 3 = .ok (.ifCond .lt 14, 3) := by decide +kernel
theorem dX12_in_6 : decode cX12_in 6 = .ok (.lload_n 0, 1) := by decide +kernel
theorem dX12_in_7 : decode cX12_in 7 = .ok (.lload 4, 2) := by decide +kernel
theorem dX12_in_9 : decode cX12_in 9 = .ok (.lcmp, 1) := by decide +kernel
theorem dX12_in_10 : decode cX12_in 10 = .ok (.ifCond .gt 7, 3) := by decide +kernel
theorem dX12_in_13 : decode cX12_in 13 = .ok (.iconst 1, 1) := by decide +kernel
theorem dX12_in_14 : decode cX12_in 14 = .ok (.goto 4, 3) := by decide +kernel
theorem dX12_in_17 : decode cX12_in 17 = .ok (.iconst 0, 1) := by decide +kernel
theorem dX12_in_18 : decode cX12_in 18 = .ok (.ireturn, 1) := by decide +kernel
theorem dX12_isMethod_0 : decode cX12_isMethod 0 = .ok (.iload_n 1, 1) := by decide +kernel
theorem dX12_isMethod_1 : decode cX12_isMethod 1 = .ok (.i2l, 1) := by decide +kernel
theorem dX12_isMethod_2 : decode cX12_isMethod 2 = .ok (.lconst 0, 1) := by decide +kernel
theorem dX12_isMethod_3 : decode cX12_isMethod 3 = .ok (.aload_n 0, 1) := by decide +kernel
theorem dX12_isMethod_4 : decode cX12_isMethod 4 = .ok (.getfield 148, 3) := by decide +kernel
theorem dX12_isMethod_7 : decode cX12_isMethod 7 = .ok (.iconst 1, 1) := by decide +kernel
theorem dX12_isMethod_8 : decode cX12_isMethod 8 = .ok (.isub, 1) := by decide +kernel
theorem dX12_isMethod_9 : decode cX12_isMethod 9 = .ok (.i2l, 1) := by decide +kernel
theorem dX12_isMethod_10 : decode cX12_isMethod 10 = .ok (.invokestatic 151, 3) := by decide +kernel
theorem dX12_isMethod_13 : decode cX12_isMethod 13 = .ok (.ireturn, 1) := by decide +kernel
theorem dX12_change_0 : decode cX12_change 0 = .ok (.iconst 0, 1) := by decide +kernel
theorem dX12_change_1 : decode cX12_change 1 = .ok (.istore_n 1, 1) := by decide +kernel
theorem dX12_change_2 : decode cX12_change 2 = .ok (.iload_n 1, 1) := by decide +kernel
theorem dX12_change_3 : decode cX12_change 3 = .ok (.bipush 8, 2) := by decide +kernel
theorem dX12_change_5 : decode cX12_change 5 = .ok (.if_icmp .ge 16, 3) := by decide +kernel
theorem dX12_change_8 : decode cX12_change 8 = .ok (.aload_n 0, 1) := by decide +kernel
theorem dX12_change_9 : decode cX12_change 9 = .ok (.getfield 49, 3) := by decide +kernel
theorem dX12_change_12 : decode cX12_change 12 = .ok (.iload_n 1, 1) := by decide +kernel
theorem dX12_change_13 : decode cX12_change 13 = .ok (.iconst 0, 1) := by decide +kernel
theorem dX12_change_14 : decode cX12_change 14 = .ok (.bastore, 1) := by decide +kernel
theorem dX12_change_15 : decode cX12_change 15 = .ok (.iinc 1 1, 3) := by decide +kernel
theorem dX12_change_18 : decode cX12_change 18 = .ok (.goto (-16), 3) := by decide +kernel
theorem dX12_change_21 : decode cX12_change 21 = .ok (.iconst 0, 1) := by decide +kernel
theorem dX12_change_22 : decode cX12_change 22 = .ok (.istore_n 1, 1) := by decide +kernel
theorem dX12_change_23 : decode cX12_change 23 = .ok (.iload_n 1, 1) := by decide +kernel
theorem dX12_change_24 : decode cX12_change 24 = .ok (.sipush 480, 3) := by decide +kernel
theorem dX12_change_27 : decode cX12_change 27 = .ok (.if_icmp .ge 16, 3) := by decide +kernel
theorem dX12_change_30 : decode cX12_change 30 = .ok (.aload_n 0, 1) := by decide +kernel
theorem dX12_change_31 : decode cX12_change 31 = .ok (.getfield 75, 3) := by decide +kernel
theorem dX12_change_34 : decode cX12_change 34 = .ok (.iload_n 1, 1) := by decide +kernel
theorem dX12_change_35 : decode cX12_change 35 = .ok (.iconst 0, 1) := by decide +kernel
theorem dX12_change_36 : decode cX12_change 36 = .ok (.bastore, 1) := by decide +kernel
theorem dX12_change_37 : decode cX12_change 37 = .ok (.iinc 1 1, 3) := by decide +kernel
theorem dX12_change_40 : decode cX12_change 40 = .ok (.goto (-17), 3) := by decide +kernel
theorem dX12_change_43 : decode cX12_change 43 = .ok (.return_, 1) := by decide +kernel
theorem dX12_alter_0 : decode cX12_alter 0 = .ok (.aload_n 0, 1) := by decide +kernel
theorem dX12_alter_1 : decode cX12_alter 1 = .ok (.iload_n 1, 1) := by decide +kernel
theorem dX12_alter_2 : decode cX12_alter 2 = .ok (.invokevirtual 160, 3) := by decide +kernel
theorem dX12_alter_5 : decode cX12_alter 5 = .ok (.ifCond .eq 33, 3) := by decide +kernel
theorem dX12_alter_8 : decode cX12_alter 8 = .ok (.iload_n 2, 1) := by decide +kernel
theorem dX12_alter_9 : decode cX12_alter 9 = .ok (.i2l, 1) := by decide +kernel
theorem dX12_alter_10 : decode cX12_alter 10 = .ok (.lconst 0, 1) := by decide +kernel
theorem dX12_alter_11 : decode cX12_alter 11 = .ok (.aload_n 0, 1) := by decide +kernel
theorem dX12_alter_12 : decode cX12_alter 12 = .ok (.getfield 22, 3) := by decide +kernel
theorem dX12_alter_15 : decode cX12_alter 15 = .ok (.iload_n 1, 1) := by decide +kernel
theorem dX12_alter_16 : decode cX12_alter 16 = .ok (.iaload, 1) := by decide +kernel
theorem dX12_alter_17 : decode cX12_alter 17 = .ok (.iconst 1, 1) := by decide +kernel
theorem dX12_alter_18 : decode cX12_alter 18 = .ok (.isub, 1) := by decide +kernel
theorem dX12_alter_19 : decode cX12_alter 19 = .ok (.i2l, 1) := by decide +kernel
theorem dX12_alter_20 : decode cX12_alter 20 = .ok (.invokestatic 151, 3) := by decide +kernel
theorem dX12_alter_23 : decode cX12_alter 23 = .ok (.ifCond .eq 15, 3) := by decide +kernel
theorem dX12_alter_26 : decode cX12_alter 26 = .ok (.iload_n 3, 1) := by decide +kernel
theorem dX12_alter_27 : decode cX12_alter 27 = .ok (.i2l, 1) := by decide +kernel
theorem dX12_alter_28 : decode cX12_alter 28 = .ok (.lconst 0, 1) := by decide +kernel
theorem dX12_alter_29 : decode cX12_alter 29 = .ok (.ldc2_w 170, 3) := by decide +kernel
theorem dX12_alter_32 : decode cX12_alter 32 = .ok (.invokestatic 151, 3) := by decide +kernel
theorem dX12_alter_35 : decode cX12_alter 35 = .ok (.ifCond .ne 6, 3) := by decide +kernel
theorem dX12_alter_38 : decode cX12_alter 38 = .ok (.bipush (-2), 2) := by decide +kernel
theorem dX12_alter_40 : decode cX12_alter 40 = .ok (.ireturn, 1) := by decide +kernel
theorem dX12_alter_41 : decode cX12_alter 41 = .ok (.aload_n 0, 1) := by decide +kernel
theorem dX12_alter_42 : decode cX12_alter 42 = .ok (.invokevirtual 157, 3) := by decide +kernel
theorem dX12_alter_45 : decode cX12_alter 45 = .ok (.aload_n 0, 1) := by decide +kernel
theorem dX12_alter_46 : decode cX12_alter 46 = .ok (.getfield 25, 3) := by decide +kernel
theorem dX12_alter_49 : decode cX12_alter 49 = .ok (.bipush 60, 2) := by decide +kernel
theorem dX12_alter_51 : decode cX12_alter 51 = .ok (.iload_n 1, 1) := by decide +kernel
theorem dX12_alter_52 : decode cX12_alter 52 = .ok (.imul, 1) := by decide +kernel
theorem dX12_alter_53 : decode cX12_alter 53 = .ok (.iload_n 2, 1) := by decide +kernel
theorem dX12_alter_54 : decode cX12_alter 54 = .ok (.iadd, 1) := by decide +kernel
theorem dX12_alter_55 : decode cX12_alter 55 = .ok (.iload_n 3, 1) := by decide +kernel
theorem dX12_alter_56 : decode cX12_alter 56 = .ok (.iastore, 1) := by decide +kernel
theorem dX12_alter_57 : decode cX12_alter 57 = .ok (.aload_n 0, 1) := by decide +kernel
theorem dX12_alter_58 : decode cX12_alter 58 = .ok (.getfield 28, 3) := by decide +kernel
theorem dX12_alter_61 : decode cX12_alter 61 = .ok (.bipush 60, 2) := by decide +kernel
theorem dX12_alter_63 : decode cX12_alter 63 = .ok (.iload_n 1, 1) := by decide +kernel
theorem dX12_alter_64 : decode cX12_alter 64 = .ok (.imul, 1) := by decide +kernel
theorem dX12_alter_65 : decode cX12_alter 65 = .ok (.iload_n 2, 1) := by decide +kernel
theorem dX12_alter_66 : decode cX12_alter 66 = .ok (.iadd, 1) := by decide +kernel
theorem dX12_alter_67 : decode cX12_alter 67 = .ok (.iload 4, 2) := by decide +kernel
theorem dX12_alter_69 : decode cX12_alter 69 = .ok (.iastore, 1) := by decide +kernel
theorem dX12_alter_70 : decode cX12_alter 70 = .ok (.aload_n 0, 1) := by decide +kernel
theorem dX12_alter_71 : decode cX12_alter 71 = .ok (.getfield 31, 3) := by decide +kernel
theorem dX12_alter_74 : decode cX12_alter 74 = .ok (.bipush 60, 2) := by decide +kernel
theorem dX12_alter_76 : decode cX12_alter 76 = .ok (.iload_n 1, 1) := by decide +kernel
theorem dX12_alter_77 : decode cX12_alter 77 = .ok (.imul, 1) := by decide +kernel
theorem dX12_alter_78 : decode cX12_alter 78 = .ok (.iload_n 2, 1) := by decide +kernel
theorem dX12_alter_79 : decode cX12_alter 79 = .ok (.iadd, 1) := by decide +kernel
theorem dX12_alter_80 : decode cX12_alter 80 = .ok (.iload 5, 2) := by decide +kernel
theorem dX12_alter_82 : decode cX12_alter 82 = .ok (.iastore, 1) := by decide +kernel
theorem dX12_alter_83 : decode cX12_alter 83 = .ok (.iload_n 2, 1) := by decide +kernel
theorem dX12_alter_84 : decode cX12_alter 84 = .ok (.ireturn, 1) := by decide +kernel
theorem dX12_wordsOf_0 : decode cX12_wordsOf 0 = .ok (.iload_n 0, 1) := by decide +kernel
theorem dX12_wordsOf_1 : decode cX12_wordsOf 1 = .ok (.iconst 1, 1) := by decide +kernel
theorem dX12_wordsOf_2 : decode cX12_wordsOf 2 = .ok (.if_icmp .eq 8, 3) := by decide +kernel
theorem dX12_wordsOf_5 : decode cX12_wordsOf 5 = .ok (.iload_n 0, 1) := by decide +kernel
theorem dX12_wordsOf_6 : decode cX12_wordsOf 6 = .ok (.iconst 3, 1) := by decide +kernel
theorem dX12_wordsOf_7 : decode cX12_wordsOf 7 = .ok (.if_icmp .ne 7, 3) := by decide +kernel
theorem dX12_wordsOf_10 : decode cX12_wordsOf 10 = .ok (.iconst 2, 1) := by decide +kernel
theorem dX12_wordsOf_11 : decode cX12_wordsOf 11 = .ok (.goto 4, 3) := by decide +kernel
theorem dX12_wordsOf_14 : decode cX12_wordsOf 14 = .ok (.iconst 1, 1) := by decide +kernel
theorem dX12_wordsOf_15 : decode cX12_wordsOf 15 = .ok (.ireturn, 1) := by decide +kernel
theorem dX12_argument_0 : decode cX12_argument 0 = .ok (.aload_n 0, 1) := by decide +kernel
theorem dX12_argument_1 : decode cX12_argument 1 = .ok (.iload_n 1, 1) := by decide +kernel
theorem dX12_argument_2 : decode cX12_argument 2 = .ok (.invokevirtual 160, 3) := by decide +kernel
theorem dX12_argument_5 : decode cX12_argument 5 = .ok (.ifCond .eq 15, 3) := by decide +kernel
theorem dX12_argument_8 : decode cX12_argument 8 = .ok (.iload_n 2, 1) := by decide +kernel
theorem dX12_argument_9 : decode cX12_argument 9 = .ok (.i2l, 1) := by decide +kernel
theorem dX12_argument_10 : decode cX12_argument 10 = .ok (.lconst 0, 1) := by decide +kernel
theorem dX12_argument_11 : decode cX12_argument 11 = .ok (.ldc2_w 164, 3) := by decide +kernel
theorem dX12_argument_14 : decode cX12_argument 14 = .ok (.invokestatic 151, 3) := by decide +kernel
theorem dX12_argument_17 : decode cX12_argument 17 = .ok (.ifCond .ne 6, 3) := by decide +kernel
theorem dX12_argument_20 : decode cX12_argument 20 = .ok (.bipush (-2), 2) := by decide +kernel
theorem dX12_argument_22 : decode cX12_argument 22 = .ok (.ireturn, 1) := by decide +kernel
theorem dX12_argument_23 : decode cX12_argument 23 = .ok (.aload_n 0, 1) := by decide +kernel
theorem dX12_argument_24 : decode cX12_argument 24 = .ok (.getfield 16, 3) := by decide +kernel
theorem dX12_argument_27 : decode cX12_argument 27 = .ok (.iload_n 1, 1) := by decide +kernel
theorem dX12_argument_28 : decode cX12_argument 28 = .ok (.iaload, 1) := by decide +kernel
theorem dX12_argument_29 : decode cX12_argument 29 = .ok (.iload_n 2, 1) := by decide +kernel
theorem dX12_argument_30 : decode cX12_argument 30 = .ok (.invokestatic 166, 3) := by decide +kernel
theorem dX12_argument_33 : decode cX12_argument 33 = .ok (.iadd, 1) := by decide +kernel
theorem dX12_argument_34 : decode cX12_argument 34 = .ok (.bipush 8, 2) := by decide +kernel
theorem dX12_argument_36 : decode cX12_argument 36 = .ok (.if_icmp .le 6, 3) := by decide +kernel
theorem dX12_argument_39 : decode cX12_argument 39 = .ok (.bipush (-4), 2) := by decide +kernel
theorem dX12_argument_41 : decode cX12_argument 41 = .ok (.ireturn, 1) := by decide +kernel
theorem dX12_argument_42 : decode cX12_argument 42 = .ok (.aload_n 0, 1) := by decide +kernel
theorem dX12_argument_43 : decode cX12_argument 43 = .ok (.invokevirtual 157, 3) := by decide +kernel
theorem dX12_argument_46 : decode cX12_argument 46 = .ok (.aload_n 0, 1) := by decide +kernel
theorem dX12_argument_47 : decode cX12_argument 47 = .ok (.getfield 19, 3) := by decide +kernel
theorem dX12_argument_50 : decode cX12_argument 50 = .ok (.bipush 8, 2) := by decide +kernel
theorem dX12_argument_52 : decode cX12_argument 52 = .ok (.iload_n 1, 1) := by decide +kernel
theorem dX12_argument_53 : decode cX12_argument 53 = .ok (.imul, 1) := by decide +kernel
theorem dX12_argument_54 : decode cX12_argument 54 = .ok (.aload_n 0, 1) := by decide +kernel
theorem dX12_argument_55 : decode cX12_argument 55 = .ok (.getfield 13, 3) := by decide +kernel
theorem dX12_argument_58 : decode cX12_argument 58 = .ok (.iload_n 1, 1) := by decide +kernel
theorem dX12_argument_59 : decode cX12_argument 59 = .ok (.iaload, 1) := by decide +kernel
theorem dX12_argument_60 : decode cX12_argument 60 = .ok (.iadd, 1) := by decide +kernel
theorem dX12_argument_61 : decode cX12_argument 61 = .ok (.iload_n 2, 1) := by decide +kernel
theorem dX12_argument_62 : decode cX12_argument 62 = .ok (.iastore, 1) := by decide +kernel
theorem dX12_argument_63 : decode cX12_argument 63 = .ok (.aload_n 0, 1) := by decide +kernel
theorem dX12_argument_64 : decode cX12_argument 64 = .ok (.getfield 13, 3) := by decide +kernel
theorem dX12_argument_67 : decode cX12_argument 67 = .ok (.iload_n 1, 1) := by decide +kernel
theorem dX12_argument_68 : decode cX12_argument 68 = .ok (.dup2, 1) := by decide +kernel
theorem dX12_argument_69 : decode cX12_argument 69 = .ok (.iaload, 1) := by decide +kernel
theorem dX12_argument_70 : decode cX12_argument 70 = .ok (.iconst 1, 1) := by decide +kernel
theorem dX12_argument_71 : decode cX12_argument 71 = .ok (.iadd, 1) := by decide +kernel
theorem dX12_argument_72 : decode cX12_argument 72 = .ok (.iastore, 1) := by decide +kernel
theorem dX12_argument_73 : decode cX12_argument 73 = .ok (.aload_n 0, 1) := by decide +kernel
theorem dX12_argument_74 : decode cX12_argument 74 = .ok (.getfield 16, 3) := by decide +kernel
theorem dX12_argument_77 : decode cX12_argument 77 = .ok (.iload_n 1, 1) := by decide +kernel
theorem dX12_argument_78 : decode cX12_argument 78 = .ok (.dup2, 1) := by decide +kernel
theorem dX12_argument_79 : decode cX12_argument 79 = .ok (.iaload, 1) := by decide +kernel
theorem dX12_argument_80 : decode cX12_argument 80 = .ok (.iload_n 2, 1) := by decide +kernel
theorem dX12_argument_81 : decode cX12_argument 81 = .ok (.invokestatic 166, 3) := by decide +kernel
theorem dX12_argument_84 : decode cX12_argument 84 = .ok (.iadd, 1) := by decide +kernel
theorem dX12_argument_85 : decode cX12_argument 85 = .ok (.iastore, 1) := by decide +kernel
theorem dX12_argument_86 : decode cX12_argument 86 = .ok (.aload_n 0, 1) := by decide +kernel
theorem dX12_argument_87 : decode cX12_argument 87 = .ok (.getfield 16, 3) := by decide +kernel
theorem dX12_argument_90 : decode cX12_argument 90 = .ok (.iload_n 1, 1) := by decide +kernel
theorem dX12_argument_91 : decode cX12_argument 91 = .ok (.iaload, 1) := by decide +kernel
theorem dX12_argument_92 : decode cX12_argument 92 = .ok (.ireturn, 1) := by decide +kernel
theorem dX12_moveWords_0 : decode cX12_moveWords 0 = .ok (.bipush 32, 2) := by decide +kernel
theorem dX12_moveWords_2 : decode cX12_moveWords 2 = .ok (.iload_n 1, 1) := by decide +kernel
theorem dX12_moveWords_3 : decode cX12_moveWords 3 = .ok (.imul, 1) := by decide +kernel
theorem dX12_moveWords_4 : decode cX12_moveWords 4 = .ok (.istore_n 3, 1) := by decide +kernel
theorem dX12_moveWords_5 : decode cX12_moveWords 5 = .ok (.aload_n 0, 1) := by decide +kernel
theorem dX12_moveWords_6 : decode cX12_moveWords 6 = .ok (.getfield 136, 3) := by decide +kernel
theorem dX12_moveWords_9 : decode cX12_moveWords 9 = .ok (.iload_n 1, 1) := by decide +kernel
theorem dX12_moveWords_10 : decode cX12_moveWords 10 = .ok (.iaload, 1) := by decide +kernel
theorem dX12_moveWords_11 : decode cX12_moveWords 11 = .ok (.istore 4, 2) := by decide +kernel
theorem dX12_moveWords_13 : decode cX12_moveWords 13 = .ok (.iload_n 2, 1) := by decide +kernel
theorem dX12_moveWords_14 : decode cX12_moveWords 14 = .ok (.bipush 10, 2) := by decide +kernel
theorem dX12_moveWords_16 : decode cX12_moveWords 16 = .ok (.if_icmp .ge 17, 3) := by decide +kernel
theorem dX12_moveWords_19 : decode cX12_moveWords 19 = .ok (.aload_n 0, 1) := by decide +kernel
theorem dX12_moveWords_20 : decode cX12_moveWords 20 = .ok (.getfield 136, 3) := by decide +kernel
theorem dX12_moveWords_23 : decode cX12_moveWords 23 = .ok (.iload_n 1, 1) := by decide +kernel
theorem dX12_moveWords_24 : decode cX12_moveWords 24 = .ok (.dup2, 1) := by decide +kernel
theorem dX12_moveWords_25 : decode cX12_moveWords 25 = .ok (.iaload, 1) := by decide +kernel
theorem dX12_moveWords_26 : decode cX12_moveWords 26 = .ok (.iload_n 2, 1) := by decide +kernel
theorem dX12_moveWords_27 : decode cX12_moveWords 27 = .ok (.bipush 7, 2) := by decide +kernel
theorem dX12_moveWords_29 : decode cX12_moveWords 29 = .ok (.isub, 1) := by decide +kernel
theorem dX12_moveWords_30 : decode cX12_moveWords 30 = .ok (.isub, 1) := by decide +kernel
theorem dX12_moveWords_31 : decode cX12_moveWords 31 = .ok (.iastore, 1) := by decide +kernel
theorem dX12_moveWords_32 : decode cX12_moveWords 32 = .ok (.return_, 1) := by decide +kernel
theorem dX12_moveWords_33 : decode cX12_moveWords 33 = .ok (.iload_n 2, 1) := by decide +kernel
theorem dX12_moveWords_34 : decode cX12_moveWords 34 = .ok (.bipush 16, 2) := by decide +kernel
theorem dX12_moveWords_36 : decode cX12_moveWords 36 = .ok (.if_icmp .ne 52, 3) := by decide +kernel
theorem dX12_moveWords_39 : decode cX12_moveWords 39 = .ok (.aload_n 0, 1) := by decide +kernel
theorem dX12_moveWords_40 : decode cX12_moveWords 40 = .ok (.getfield 139, 3) := by decide +kernel
theorem dX12_moveWords_43 : decode cX12_moveWords 43 = .ok (.iload_n 3, 1) := by decide +kernel
theorem dX12_moveWords_44 : decode cX12_moveWords 44 = .ok (.iload 4, 2) := by decide +kernel
theorem dX12_moveWords_46 : decode cX12_moveWords 46 = .ok (.iadd, 1) := by decide +kernel
theorem dX12_moveWords_47 : decode cX12_moveWords 47 = .ok (.iconst 1, 1) := by decide +kernel
theorem dX12_moveWords_48 : decode cX12_moveWords 48 = .ok (.isub, 1) := by decide +kernel
theorem dX12_moveWords_49 : decode cX12_moveWords 49 = .ok (.laload, 1) := by decide +kernel
theorem dX12_moveWords_50 : decode cX12_moveWords 50 = .ok (.lstore 5, 2) := by decide +kernel
theorem dX12_moveWords_52 : decode cX12_moveWords 52 = .ok (.aload_n 0, 1) := by decide +kernel
theorem dX12_moveWords_53 : decode cX12_moveWords 53 = .ok (.getfield 139, 3) := by decide +kernel
theorem dX12_moveWords_56 : decode cX12_moveWords 56 = .ok (.iload_n 3, 1) := by decide +kernel
theorem dX12_moveWords_57 : decode cX12_moveWords 57 = .ok (.iload 4, 2) := by decide +kernel
theorem dX12_moveWords_59 : decode cX12_moveWords 59 = .ok (.iadd, 1) := by decide +kernel
theorem dX12_moveWords_60 : decode cX12_moveWords 60 = .ok (.iconst 1, 1) := by decide +kernel
theorem dX12_moveWords_61 : decode cX12_moveWords 61 = .ok (.isub, 1) := by decide +kernel
theorem dX12_moveWords_62 : decode cX12_moveWords 62 = .ok (.aload_n 0, 1) := by decide +kernel
theorem dX12_moveWords_63 : decode cX12_moveWords 63 = .ok (.getfield 139, 3) := by decide +kernel
theorem dX12_moveWords_66 : decode cX12_moveWords 66 = .ok (.iload_n 3, 1) := by decide +kernel
theorem dX12_moveWords_67 : decode cX12_moveWords 67 = .ok (.iload 4, 2) := by decide +kernel
theorem dX12_moveWords_69 : decode cX12_moveWords 69 = .ok (.iadd, 1) := by decide +kernel
theorem dX12_moveWords_70 : decode cX12_moveWords 70 = .ok (.iconst 2, 1) := by decide +kernel
theorem dX12_moveWords_71 : decode cX12_moveWords 71 = .ok (.isub, 1) := by decide +kernel
theorem dX12_moveWords_72 : decode cX12_moveWords 72 = .ok (.laload, 1) := by decide +kernel
theorem dX12_moveWords_73 : decode cX12_moveWords 73 = .ok (.lastore, 1) := by decide +kernel
theorem dX12_moveWords_74 : decode cX12_moveWords 74 = .ok (.aload_n 0, 1) := by decide +kernel
theorem dX12_moveWords_75 : decode cX12_moveWords 75 = .ok (.getfield 139, 3) := by decide +kernel
theorem dX12_moveWords_78 : decode cX12_moveWords 78 = .ok (.iload_n 3, 1) := by decide +kernel
theorem dX12_moveWords_79 : decode cX12_moveWords 79 = .ok (.iload 4, 2) := by decide +kernel
theorem dX12_moveWords_81 : decode cX12_moveWords 81 = .ok (.iadd, 1) := by decide +kernel
theorem dX12_moveWords_82 : decode cX12_moveWords 82 = .ok (.iconst 2, 1) := by decide +kernel
theorem dX12_moveWords_83 : decode cX12_moveWords 83 = .ok (.isub, 1) := by decide +kernel
theorem dX12_moveWords_84 : decode cX12_moveWords 84 = .ok (.lload 5, 2) := by decide +kernel
theorem dX12_moveWords_86 : decode cX12_moveWords 86 = .ok (.lastore, 1) := by decide +kernel
theorem dX12_moveWords_87 : decode cX12_moveWords 87 = .ok (.return_, 1) := by decide +kernel
theorem dX12_moveWords_88 : decode cX12_moveWords 88 = .ok (.iload_n 2, 1) := by decide +kernel
theorem dX12_moveWords_89 : decode cX12_moveWords 89 = .ok (.bipush 13, 2) := by decide +kernel
theorem dX12_moveWords_91 : decode cX12_moveWords 91 = .ok (.if_icmp .ge 7, 3) := by decide +kernel
theorem dX12_moveWords_94 : decode cX12_moveWords 94 = .ok (.iconst 1, 1) := by decide +kernel
theorem dX12_moveWords_95 : decode cX12_moveWords 95 = .ok (.goto 4, 3) := by decide +kernel
theorem dX12_moveWords_98 : decode cX12_moveWords 98 = .ok (.iconst 2, 1) := by decide +kernel
theorem dX12_moveWords_99 : decode cX12_moveWords 99 = .ok (.istore 5, 2) := by decide +kernel
theorem dX12_moveWords_101 : decode cX12_moveWords 101 = .ok (.iload_n 2, 1) := by decide +kernel
theorem dX12_moveWords_102 : decode cX12_moveWords 102 = .ok (.bipush 10, 2) := by decide +kernel
theorem dX12_moveWords_104 : decode cX12_moveWords 104 = .ok (.isub, 1) := by decide +kernel
theorem dX12_moveWords_105 : decode cX12_moveWords 105 = .ok (.iconst 3, 1) := by decide +kernel
theorem dX12_moveWords_106 : decode cX12_moveWords 106 = .ok (.irem, 1) := by decide +kernel
theorem dX12_moveWords_107 : decode cX12_moveWords 107 = .ok (.istore 6, 2) := by decide +kernel
theorem dX12_moveWords_109 : decode cX12_moveWords 109 = .ok (.iload 5, 2) := by decide +kernel
theorem dX12_moveWords_111 : decode cX12_moveWords 111 = .ok (.iload 6, 2) := by decide +kernel
theorem dX12_moveWords_113 : decode cX12_moveWords 113 = .ok (.iadd, 1) := by decide +kernel
theorem dX12_moveWords_114 : decode cX12_moveWords 114 = .ok (.iconst 1, 1) := by decide +kernel
theorem dX12_moveWords_115 : decode cX12_moveWords 115 = .ok (.isub, 1) := by decide +kernel
theorem dX12_moveWords_116 : decode cX12_moveWords 116 = .ok (.istore 7, 2) := by decide +kernel
theorem dX12_moveWords_118 : decode cX12_moveWords 118 = .ok (.iload 7, 2) := by decide +kernel
theorem dX12_moveWords_120 : decode cX12_moveWords 120 = .ok (.ifCond .lt 48, 3) := by decide +kernel
theorem dX12_moveWords_123 : decode cX12_moveWords 123 = .ok (.aload_n 0, 1) := by decide +kernel
theorem dX12_moveWords_124 : decode cX12_moveWords 124 = .ok (.getfield 139, 3) := by decide +kernel
theorem dX12_moveWords_127 : decode cX12_moveWords 127 = .ok (.iload_n 3, 1) := by decide +kernel
theorem dX12_moveWords_128 : decode cX12_moveWords 128 = .ok (.iload 4, 2) := by decide +kernel
theorem dX12_moveWords_130 : decode cX12_moveWords 130 = .ok (.iadd, 1) := by decide +kernel
theorem dX12_moveWords_131 : decode cX12_moveWords 131 = .ok (.iload 5, 2) := by decide +kernel
theorem dX12_moveWords_133 : decode cX12_moveWords 133 = .ok (.isub, 1) := by decide +kernel
theorem dX12_moveWords_134 : decode cX12_moveWords 134 = .ok (.iload 6, 2) := by decide +kernel
theorem dX12_moveWords_136 : decode cX12_moveWords 136 = .ok (.isub, 1) := by decide +kernel
theorem dX12_moveWords_137 : decode cX12_moveWords 137 = .ok (.iload 7, 2) := by decide +kernel
theorem dX12_moveWords_139 : decode cX12_moveWords 139 = .ok (.iadd, 1) := by decide +kernel
theorem dX12_moveWords_140 : decode cX12_moveWords 140 = .ok (.iload 5, 2) := by decide +kernel
theorem dX12_moveWords_142 : decode cX12_moveWords 142 = .ok (.iadd, 1) := by decide +kernel
theorem dX12_moveWords_143 : decode cX12_moveWords 143 = .ok (.aload_n 0, 1) := by decide +kernel
theorem dX12_moveWords_144 : decode cX12_moveWords 144 = .ok (.getfield 139, 3) := by decide +kernel
theorem dX12_moveWords_147 : decode cX12_moveWords 147 = .ok (.iload_n 3, 1) := by decide +kernel
theorem dX12_moveWords_148 : decode cX12_moveWords 148 = .ok (.iload 4, 2) := by decide +kernel
theorem dX12_moveWords_150 : decode cX12_moveWords 150 = .ok (.iadd, 1) := by decide +kernel
theorem dX12_moveWords_151 : decode cX12_moveWords 151 = .ok (.iload 5, 2) := by decide +kernel
theorem dX12_moveWords_153 : decode cX12_moveWords 153 = .ok (.isub, 1) := by decide +kernel
theorem dX12_moveWords_154 : decode cX12_moveWords 154 = .ok (.iload 6, 2) := by decide +kernel
theorem dX12_moveWords_156 : decode cX12_moveWords 156 = .ok (.isub, 1) := by decide +kernel
theorem dX12_moveWords_157 : decode cX12_moveWords 157 = .ok (.iload 7, 2) := by decide +kernel
theorem dX12_moveWords_159 : decode cX12_moveWords 159 = .ok (.iadd, 1) := by decide +kernel
theorem dX12_moveWords_160 : decode cX12_moveWords 160 = .ok (.laload, 1) := by decide +kernel
theorem dX12_moveWords_161 : decode cX12_moveWords 161 = .ok (.lastore, 1) := by decide +kernel
theorem dX12_moveWords_162 : decode cX12_moveWords 162 = .ok (.iinc 7 (-1), 3) := by decide +kernel
theorem dX12_moveWords_165 : decode cX12_moveWords 165 = .ok (.goto (-47), 3) := by decide +kernel
theorem dX12_moveWords_168 : decode cX12_moveWords 168 = .ok (.iconst 0, 1) := by decide +kernel
theorem dX12_moveWords_169 : decode cX12_moveWords 169 = .ok (.istore 7, 2) := by decide +kernel
theorem dX12_moveWords_171 : decode cX12_moveWords 171 = .ok (.iload 7, 2) := by decide +kernel
theorem dX12_moveWords_173 : decode cX12_moveWords 173 = .ok (.iload 5, 2) := by decide +kernel
theorem dX12_moveWords_175 : decode cX12_moveWords 175 = .ok (.if_icmp .ge 39, 3) := by decide +kernel
theorem dX12_moveWords_178 : decode cX12_moveWords 178 = .ok (.aload_n 0, 1) := by decide +kernel
theorem dX12_moveWords_179 : decode cX12_moveWords 179 = .ok (.getfield 139, 3) := by decide +kernel
theorem dX12_moveWords_182 : decode cX12_moveWords 182 = .ok (.iload_n 3, 1) := by decide +kernel
theorem dX12_moveWords_183 : decode cX12_moveWords 183 = .ok (.iload 4, 2) := by decide +kernel
theorem dX12_moveWords_185 : decode cX12_moveWords 185 = .ok (.iadd, 1) := by decide +kernel
theorem dX12_moveWords_186 : decode cX12_moveWords 186 = .ok (.iload 5, 2) := by decide +kernel
theorem dX12_moveWords_188 : decode cX12_moveWords 188 = .ok (.isub, 1) := by decide +kernel
theorem dX12_moveWords_189 : decode cX12_moveWords 189 = .ok (.iload 6, 2) := by decide +kernel
theorem dX12_moveWords_191 : decode cX12_moveWords 191 = .ok (.isub, 1) := by decide +kernel
theorem dX12_moveWords_192 : decode cX12_moveWords 192 = .ok (.iload 7, 2) := by decide +kernel
theorem dX12_moveWords_194 : decode cX12_moveWords 194 = .ok (.iadd, 1) := by decide +kernel
theorem dX12_moveWords_195 : decode cX12_moveWords 195 = .ok (.aload_n 0, 1) := by decide +kernel
theorem dX12_moveWords_196 : decode cX12_moveWords 196 = .ok (.getfield 139, 3) := by decide +kernel
theorem dX12_moveWords_199 : decode cX12_moveWords 199 = .ok (.iload_n 3, 1) := by decide +kernel
theorem dX12_moveWords_200 : decode cX12_moveWords 200 = .ok (.iload 4, 2) := by decide +kernel
theorem dX12_moveWords_202 : decode cX12_moveWords 202 = .ok (.iadd, 1) := by decide +kernel
theorem dX12_moveWords_203 : decode cX12_moveWords 203 = .ok (.iload 7, 2) := by decide +kernel
theorem dX12_moveWords_205 : decode cX12_moveWords 205 = .ok (.iadd, 1) := by decide +kernel
theorem dX12_moveWords_206 : decode cX12_moveWords 206 = .ok (.laload, 1) := by decide +kernel
theorem dX12_moveWords_207 : decode cX12_moveWords 207 = .ok (.lastore, 1) := by decide +kernel
theorem dX12_moveWords_208 : decode cX12_moveWords 208 = .ok (.iinc 7 1, 3) := by decide +kernel
theorem dX12_moveWords_211 : decode cX12_moveWords 211 = .ok (.goto (-40), 3) := by decide +kernel
theorem dX12_moveWords_214 : decode cX12_moveWords 214 = .ok (.aload_n 0, 1) := by decide +kernel
theorem dX12_moveWords_215 : decode cX12_moveWords 215 = .ok (.getfield 136, 3) := by decide +kernel
theorem dX12_moveWords_218 : decode cX12_moveWords 218 = .ok (.iload_n 1, 1) := by decide +kernel
theorem dX12_moveWords_219 : decode cX12_moveWords 219 = .ok (.dup2, 1) := by decide +kernel
theorem dX12_moveWords_220 : decode cX12_moveWords 220 = .ok (.iaload, 1) := by decide +kernel
theorem dX12_moveWords_221 : decode cX12_moveWords 221 = .ok (.iload 5, 2) := by decide +kernel
theorem dX12_moveWords_223 : decode cX12_moveWords 223 = .ok (.iadd, 1) := by decide +kernel
theorem dX12_moveWords_224 : decode cX12_moveWords 224 = .ok (.iastore, 1) := by decide +kernel
theorem dX12_moveWords_225 : decode cX12_moveWords 225 = .ok (.return_, 1) := by decide +kernel
theorem dX12_take_0 : decode cX12_take 0 = .ok (.aload_n 0, 1) := by decide +kernel
theorem dX12_take_1 : decode cX12_take 1 = .ok (.getfield 136, 3) := by decide +kernel
theorem dX12_take_4 : decode cX12_take 4 = .ok (.iload_n 1, 1) := by decide +kernel
theorem dX12_take_5 : decode cX12_take 5 = .ok (.dup2, 1) := by decide +kernel
theorem dX12_take_6 : decode cX12_take 6 = .ok (.iaload, 1) := by decide +kernel
theorem dX12_take_7 : decode cX12_take 7 = .ok (.iload_n 2, 1) := by decide +kernel
theorem dX12_take_8 : decode cX12_take 8 = .ok (.invokestatic 166, 3) := by decide +kernel
theorem dX12_take_11 : decode cX12_take 11 = .ok (.isub, 1) := by decide +kernel
theorem dX12_take_12 : decode cX12_take 12 = .ok (.iastore, 1) := by decide +kernel
theorem dX12_take_13 : decode cX12_take 13 = .ok (.aload_n 0, 1) := by decide +kernel
theorem dX12_take_14 : decode cX12_take 14 = .ok (.getfield 139, 3) := by decide +kernel
theorem dX12_take_17 : decode cX12_take 17 = .ok (.bipush 32, 2) := by decide +kernel
theorem dX12_take_19 : decode cX12_take 19 = .ok (.iload_n 1, 1) := by decide +kernel
theorem dX12_take_20 : decode cX12_take 20 = .ok (.imul, 1) := by decide +kernel
theorem dX12_take_21 : decode cX12_take 21 = .ok (.aload_n 0, 1) := by decide +kernel
theorem dX12_take_22 : decode cX12_take 22 = .ok (.getfield 136, 3) := by decide +kernel
theorem dX12_take_25 : decode cX12_take 25 = .ok (.iload_n 1, 1) := by decide +kernel
theorem dX12_take_26 : decode cX12_take 26 = .ok (.iaload, 1) := by decide +kernel
theorem dX12_take_27 : decode cX12_take 27 = .ok (.iadd, 1) := by decide +kernel
theorem dX12_take_28 : decode cX12_take 28 = .ok (.laload, 1) := by decide +kernel
theorem dX12_take_29 : decode cX12_take 29 = .ok (.lreturn, 1) := by decide +kernel
theorem dX12_put_0 : decode cX12_put 0 = .ok (.aload_n 0, 1) := by decide +kernel
theorem dX12_put_1 : decode cX12_put 1 = .ok (.getfield 139, 3) := by decide +kernel
theorem dX12_put_4 : decode cX12_put 4 = .ok (.bipush 32, 2) := by decide +kernel
theorem dX12_put_6 : decode cX12_put 6 = .ok (.iload_n 1, 1) := by decide +kernel
theorem dX12_put_7 : decode cX12_put 7 = .ok (.imul, 1) := by decide +kernel
theorem dX12_put_8 : decode cX12_put 8 = .ok (.aload_n 0, 1) := by decide +kernel
theorem dX12_put_9 : decode cX12_put 9 = .ok (.getfield 136, 3) := by decide +kernel
theorem dX12_put_12 : decode cX12_put 12 = .ok (.iload_n 1, 1) := by decide +kernel
theorem dX12_put_13 : decode cX12_put 13 = .ok (.iaload, 1) := by decide +kernel
theorem dX12_put_14 : decode cX12_put 14 = .ok (.iadd, 1) := by decide +kernel
theorem dX12_put_15 : decode cX12_put 15 = .ok (.lload_n 3, 1) := by decide +kernel
theorem dX12_put_16 : decode cX12_put 16 = .ok (.lastore, 1) := by decide +kernel
theorem dX12_put_17 : decode cX12_put 17 = .ok (.aload_n 0, 1) := by decide +kernel
theorem dX12_put_18 : decode cX12_put 18 = .ok (.getfield 136, 3) := by decide +kernel
theorem dX12_put_21 : decode cX12_put 21 = .ok (.iload_n 1, 1) := by decide +kernel
theorem dX12_put_22 : decode cX12_put 22 = .ok (.dup2, 1) := by decide +kernel
theorem dX12_put_23 : decode cX12_put 23 = .ok (.iaload, 1) := by decide +kernel
theorem dX12_put_24 : decode cX12_put 24 = .ok (.iload_n 2, 1) := by decide +kernel
theorem dX12_put_25 : decode cX12_put 25 = .ok (.invokestatic 166, 3) := by decide +kernel
theorem dX12_put_28 : decode cX12_put 28 = .ok (.iadd, 1) := by decide +kernel
theorem dX12_put_29 : decode cX12_put 29 = .ok (.iastore, 1) := by decide +kernel
theorem dX12_put_30 : decode cX12_put 30 = .ok (.return_, 1) := by decide +kernel
