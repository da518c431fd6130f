theorem dX9_useArray_0 : decode cX9_useArray 0 = .ok (.iload_n 2, 1) := by decide +kernel
theorem dX9_useArray_1 : decode cX9_useArray 1 = .ok (.tableswitch 92 24 28 #[35, 44, 52, 60, 66], 35) := by decide +kernel
theorem dX9_useArray_36 : decode cX9_useArray 36 = .ok (.aload_n 0, 1) := by decide +kernel
theorem dX9_useArray_37 : decode cX9_useArray 37 = .ok (.aload_n 1, 1) := by decide +kernel
theorem dX9_useArray_38 : decode cX9_useArray 38 = .ok (.iload_n 3, 1) := by decide +kernel
theorem dX9_useArray_39 : decode cX9_useArray 39 = .ok (.iload 4, 2) := by decide +kernel
theorem dX9_useArray_41 : decode cX9_useArray 41 = .ok (.invokevirtual 247, 3) := by decide +kernel
theorem dX9_useArray_44 : decode cX9_useArray 44 = .ok (.ireturn, 1) := by decide +kernel
theorem dX9_useArray_45 : decode cX9_useArray 45 = .ok (.aload_n 0, 1) := by decide +kernel
theorem dX9_useArray_46 : decode cX9_useArray 46 = .ok (.aload_n 1, 1) := by decide +kernel
theorem dX9_useArray_47 : decode cX9_useArray 47 = .ok (.iload 4, 2) := by decide +kernel
theorem dX9_useArray_49 : decode cX9_useArray 49 = .ok (.invokevirtual 250, 3) := by decide +kernel
theorem dX9_useArray_52 : decode cX9_useArray 52 = .ok (.ireturn, 1) := by decide +kernel
theorem dX9_useArray_53 : decode cX9_useArray 53 = .ok (.aload_n 0, 1) := by decide +kernel
theorem dX9_useArray_54 : decode cX9_useArray 54 = .ok (.aload_n 1, 1) := by decide +kernel
theorem dX9_useArray_55 : decode cX9_useArray 55 = .ok (.iload 4, 2) := by decide +kernel
theorem dX9_useArray_57 : decode cX9_useArray 57 = .ok (.invokevirtual 254, 3) := by decide +kernel
theorem dX9_useArray_60 : decode cX9_useArray 60 = .ok (.ireturn, 1) := by decide +kernel
theorem dX9_useArray_61 : decode cX9_useArray 61 = .ok (.aload_n 0, 1) := by decide +kernel
theorem dX9_useArray_62 : decode cX9_useArray 62 = .ok (.aload_n 1, 1) := by decide +kernel
theorem dX9_useArray_63 : decode cX9_useArray 63 = .ok (.invokevirtual 257, 3) := by decide +kernel
theorem dX9_useArray_66 : decode cX9_useArray 66 = .ok (.ireturn, 1) := by decide +kernel
theorem dX9_useArray_67 : decode cX9_useArray 67 = .ok (.aload_n 1, 1) := by decide +kernel
theorem dX9_useArray_68 : decode cX9_useArray 68 = .ok (.aload_n 0, 1) := by decide +kernel
theorem dX9_useArray_69 : decode cX9_useArray 69 = .ok (.getfield 12, 3) := by decide +kernel
theorem dX9_useArray_72 : decode cX9_useArray 72 = .ok (.aload_n 1, 1) := by decide +kernel
theorem dX9_useArray_73 : decode cX9_useArray 73 = .ok (.invokevirtual 231, 3) := by decide +kernel
theorem dX9_useArray_76 : decode cX9_useArray 76 = .ok (.iload_n 3, 1) := by decide +kernel
theorem dX9_useArray_77 : decode cX9_useArray 77 = .ok (.invokevirtual 261, 3) := by decide +kernel
theorem dX9_useArray_80 : decode cX9_useArray 80 = .ok (.ifCond .eq 7, 3) := by decide +kernel
theorem dX9_useArray_83 : decode cX9_useArray 83 = .ok (.lconst 1, 1) := by decide +kernel
theorem dX9_useArray_84 : decode cX9_useArray 84 = .ok (.goto 4, 3) := by decide +kernel
theorem dX9_useArray_87 : decode cX9_useArray 87 = .ok (.lconst 0, 1) := by decide +kernel
theorem dX9_useArray_88 : decode cX9_useArray 88 = .ok (.invokevirtual 198, 3) := by decide +kernel
theorem dX9_useArray_91 : decode cX9_useArray 91 = .ok (.iconst (-1), 1) := by decide +kernel
theorem dX9_useArray_92 : decode cX9_useArray 92 = .ok (.ireturn, 1) := by decide +kernel
theorem dX9_useArray_93 : decode cX9_useArray 93 = .ok (.aload_n 1, 1) := by decide +kernel
theorem dX9_useArray_94 : decode cX9_useArray 94 = .ok (.invokevirtual 231, 3) := by decide +kernel
theorem dX9_useArray_97 : decode cX9_useArray 97 = .ok (.istore 5, 2) := by decide +kernel
theorem dX9_useArray_99 : decode cX9_useArray 99 = .ok (.aload_n 1, 1) := by decide +kernel
theorem dX9_useArray_100 : decode cX9_useArray 100 = .ok (.iload 5, 2) := by decide +kernel
theorem dX9_useArray_102 : decode cX9_useArray 102 = .ok (.i2l, 1) := by decide +kernel
theorem dX9_useArray_103 : decode cX9_useArray 103 = .ok (.invokevirtual 198, 3) := by decide +kernel
theorem dX9_useArray_106 : decode cX9_useArray 106 = .ok (.iload 5, 2) := by decide +kernel
theorem dX9_useArray_108 : decode cX9_useArray 108 = .ok (.iconst (-1), 1) := by decide +kernel
theorem dX9_useArray_109 : decode cX9_useArray 109 = .ok (.if_icmp .eq 16, 3) := by decide +kernel
theorem dX9_useArray_112 : decode cX9_useArray 112 = .ok (.aload_n 0, 1) := by decide +kernel
theorem dX9_useArray_113 : decode cX9_useArray 113 = .ok (.getfield 12, 3) := by decide +kernel
theorem dX9_useArray_116 : decode cX9_useArray 116 = .ok (.iload 5, 2) := by decide +kernel
theorem dX9_useArray_118 : decode cX9_useArray 118 = .ok (.iload_n 3, 1) := by decide +kernel
theorem dX9_useArray_119 : decode cX9_useArray 119 = .ok (.invokevirtual 261, 3) := by decide +kernel
theorem dX9_useArray_122 : decode cX9_useArray 122 = .ok (.ifCond .eq 7, 3) := by decide +kernel
theorem dX9_useArray_125 : decode cX9_useArray 125 = .ok (.iconst (-1), 1) := by decide +kernel
theorem dX9_useArray_126 : decode cX9_useArray 126 = .ok (.goto 4, 3) := by decide +kernel
theorem dX9_useArray_129 : decode cX9_useArray 129 = .ok (.iconst 5, 1) := by decide +kernel
theorem dX9_useArray_130 : decode cX9_useArray 130 = .ok (.ireturn, 1) := by decide +kernel
theorem dX9_useFailure_0 : decode cX9_useFailure 0 = .ok (.iload_n 2, 1) := by decide +kernel
theorem dX9_useFailure_1 : decode cX9_useFailure 1 = .ok (.bipush 30, 2) := by decide +kernel
theorem dX9_useFailure_3 : decode cX9_useFailure 3 = .ok (.if_icmp .ne 33, 3) := by decide +kernel
theorem dX9_useFailure_6 : decode cX9_useFailure 6 = .ok (.aload_n 0, 1) := by decide +kernel
theorem dX9_useFailure_7 : decode cX9_useFailure 7 = .ok (.getfield 12, 3) := by decide +kernel
theorem dX9_useFailure_10 : decode cX9_useFailure 10 = .ok (.iload_n 3, 1) := by decide +kernel
theorem dX9_useFailure_11 : decode cX9_useFailure 11 = .ok (.invokevirtual 301, 3) := by decide +kernel
theorem dX9_useFailure_14 : decode cX9_useFailure 14 = .ok (.istore 4, 2) := by decide +kernel
theorem dX9_useFailure_16 : decode cX9_useFailure 16 = .ok (.aload_n 1, 1) := by decide +kernel
theorem dX9_useFailure_17 : decode cX9_useFailure 17 = .ok (.iload 4, 2) := by decide +kernel
theorem dX9_useFailure_19 : decode cX9_useFailure 19 = .ok (.i2l, 1) := by decide +kernel
theorem dX9_useFailure_20 : decode cX9_useFailure 20 = .ok (.invokevirtual 198, 3) := by decide +kernel
theorem dX9_useFailure_23 : decode cX9_useFailure 23 = .ok (.iload 4, 2) := by decide +kernel
theorem dX9_useFailure_25 : decode cX9_useFailure 25 = .ok (.iconst (-1), 1) := by decide +kernel
theorem dX9_useFailure_26 : decode cX9_useFailure 26 = .ok (.if_icmp .ne 8, 3) := by decide +kernel
theorem dX9_useFailure_29 : decode cX9_useFailure 29 = .ok (.bipush 7, 2) := by decide +kernel
theorem dX9_useFailure_31 : decode cX9_useFailure 31 = .ok (.goto 4, 3) := by decide +kernel
theorem dX9_useFailure_34 : decode cX9_useFailure 34 = .ok (.iconst (-1), 1) := by decide +kernel
theorem dX9_useFailure_35 : decode cX9_useFailure 35 = .ok (.ireturn, 1) := by decide +kernel
theorem dX9_useFailure_36 : decode cX9_useFailure 36 = .ok (.aload_n 1, 1) := by decide +kernel
theorem dX9_useFailure_37 : decode cX9_useFailure 37 = .ok (.invokevirtual 231, 3) := by decide +kernel
theorem dX9_useFailure_40 : decode cX9_useFailure 40 = .ok (.istore 4, 2) := by decide +kernel
theorem dX9_useFailure_42 : decode cX9_useFailure 42 = .ok (.iload 4, 2) := by decide +kernel
theorem dX9_useFailure_44 : decode cX9_useFailure 44 = .ok (.iconst (-1), 1) := by decide +kernel
theorem dX9_useFailure_45 : decode cX9_useFailure 45 = .ok (.if_icmp .ne 5, 3) := by decide +kernel
theorem dX9_useFailure_48 : decode cX9_useFailure 48 = .ok (.iconst 1, 1) := by decide +kernel
theorem dX9_useFailure_49 : decode cX9_useFailure 49 = .ok (.ireturn, 1) := by decide +kernel
theorem dX9_useFailure_50 : decode cX9_useFailure 50 = .ok (.aload_n 0, 1) := by decide +kernel
theorem dX9_useFailure_51 : decode cX9_useFailure 51 = .ok (.getfield 12, 3) := by decide +kernel
theorem dX9_useFailure_54 : decode cX9_useFailure 54 = .ok (.iload 4, 2) := by decide +kernel
theorem dX9_useFailure_56 : decode cX9_useFailure 56 = .ok (.invokevirtual 295, 3) := by decide +kernel
theorem dX9_useFailure_59 : decode cX9_useFailure 59 = .ok (.ifCond .eq 5, 3) := by decide +kernel
theorem dX9_useFailure_62 : decode cX9_useFailure 62 = .ok (.iconst 5, 1) := by decide +kernel
theorem dX9_useFailure_63 : decode cX9_useFailure 63 = .ok (.ireturn, 1) := by decide +kernel
theorem dX9_useFailure_64 : decode cX9_useFailure 64 = .ok (.aload_n 0, 1) := by decide +kernel
theorem dX9_useFailure_65 : decode cX9_useFailure 65 = .ok (.iload 4, 2) := by decide +kernel
theorem dX9_useFailure_67 : decode cX9_useFailure 67 = .ok (.putfield 61, 3) := by decide +kernel
theorem dX9_useFailure_70 : decode cX9_useFailure 70 = .ok (.aload_n 0, 1) := by decide +kernel
theorem dX9_useFailure_71 : decode cX9_useFailure 71 = .ok (.getfield 12, 3) := by decide +kernel
theorem dX9_useFailure_74 : decode cX9_useFailure 74 = .ok (.iload 4, 2) := by decide +kernel
theorem dX9_useFailure_76 : decode cX9_useFailure 76 = .ok (.invokevirtual 304, 3) := by decide +kernel
theorem dX9_useFailure_79 : decode cX9_useFailure 79 = .ok (.ireturn, 1) := by decide +kernel
theorem dX9_useMonitor_0 : decode cX9_useMonitor 0 = .ok (.aload_n 1, 1) := by decide +kernel
theorem dX9_useMonitor_1 : decode cX9_useMonitor 1 = .ok (.getfield 126, 3) := by decide +kernel
theorem dX9_useMonitor_4 : decode cX9_useMonitor 4 = .ok (.invokevirtual 231, 3) := by decide +kernel
theorem dX9_useMonitor_7 : decode cX9_useMonitor 7 = .ok (.istore_n 3, 1) := by decide +kernel
theorem dX9_useMonitor_8 : decode cX9_useMonitor 8 = .ok (.iload_n 3, 1) := by decide +kernel
theorem dX9_useMonitor_9 : decode cX9_useMonitor 9 = .ok (.bipush 60, 2) := by decide +kernel
theorem dX9_useMonitor_11 : decode cX9_useMonitor 11 = .ok (.invokestatic 141, 3) := by decide +kernel
theorem dX9_useMonitor_14 : decode cX9_useMonitor 14 = .ok (.ifCond .ne 5, 3) := by decide +kernel
theorem dX9_useMonitor_17 : decode cX9_useMonitor 17 = .ok (.iconst 1, 1) := by decide +kernel
theorem dX9_useMonitor_18 : decode cX9_useMonitor 18 = .ok (.ireturn, 1) := by decide +kernel
theorem dX9_useMonitor_19 : decode cX9_useMonitor 19 = .ok (.iload_n 2, 1) := by decide +kernel
theorem dX9_useMonitor_20 : decode cX9_useMonitor 20 = .ok (.bipush 33, 2) := by decide +kernel
theorem dX9_useMonitor_22 : decode cX9_useMonitor 22 = .ok (.if_icmp .ne 15, 3) := by decide +kernel
theorem dX9_useMonitor_25 : decode cX9_useMonitor 25 = .ok (.aload_n 1, 1) := by decide +kernel
theorem dX9_useMonitor_26 : decode cX9_useMonitor 26 = .ok (.getfield 307, 3) := by decide +kernel
theorem dX9_useMonitor_29 : decode cX9_useMonitor 29 = .ok (.iload_n 3, 1) := by decide +kernel
theorem dX9_useMonitor_30 : decode cX9_useMonitor 30 = .ok (.iaload, 1) := by decide +kernel
theorem dX9_useMonitor_31 : decode cX9_useMonitor 31 = .ok (.ifCond .ne 6, 3) := by decide +kernel
theorem dX9_useMonitor_34 : decode cX9_useMonitor 34 = .ok (.bipush 6, 2) := by decide +kernel
theorem dX9_useMonitor_36 : decode cX9_useMonitor 36 = .ok (.ireturn, 1) := by decide +kernel
theorem dX9_useMonitor_37 : decode cX9_useMonitor 37 = .ok (.iload_n 2, 1) := by decide +kernel
theorem dX9_useMonitor_38 : decode cX9_useMonitor 38 = .ok (.bipush 32, 2) := by decide +kernel
theorem dX9_useMonitor_40 : decode cX9_useMonitor 40 = .ok (.if_icmp .ne 7, 3) := by decide +kernel
theorem dX9_useMonitor_43 : decode cX9_useMonitor 43 = .ok (.iconst 1, 1) := by decide +kernel
theorem dX9_useMonitor_44 : decode cX9_useMonitor 44 = .ok (.goto 4, 3) := by decide +kernel
theorem dX9_useMonitor_47 : decode cX9_useMonitor 47 = .ok (.iconst (-1), 1) := by decide +kernel
theorem dX9_useMonitor_48 : decode cX9_useMonitor 48 = .ok (.istore 4, 2) := by decide +kernel
theorem dX9_useMonitor_50 : decode cX9_useMonitor 50 = .ok (.aload_n 1, 1) := by decide +kernel
theorem dX9_useMonitor_51 : decode cX9_useMonitor 51 = .ok (.getfield 307, 3) := by decide +kernel
theorem dX9_useMonitor_54 : decode cX9_useMonitor 54 = .ok (.iload_n 3, 1) := by decide +kernel
theorem dX9_useMonitor_55 : decode cX9_useMonitor 55 = .ok (.dup2, 1) := by decide +kernel
theorem dX9_useMonitor_56 : decode cX9_useMonitor 56 = .ok (.iaload, 1) := by decide +kernel
theorem dX9_useMonitor_57 : decode cX9_useMonitor 57 = .ok (.iload 4, 2) := by decide +kernel
theorem dX9_useMonitor_59 : decode cX9_useMonitor 59 = .ok (.iadd, 1) := by decide +kernel
theorem dX9_useMonitor_60 : decode cX9_useMonitor 60 = .ok (.iastore, 1) := by decide +kernel
theorem dX9_useMonitor_61 : decode cX9_useMonitor 61 = .ok (.aload_n 1, 1) := by decide +kernel
theorem dX9_useMonitor_62 : decode cX9_useMonitor 62 = .ok (.dup, 1) := by decide +kernel
theorem dX9_useMonitor_63 : decode cX9_useMonitor 63 = .ok (.getfield 310, 3) := by decide +kernel
theorem dX9_useMonitor_66 : decode cX9_useMonitor 66 = .ok (.iload 4, 2) := by decide +kernel
theorem dX9_useMonitor_68 : decode cX9_useMonitor 68 = .ok (.iadd, 1) := by decide +kernel
theorem dX9_useMonitor_69 : decode cX9_useMonitor 69 = .ok (.putfield 310, 3) := by decide +kernel
theorem dX9_useMonitor_72 : decode cX9_useMonitor 72 = .ok (.aload_n 0, 1) := by decide +kernel
theorem dX9_useMonitor_73 : decode cX9_useMonitor 73 = .ok (.getfield 12, 3) := by decide +kernel
theorem dX9_useMonitor_76 : decode cX9_useMonitor 76 = .ok (.getfield 313, 3) := by decide +kernel
theorem dX9_useMonitor_79 : decode cX9_useMonitor 79 = .ok (.iload_n 3, 1) := by decide +kernel
theorem dX9_useMonitor_80 : decode cX9_useMonitor 80 = .ok (.dup2, 1) := by decide +kernel
theorem dX9_useMonitor_81 : decode cX9_useMonitor 81 = .ok (.iaload, 1) := by decide +kernel
theorem dX9_useMonitor_82 : decode cX9_useMonitor 82 = .ok (.iload 4, 2) := by decide +kernel
theorem dX9_useMonitor_84 : decode cX9_useMonitor 84 = .ok (.iadd, 1) := by decide +kernel
theorem dX9_useMonitor_85 : decode cX9_useMonitor 85 = .ok (.iastore, 1) := by decide +kernel
theorem dX9_useMonitor_86 : decode cX9_useMonitor 86 = .ok (.iconst (-1), 1) := by decide +kernel
theorem dX9_useMonitor_87 : decode cX9_useMonitor 87 = .ok (.ireturn, 1) := by decide +kernel
theorem dX9_perform_0 : decode cX9_perform 0 = .ok (.iload_n 2, 1) := by decide +kernel
theorem dX9_perform_1 : decode cX9_perform 1 = .ok (.iconst 4, 1) := by decide +kernel
theorem dX9_perform_2 : decode cX9_perform 2 = .ok (.if_icmp .gt 14, 3) := by decide +kernel
theorem dX9_perform_5 : decode cX9_perform 5 = .ok (.aload_n 0, 1) := by decide +kernel
theorem dX9_perform_6 : decode cX9_perform 6 = .ok (.aload_n 1, 1) := by decide +kernel
theorem dX9_perform_7 : decode cX9_perform 7 = .ok (.getfield 126, 3) := by decide +kernel
theorem dX9_perform_10 : decode cX9_perform 10 = .ok (.iload_n 2, 1) := by decide +kernel
theorem dX9_perform_11 : decode cX9_perform 11 = .ok (.iload_n 3, 1) := by decide +kernel
theorem dX9_perform_12 : decode cX9_perform 12 = .ok (.invokevirtual 154, 3) := by decide +kernel
theorem dX9_perform_15 : decode cX9_perform 15 = .ok (.ireturn, 1) := by decide +kernel
theorem dX9_perform_16 : decode cX9_perform 16 = .ok (.iload_n 2, 1) := by decide +kernel
theorem dX9_perform_17 : decode cX9_perform 17 = .ok (.bipush 7, 2) := by decide +kernel
theorem dX9_perform_19 : decode cX9_perform 19 = .ok (.if_icmp .gt 13, 3) := by decide +kernel
theorem dX9_perform_22 : decode cX9_perform 22 = .ok (.aload_n 0, 1) := by decide +kernel
theorem dX9_perform_23 : decode cX9_perform 23 = .ok (.aload_n 1, 1) := by decide +kernel
theorem dX9_perform_24 : decode cX9_perform 24 = .ok (.iload_n 2, 1) := by decide +kernel
theorem dX9_perform_25 : decode cX9_perform 25 = .ok (.iload_n 3, 1) := by decide +kernel
theorem dX9_perform_26 : decode cX9_perform 26 = .ok (.iload 4, 2) := by decide +kernel
theorem dX9_perform_28 : decode cX9_perform 28 = .ok (.invokevirtual 158, 3) := by decide +kernel
theorem dX9_perform_31 : decode cX9_perform 31 = .ok (.ireturn, 1) := by decide +kernel
theorem dX9_perform_32 : decode cX9_perform 32 = .ok (.iload_n 2, 1) := by decide +kernel
theorem dX9_perform_33 : decode cX9_perform 33 = .ok (.bipush 16, 2) := by decide +kernel
theorem dX9_perform_35 : decode cX9_perform 35 = .ok (.if_icmp .gt 13, 3) := by decide +kernel
theorem dX9_perform_38 : decode cX9_perform 38 = .ok (.aload_n 1, 1) := by decide +kernel
theorem dX9_perform_39 : decode cX9_perform 39 = .ok (.getfield 126, 3) := by decide +kernel
theorem dX9_perform_42 : decode cX9_perform 42 = .ok (.iload_n 2, 1) := by decide +kernel
theorem dX9_perform_43 : decode cX9_perform 43 = .ok (.invokevirtual 161, 3) := by decide +kernel
theorem dX9_perform_46 : decode cX9_perform 46 = .ok (.iconst (-1), 1) := by decide +kernel
theorem dX9_perform_47 : decode cX9_perform 47 = .ok (.ireturn, 1) := by decide +kernel
theorem dX9_perform_48 : decode cX9_perform 48 = .ok (.iload_n 2, 1) := by decide +kernel
theorem dX9_perform_49 : decode cX9_perform 49 = .ok (.bipush 19, 2) := by decide +kernel
theorem dX9_perform_51 : decode cX9_perform 51 = .ok (.if_icmp .gt 16, 3) := by decide +kernel
theorem dX9_perform_54 : decode cX9_perform 54 = .ok (.aload_n 0, 1) := by decide +kernel
theorem dX9_perform_55 : decode cX9_perform 55 = .ok (.aload_n 1, 1) := by decide +kernel
theorem dX9_perform_56 : decode cX9_perform 56 = .ok (.getfield 126, 3) := by decide +kernel
theorem dX9_perform_59 : decode cX9_perform 59 = .ok (.iload_n 2, 1) := by decide +kernel
theorem dX9_perform_60 : decode cX9_perform 60 = .ok (.iload_n 3, 1) := by decide +kernel
theorem dX9_perform_61 : decode cX9_perform 61 = .ok (.iload 4, 2) := by decide +kernel
theorem dX9_perform_63 : decode cX9_perform 63 = .ok (.invokevirtual 165, 3) := by decide +kernel
theorem dX9_perform_66 : decode cX9_perform 66 = .ok (.ireturn, 1) := by decide +kernel
theorem dX9_perform_67 : decode cX9_perform 67 = .ok (.iload_n 2, 1) := by decide +kernel
theorem dX9_perform_68 : decode cX9_perform 68 = .ok (.bipush 23, 2) := by decide +kernel
theorem dX9_perform_70 : decode cX9_perform 70 = .ok (.if_icmp .gt 13, 3) := by decide +kernel
theorem dX9_perform_73 : decode cX9_perform 73 = .ok (.aload_n 0, 1) := by decide +kernel
theorem dX9_perform_74 : decode cX9_perform 74 = .ok (.aload_n 1, 1) := by decide +kernel
theorem dX9_perform_75 : decode cX9_perform 75 = .ok (.iload_n 2, 1) := by decide +kernel
theorem dX9_perform_76 : decode cX9_perform 76 = .ok (.iload_n 3, 1) := by decide +kernel
theorem dX9_perform_77 : decode cX9_perform 77 = .ok (.iload 4, 2) := by decide +kernel
theorem dX9_perform_79 : decode cX9_perform 79 = .ok (.invokevirtual 169, 3) := by decide +kernel
theorem dX9_perform_82 : decode cX9_perform 82 = .ok (.ireturn, 1) := by decide +kernel
theorem dX9_perform_83 : decode cX9_perform 83 = .ok (.iload_n 2, 1) := by decide +kernel
theorem dX9_perform_84 : decode cX9_perform 84 = .ok (.bipush 29, 2) := by decide +kernel
theorem dX9_perform_86 : decode cX9_perform 86 = .ok (.if_icmp .gt 16, 3) := by decide +kernel
theorem dX9_perform_89 : decode cX9_perform 89 = .ok (.aload_n 0, 1) := by decide +kernel
theorem dX9_perform_90 : decode cX9_perform 90 = .ok (.aload_n 1, 1) := by decide +kernel
theorem dX9_perform_91 : decode cX9_perform 91 = .ok (.getfield 126, 3) := by decide +kernel
theorem dX9_perform_94 : decode cX9_perform 94 = .ok (.iload_n 2, 1) := by decide +kernel
theorem dX9_perform_95 : decode cX9_perform 95 = .ok (.iload_n 3, 1) := by decide +kernel
theorem dX9_perform_96 : decode cX9_perform 96 = .ok (.iload 4, 2) := by decide +kernel
theorem dX9_perform_98 : decode cX9_perform 98 = .ok (.invokevirtual 172, 3) := by decide +kernel
theorem dX9_perform_101 : decode cX9_perform 101 = .ok (.ireturn, 1) := by decide +kernel
theorem dX9_perform_102 : decode cX9_perform 102 = .ok (.iload_n 2, 1) := by decide +kernel
theorem dX9_perform_103 : decode cX9_perform 103 = .ok (.bipush 31, 2) := by decide +kernel
theorem dX9_perform_105 : decode cX9_perform 105 = .ok (.if_icmp .gt 14, 3) := by decide +kernel
theorem dX9_perform_108 : decode cX9_perform 108 = .ok (.aload_n 0, 1) := by decide +kernel
theorem dX9_perform_109 : decode cX9_perform 109 = .ok (.aload_n 1, 1) := by decide +kernel
theorem dX9_perform_110 : decode cX9_perform 110 = .ok (.getfield 126, 3) := by decide +kernel
theorem dX9_perform_113 : decode cX9_perform 113 = .ok (.iload_n 2, 1) := by decide +kernel
theorem dX9_perform_114 : decode cX9_perform 114 = .ok (.iload_n 3, 1) := by decide +kernel
theorem dX9_perform_115 : decode cX9_perform 115 = .ok (.invokevirtual 175, 3) := by decide +kernel
theorem dX9_perform_118 : decode cX9_perform 118 = .ok (.ireturn, 1) := by decide +kernel
theorem dX9_perform_119 : decode cX9_perform 119 = .ok (.iload_n 2, 1) := by decide +kernel
theorem dX9_perform_120 : decode cX9_perform 120 = .ok (.bipush 33, 2) := by decide +kernel
theorem dX9_perform_122 : decode cX9_perform 122 = .ok (.if_icmp .gt 10, 3) := by decide +kernel
theorem dX9_perform_125 : decode cX9_perform 125 = .ok (.aload_n 0, 1) := by decide +kernel
theorem dX9_perform_126 : decode cX9_perform 126 = .ok (.aload_n 1, 1) := by decide +kernel
theorem dX9_perform_127 : decode cX9_perform 127 = .ok (.iload_n 2, 1) := by decide +kernel
theorem dX9_perform_128 : decode cX9_perform 128 = .ok (.invokevirtual 178, 3) := by decide +kernel
theorem dX9_perform_131 : decode cX9_perform 131 = .ok (.ireturn, 1) := by decide +kernel
theorem dX9_perform_132 : decode cX9_perform 132 = .ok (.iload_n 2, 1) := by decide +kernel
theorem dX9_perform_133 : decode cX9_perform 133 = .ok (.bipush 34, 2) := by decide +kernel
theorem dX9_perform_135 : decode cX9_perform 135 = .ok (.if_icmp .ne 11, 3) := by decide +kernel
theorem dX9_perform_138 : decode cX9_perform 138 = .ok (.aload_n 0, 1) := by decide +kernel
theorem dX9_perform_139 : decode cX9_perform 139 = .ok (.aload_n 1, 1) := by decide +kernel
theorem dX9_perform_140 : decode cX9_perform 140 = .ok (.invokevirtual 182, 3) := by decide +kernel
theorem dX9_perform_143 : decode cX9_perform 143 = .ok (.goto 9, 3) := by decide +kernel
theorem dX9_perform_146 : decode cX9_perform 146 = .ok (.aload_n 0, 1) := by decide +kernel
theorem dX9_perform_147 : decode cX9_perform 147 = .ok (.aload_n 1, 1) := by decide +kernel
theorem dX9_perform_148 : decode cX9_perform 148 = .ok (.iload_n 3, 1) := by decide +kernel
theorem dX9_perform_149 : decode cX9_perform 149 = .ok (.invokevirtual 186, 3) := by decide +kernel
theorem dX9_perform_152 : decode cX9_perform 152 = .ok (.ireturn, 1) := by decide +kernel
theorem dX9_raise_0 : decode cX9_raise 0 = .ok (.aload_n 0, 1) := by decide +kernel
theorem dX9_raise_1 : decode cX9_raise 1 = .ok (.getfield 61, 3) := by decide +kernel
theorem dX9_raise_4 : decode cX9_raise 4 = .ok (.iconst (-1), 1) := by decide +kernel
theorem dX9_raise_5 : decode cX9_raise 5 = .ok (.if_icmp .ne 14, 3) := by decide +kernel
theorem dX9_raise_8 : decode cX9_raise 8 = .ok (.aload_n 0, 1) := by decide +kernel
theorem dX9_raise_9 : decode cX9_raise 9 = .ok (.getfield 12, 3) := by decide +kernel
theorem dX9_raise_12 : decode cX9_raise 12 = .ok (.iload_n 1, 1) := by decide +kernel
theorem dX9_raise_13 : decode cX9_raise 13 = .ok (.invokevirtual 301, 3) := by decide +kernel
theorem dX9_raise_16 : decode cX9_raise 16 = .ok (.goto 7, 3) := by decide +kernel
theorem dX9_raise_19 : decode cX9_raise 19 = .ok (.aload_n 0, 1) := by decide +kernel
theorem dX9_raise_20 : decode cX9_raise 20 = .ok (.getfield 61, 3) := by decide +kernel
theorem dX9_raise_23 : decode cX9_raise 23 = .ok (.istore 4, 2) := by decide +kernel
theorem dX9_raise_25 : decode cX9_raise 25 = .ok (.aload_n 0, 1) := by decide +kernel
theorem dX9_raise_26 : decode cX9_raise 26 = .ok (.getfield 28, 3) := by decide +kernel
theorem dX9_raise_29 : decode cX9_raise 29 = .ok (.ifCond .le 94, 3) := by decide +kernel
theorem dX9_raise_32 : decode cX9_raise 32 = .ok (.aload_n 0, 1) := by decide +kernel
theorem dX9_raise_33 : decode cX9_raise 33 = .ok (.getfield 20, 3) := by decide +kernel
theorem dX9_raise_36 : decode cX9_raise 36 = .ok (.aload_n 0, 1) := by decide +kernel
theorem dX9_raise_37 : decode cX9_raise 37 = .ok (.getfield 28, 3) := by decide +kernel
theorem dX9_raise_40 : decode cX9_raise 40 = .ok (.iconst 1, 1) := by decide +kernel
theorem dX9_raise_41 : decode cX9_raise 41 = .ok (.isub, 1) := by decide +kernel
theorem dX9_raise_42 : decode cX9_raise 42 = .ok (.aaload, 1) := by decide +kernel
theorem dX9_raise_43 : decode cX9_raise 43 = .ok (.astore 5, 2) := by decide +kernel
theorem dX9_raise_45 : decode cX9_raise 45 = .ok (.aload 5, 2) := by decide +kernel
theorem dX9_raise_47 : decode cX9_raise 47 = .ok (.getfield 102, 3) := by decide +kernel
theorem dX9_raise_50 : decode cX9_raise 50 = .ok (.aload 5, 2) := by decide +kernel
theorem dX9_raise_52 : decode cX9_raise 52 = .ok (.getfield 96, 3) := by decide +kernel
theorem dX9_raise_55 : decode cX9_raise 55 = .ok (.iload_n 1, 1) := by decide +kernel
theorem dX9_raise_56 : decode cX9_raise 56 = .ok (.invokevirtual 324, 3) := by decide +kernel
theorem dX9_raise_59 : decode cX9_raise 59 = .ok (.istore 6, 2) := by decide +kernel
theorem dX9_raise_61 : decode cX9_raise 61 = .ok (.iload 6, 2) := by decide +kernel
theorem dX9_raise_63 : decode cX9_raise 63 = .ok (.iconst (-1), 1) := by decide +kernel
theorem dX9_raise_64 : decode cX9_raise 64 = .ok (.if_icmp .eq 40, 3) := by decide +kernel
theorem dX9_raise_67 : decode cX9_raise 67 = .ok (.aload 5, 2) := by decide +kernel
theorem dX9_raise_69 : decode cX9_raise 69 = .ok (.getfield 126, 3) := by decide +kernel
theorem dX9_raise_72 : decode cX9_raise 72 = .ok (.invokevirtual 327, 3) := by decide +kernel
theorem dX9_raise_75 : decode cX9_raise 75 = .ok (.aload 5, 2) := by decide +kernel
theorem dX9_raise_77 : decode cX9_raise 77 = .ok (.getfield 126, 3) := by decide +kernel
theorem dX9_raise_80 : decode cX9_raise 80 = .ok (.iload 4, 2) := by decide +kernel
theorem dX9_raise_82 : decode cX9_raise 82 = .ok (.i2l, 1) := by decide +kernel
theorem dX9_raise_83 : decode cX9_raise 83 = .ok (.invokevirtual 198, 3) := by decide +kernel
theorem dX9_raise_86 : decode cX9_raise 86 = .ok (.aload 5, 2) := by decide +kernel
theorem dX9_raise_88 : decode cX9_raise 88 = .ok (.iload 6, 2) := by decide +kernel
theorem dX9_raise_90 : decode cX9_raise 90 = .ok (.putfield 96, 3) := by decide +kernel
theorem dX9_raise_93 : decode cX9_raise 93 = .ok (.aload_n 0, 1) := by decide +kernel
theorem dX9_raise_94 : decode cX9_raise 94 = .ok (.dup, 1) := by decide +kernel
theorem dX9_raise_95 : decode cX9_raise 95 = .ok (.getfield 58, 3) := by decide +kernel
theorem dX9_raise_98 : decode cX9_raise 98 = .ok (.iconst 1, 1) := by decide +kernel
theorem dX9_raise_99 : decode cX9_raise 99 = .ok (.iadd, 1) := by decide +kernel
theorem dX9_raise_100 : decode cX9_raise 100 = .ok (.putfield 58, 3) := by decide +kernel
theorem dX9_raise_103 : decode cX9_raise 103 = .ok (.return_, 1) := by decide +kernel
theorem dX9_raise_104 : decode cX9_raise 104 = .ok (.aload_n 0, 1) := by decide +kernel
theorem dX9_raise_105 : decode cX9_raise 105 = .ok (.aload 5, 2) := by decide +kernel
theorem dX9_raise_107 : decode cX9_raise 107 = .ok (.invokevirtual 328, 3) := by decide +kernel
theorem dX9_raise_110 : decode cX9_raise 110 = .ok (.aload_n 0, 1) := by decide +kernel
theorem dX9_raise_111 : decode cX9_raise 111 = .ok (.dup, 1) := by decide +kernel
theorem dX9_raise_112 : decode cX9_raise 112 = .ok (.getfield 28, 3) := by decide +kernel
theorem dX9_raise_115 : decode cX9_raise 115 = .ok (.iconst 1, 1) := by decide +kernel
theorem dX9_raise_116 : decode cX9_raise 116 = .ok (.isub, 1) := by decide +kernel
theorem dX9_raise_117 : decode cX9_raise 117 = .ok (.putfield 28, 3) := by decide +kernel
theorem dX9_raise_120 : decode cX9_raise 120 = .ok (.goto (-95), 3) := by decide +kernel
theorem dX9_raise_123 : decode cX9_raise 123 = .ok (.aload_n 0, 1) := by decide +kernel
theorem dX9_raise_124 : decode cX9_raise 124 = .ok (.iload_n 1, 1) := by decide +kernel
theorem dX9_raise_125 : decode cX9_raise 125 = .ok (.putfield 40, 3) := by decide +kernel
theorem dX9_raise_128 : decode cX9_raise 128 = .ok (.aload_n 0, 1) := by decide +kernel
theorem dX9_raise_129 : decode cX9_raise 129 = .ok (.iload_n 3, 1) := by decide +kernel
theorem dX9_raise_130 : decode cX9_raise 130 = .ok (.putfield 43, 3) := by decide +kernel
theorem dX9_raise_133 : decode cX9_raise 133 = .ok (.aload_n 0, 1) := by decide +kernel
theorem dX9_raise_134 : decode cX9_raise 134 = .ok (.iload_n 2, 1) := by decide +kernel
theorem dX9_raise_135 : decode cX9_raise 135 = .ok (.putfield 46, 3) := by decide +kernel
theorem dX9_raise_138 : decode cX9_raise 138 = .ok (.return_, 1) := by decide +kernel
theorem dX9_report_0 : decode cX9_report 0 = .ok (.iload_n 1, 1) := by decide +kernel
theorem dX9_report_1 : decode cX9_report 1 = .ok (.bipush 9, 2) := by decide +kernel
theorem dX9_report_3 : decode cX9_report 3 = .ok (.invokestatic 141, 3) := by decide +kernel
theorem dX9_report_6 : decode cX9_report 6 = .ok (.ifCond .ne 6, 3) := by decide +kernel
theorem dX9_report_9 : decode cX9_report 9 = .ok (.bipush (-2), 2) := by decide +kernel
theorem dX9_report_11 : decode cX9_report 11 = .ok (.ireturn, 1) := by decide +kernel
theorem dX9_report_12 : decode cX9_report 12 = .ok (.aload_n 0, 1) := by decide +kernel
theorem dX9_report_13 : decode cX9_report 13 = .ok (.getfield 36, 3) := by decide +kernel
theorem dX9_report_16 : decode cX9_report 16 = .ok (.ifCond .ne 6, 3) := by decide +kernel
theorem dX9_report_19 : decode cX9_report 19 = .ok (.bipush (-3), 2) := by decide +kernel
theorem dX9_report_21 : decode cX9_report 21 = .ok (.ireturn, 1) := by decide +kernel
theorem dX9_report_22 : decode cX9_report 22 = .ok (.iload_n 1, 1) := by decide +kernel
theorem dX9_report_23 : decode cX9_report 23 = .ok (.tableswitch 88 0 7 #[45, 50, 55, 60, 65, 70, 78, 83], 45) := by decide +kernel
theorem dX9_report_68 : decode cX9_report 68 = .ok (.aload_n 0, 1) := by decide +kernel
theorem dX9_report_69 : decode cX9_report 69 = .ok (.getfield 40, 3) := by decide +kernel
theorem dX9_report_72 : decode cX9_report 72 = .ok (.ireturn, 1) := by decide +kernel
theorem dX9_report_73 : decode cX9_report 73 = .ok (.aload_n 0, 1) := by decide +kernel
theorem dX9_report_74 : decode cX9_report 74 = .ok (.getfield 43, 3) := by decide +kernel
theorem dX9_report_77 : decode cX9_report 77 = .ok (.ireturn, 1) := by decide +kernel
theorem dX9_report_78 : decode cX9_report 78 = .ok (.aload_n 0, 1) := by decide +kernel
theorem dX9_report_79 : decode cX9_report 79 = .ok (.getfield 46, 3) := by decide +kernel
theorem dX9_report_82 : decode cX9_report 82 = .ok (.ireturn, 1) := by decide +kernel
theorem dX9_report_83 : decode cX9_report 83 = .ok (.aload_n 0, 1) := by decide +kernel
theorem dX9_report_84 : decode cX9_report 84 = .ok (.getfield 49, 3) := by decide +kernel
theorem dX9_report_87 : decode cX9_report 87 = .ok (.ireturn, 1) := by decide +kernel
theorem dX9_report_88 : decode cX9_report 88 = .ok (.aload_n 0, 1) := by decide +kernel
theorem dX9_report_89 : decode cX9_report 89 = .ok (.getfield 52, 3) := by decide +kernel
theorem dX9_report_92 : decode cX9_report 92 = .ok (.ireturn, 1) := by decide +kernel
theorem dX9_report_93 : decode cX9_report 93 = .ok (.aload_n 0, 1) := by decide +kernel
theorem dX9_report_94 : decode cX9_report 94 = .ok (.getfield 12, 3) := by decide +kernel
theorem dX9_report_97 : decode cX9_report 97 = .ok (.getfield 145, 3) := by decide +kernel
theorem dX9_report_100 : decode cX9_report 100 = .ok (.ireturn, 1) := by decide +kernel
theorem dX9_report_101 : decode cX9_report 101 = .ok (.aload_n 0, 1) := by decide +kernel
theorem dX9_report_102 : decode cX9_report 102 = .ok (.getfield 55, 3) := by decide +kernel
theorem dX9_report_105 : decode cX9_report 105 = .ok (.ireturn, 1) := by decide +kernel
theorem dX9_report_106 : decode cX9_report 106 = .ok (.aload_n 0, 1) := by decide +kernel
theorem dX9_report_107 : decode cX9_report 107 = .ok (.getfield 58, 3) := by decide +kernel
theorem dX9_report_110 : decode cX9_report 110 = .ok (.ireturn, 1) := by decide +kernel
theorem dX9_report_111 : decode cX9_report 111 = .ok (.aload_n 0, 1) := by decide +kernel
theorem dX9_report_112 : decode cX9_report 112 = .ok (.getfield 28, 3) := by decide +kernel
theorem dX9_report_115 : decode cX9_report 115 = .ok (.ireturn, 1) := by decide +kernel
theorem dX9_run_0 : decode cX9_run 0 = .ok (.aload_n 0, 1) := by decide +kernel
theorem dX9_run_1 : decode cX9_run 1 = .ok (.iconst 0, 1) := by decide +kernel
theorem dX9_run_2 : decode cX9_run 2 = .ok (.putfield 49, 3) := by decide +kernel
theorem dX9_run_5 : decode cX9_run 5 = .ok (.aload_n 0, 1) := by decide +kernel
theorem dX9_run_6 : decode cX9_run 6 = .ok (.getfield 49, 3) := by decide +kernel
theorem dX9_run_9 : decode cX9_run 9 = .ok (.iload_n 1, 1) := by decide +kernel
theorem dX9_run_10 : decode cX9_run 10 = .ok (.if_icmp .ge 149, 3) := by decide +kernel
theorem dX9_run_13 : decode cX9_run 13 = .ok (.aload_n 0, 1) := by decide +kernel
theorem dX9_run_14 : decode cX9_run 14 = .ok (.getfield 28, 3) := by decide +kernel
theorem dX9_run_17 : decode cX9_run 17 = .ok (.ifCond .le 142, 3) := by decide +kernel
theorem dX9_run_20 : decode cX9_run 20 = .ok (.aload_n 0, 1) := by decide +kernel
theorem dX9_run_21 : decode cX9_run 21 = .ok (.getfield 20, 3) := by decide +kernel
theorem dX9_run_24 : decode cX9_run 24 = .ok (.aload_n 0, 1) := by decide +kernel
theorem dX9_run_25 : decode cX9_run 25 = .ok (.getfield 28, 3) := by decide +kernel
theorem dX9_run_28 : decode cX9_run 28 = .ok (.iconst 1, 1) := by decide +kernel
theorem dX9_run_29 : decode cX9_run 29 = .ok (.isub, 1) := by decide +kernel
theorem dX9_run_30 : decode cX9_run 30 = .ok (.aaload, 1) := by decide +kernel
theorem dX9_run_31 : decode cX9_run 31 = .ok (.astore_n 2, 1) := by decide +kernel
theorem dX9_run_32 : decode cX9_run 32 = .ok (.aload_n 2, 1) := by decide +kernel
theorem dX9_run_33 : decode cX9_run 33 = .ok (.getfield 96, 3) := by decide +kernel
theorem dX9_run_36 : decode cX9_run 36 = .ok (.istore_n 3, 1) := by decide +kernel
theorem dX9_run_37 : decode cX9_run 37 = .ok (.aload_n 2, 1) := by decide +kernel
theorem dX9_run_38 : decode cX9_run 38 = .ok (.iload_n 3, 1) := by decide +kernel
theorem dX9_run_39 : decode cX9_run 39 = .ok (.iconst 1, 1) := by decide +kernel
theorem dX9_run_40 : decode cX9_run 40 = .ok (.iadd, 1) := by decide +kernel
theorem dX9_run_41 : decode cX9_run 41 = .ok (.putfield 99, 3) := by decide +kernel
theorem dX9_run_44 : decode cX9_run 44 = .ok (.aload_n 0, 1) := by decide +kernel
theorem dX9_run_45 : decode cX9_run 45 = .ok (.iconst (-1), 1) := by decide +kernel
theorem dX9_run_46 : decode cX9_run 46 = .ok (.putfield 61, 3) := by decide +kernel
theorem dX9_run_49 : decode cX9_run 49 = .ok (.aload_n 0, 1) := by decide +kernel
theorem dX9_run_50 : decode cX9_run 50 = .ok (.aload_n 2, 1) := by decide +kernel
theorem dX9_run_51 : decode cX9_run 51 = .ok (.aload_n 2, 1) := by decide +kernel
theorem dX9_run_52 : decode cX9_run 52 = .ok (.getfield 102, 3) := by decide +kernel
theorem dX9_run_55 : decode cX9_run 55 = .ok (.getfield 106, 3) := by decide +kernel
theorem dX9_run_58 : decode cX9_run 58 = .ok (.iload_n 3, 1) := by decide +kernel
theorem dX9_run_59 : decode cX9_run 59 = .ok (.iaload, 1) := by decide +kernel
theorem dX9_run_60 : decode cX9_run 60 = .ok (.aload_n 2, 1) := by decide +kernel
theorem dX9_run_61 : decode cX9_run 61 = .ok (.getfield 102, 3) := by decide +kernel
theorem dX9_run_64 : decode cX9_run 64 = .ok (.getfield 109, 3) := by decide +kernel
theorem dX9_run_67 : decode cX9_run 67 = .ok (.iload_n 3, 1) := by decide +kernel
theorem dX9_run_68 : decode cX9_run 68 = .ok (.iaload, 1) := by decide +kernel
theorem dX9_run_69 : decode cX9_run 69 = .ok (.aload_n 2, 1) := by decide +kernel
theorem dX9_run_70 : decode cX9_run 70 = .ok (.getfield 102, 3) := by decide +kernel
theorem dX9_run_73 : decode cX9_run 73 = .ok (.getfield 112, 3) := by decide +kernel
theorem dX9_run_76 : decode cX9_run 76 = .ok (.iload_n 3, 1) := by decide +kernel
theorem dX9_run_77 : decode cX9_run 77 = .ok (.iaload, 1) := by decide +kernel
theorem dX9_run_78 : decode cX9_run 78 = .ok (.invokevirtual 115, 3) := by decide +kernel
theorem dX9_run_81 : decode cX9_run 81 = .ok (.istore 4, 2) := by decide +kernel
theorem dX9_run_83 : decode cX9_run 83 = .ok (.iload 4, 2) := by decide +kernel
theorem dX9_run_85 : decode cX9_run 85 = .ok (.iconst (-1), 1) := by decide +kernel
theorem dX9_run_86 : decode cX9_run 86 = .ok (.if_icmp .ne 14, 3) := by decide +kernel
theorem dX9_run_89 : decode cX9_run 89 = .ok (.aload_n 2, 1) := by decide +kernel
theorem dX9_run_90 : decode cX9_run 90 = .ok (.aload_n 2, 1) := by decide +kernel
theorem dX9_run_91 : decode cX9_run 91 = .ok (.getfield 99, 3) := by decide +kernel
theorem dX9_run_94 : decode cX9_run 94 = .ok (.putfield 96, 3) := by decide +kernel
theorem dX9_run_97 : decode cX9_run 97 = .ok (.goto 14, 3) := by decide +kernel
theorem dX9_run_100 : decode cX9_run 100 = .ok (.aload_n 0, 1) := by decide +kernel
theorem dX9_run_101 : decode cX9_run 101 = .ok (.iload 4, 2) := by decide +kernel
theorem dX9_run_103 : decode cX9_run 103 = .ok (.aload_n 2, 1) := by decide +kernel
theorem dX9_run_104 : decode cX9_run 104 = .ok (.getfield 119, 3) := by decide +kernel
theorem dX9_run_107 : decode cX9_run 107 = .ok (.iload_n 3, 1) := by decide +kernel
theorem dX9_run_108 : decode cX9_run 108 = .ok (.invokevirtual 122, 3) := by decide +kernel
theorem dX9_run_111 : decode cX9_run 111 = .ok (.aload_n 0, 1) := by decide +kernel
theorem dX9_run_112 : decode cX9_run 112 = .ok (.getfield 28, 3) := by decide +kernel
theorem dX9_run_115 : decode cX9_run 115 = .ok (.ifCond .le 31, 3) := by decide +kernel
theorem dX9_run_118 : decode cX9_run 118 = .ok (.aload_n 0, 1) := by decide +kernel
theorem dX9_run_119 : decode cX9_run 119 = .ok (.aload_n 0, 1) := by decide +kernel
theorem dX9_run_120 : decode cX9_run 120 = .ok (.getfield 55, 3) := by decide +kernel
theorem dX9_run_123 : decode cX9_run 123 = .ok (.aload_n 0, 1) := by decide +kernel
theorem dX9_run_124 : decode cX9_run 124 = .ok (.getfield 20, 3) := by decide +kernel
theorem dX9_run_127 : decode cX9_run 127 = .ok (.aload_n 0, 1) := by decide +kernel
theorem dX9_run_128 : decode cX9_run 128 = .ok (.getfield 28, 3) := by decide +kernel
theorem dX9_run_131 : decode cX9_run 131 = .ok (.iconst 1, 1) := by decide +kernel
theorem dX9_run_132 : decode cX9_run 132 = .ok (.isub, 1) := by decide +kernel
theorem dX9_run_133 : decode cX9_run 133 = .ok (.aaload, 1) := by decide +kernel
theorem dX9_run_134 : decode cX9_run 134 = .ok (.getfield 126, 3) := by decide +kernel
theorem dX9_run_137 : decode cX9_run 137 = .ok (.getfield 130, 3) := by decide +kernel
theorem dX9_run_140 : decode cX9_run 140 = .ok (.invokestatic 135, 3) := by decide +kernel
theorem dX9_run_143 : decode cX9_run 143 = .ok (.putfield 55, 3) := by decide +kernel
theorem dX9_run_146 : decode cX9_run 146 = .ok (.aload_n 0, 1) := by decide +kernel
theorem dX9_run_147 : decode cX9_run 147 = .ok (.dup, 1) := by decide +kernel
theorem dX9_run_148 : decode cX9_run 148 = .ok (.getfield 49, 3) := by decide +kernel
theorem dX9_run_151 : decode cX9_run 151 = .ok (.iconst 1, 1) := by decide +kernel
theorem dX9_run_152 : decode cX9_run 152 = .ok (.iadd, 1) := by decide +kernel
theorem dX9_run_153 : decode cX9_run 153 = .ok (.putfield 49, 3) := by decide +kernel
theorem dX9_run_156 : decode cX9_run 156 = .ok (.goto (-151), 3) := by decide +kernel
theorem dX9_run_159 : decode cX9_run 159 = .ok (.aload_n 0, 1) := by decide +kernel
theorem dX9_run_160 : decode cX9_run 160 = .ok (.getfield 28, 3) := by decide +kernel
theorem dX9_run_163 : decode cX9_run 163 = .ok (.ifCond .le 5, 3) := by decide +kernel
theorem dX9_run_166 : decode cX9_run 166 = .ok (.iconst 2, 1) := by decide +kernel
theorem dX9_run_167 : decode cX9_run 167 = .ok (.ireturn, 1) := by decide +kernel
theorem dX9_run_168 : decode cX9_run 168 = .ok (.aload_n 0, 1) := by decide +kernel
theorem dX9_run_169 : decode cX9_run 169 = .ok (.getfield 40, 3) := by decide +kernel
theorem dX9_run_172 : decode cX9_run 172 = .ok (.iconst (-1), 1) := by decide +kernel
theorem dX9_run_173 : decode cX9_run 173 = .ok (.if_icmp .ne 7, 3) := by decide +kernel
theorem dX9_run_176 : decode cX9_run 176 = .ok (.iconst 0, 1) := by decide +kernel
theorem dX9_run_177 : decode cX9_run 177 = .ok (.goto 4, 3) := by decide +kernel
theorem dX9_run_180 : decode cX9_run 180 = .ok (.iconst 1, 1) := by decide +kernel
theorem dX9_run_181 : decode cX9_run 181 = .ok (.ireturn, 1) := by decide +kernel
theorem dX9_start_0 : decode cX9_start 0 = .ok (.aload_n 0, 1) := by decide +kernel
theorem dX9_start_1 : decode cX9_start 1 = .ok (.iconst 1, 1) := by decide +kernel
theorem dX9_start_2 : decode cX9_start 2 = .ok (.putfield 36, 3) := by decide +kernel
theorem dX9_start_5 : decode cX9_start 5 = .ok (.aload_n 0, 1) := by decide +kernel
theorem dX9_start_6 : decode cX9_start 6 = .ok (.getfield 12, 3) := by decide +kernel
theorem dX9_start_9 : decode cX9_start 9 = .ok (.invokevirtual 69, 3) := by decide +kernel
theorem dX9_start_12 : decode cX9_start 12 = .ok (.aload_n 0, 1) := by decide +kernel
theorem dX9_start_13 : decode cX9_start 13 = .ok (.lconst 0, 1) := by decide +kernel
theorem dX9_start_14 : decode cX9_start 14 = .ok (.putfield 32, 3) := by decide +kernel
theorem dX9_start_17 : decode cX9_start 17 = .ok (.aload_n 0, 1) := by decide +kernel
theorem dX9_start_18 : decode cX9_start 18 = .ok (.iconst (-1), 1) := by decide +kernel
theorem dX9_start_19 : decode cX9_start 19 = .ok (.putfield 40, 3) := by decide +kernel
theorem dX9_start_22 : decode cX9_start 22 = .ok (.aload_n 0, 1) := by decide +kernel
theorem dX9_start_23 : decode cX9_start 23 = .ok (.iconst (-1), 1) := by decide +kernel
theorem dX9_start_24 : decode cX9_start 24 = .ok (.putfield 43, 3) := by decide +kernel
theorem dX9_start_27 : decode cX9_start 27 = .ok (.aload_n 0, 1) := by decide +kernel
theorem dX9_start_28 : decode cX9_start 28 = .ok (.iconst (-1), 1) := by decide +kernel
theorem dX9_start_29 : decode cX9_start 29 = .ok (.putfield 46, 3) := by decide +kernel
theorem dX9_start_32 : decode cX9_start 32 = .ok (.aload_n 0, 1) := by decide +kernel
theorem dX9_start_33 : decode cX9_start 33 = .ok (.iconst 1, 1) := by decide +kernel
theorem dX9_start_34 : decode cX9_start 34 = .ok (.putfield 52, 3) := by decide +kernel
theorem dX9_start_37 : decode cX9_start 37 = .ok (.aload_n 0, 1) := by decide +kernel
theorem dX9_start_38 : decode cX9_start 38 = .ok (.iconst 0, 1) := by decide +kernel
theorem dX9_start_39 : decode cX9_start 39 = .ok (.putfield 55, 3) := by decide +kernel
theorem dX9_start_42 : decode cX9_start 42 = .ok (.aload_n 0, 1) := by decide +kernel
theorem dX9_start_43 : decode cX9_start 43 = .ok (.iconst 0, 1) := by decide +kernel
theorem dX9_start_44 : decode cX9_start 44 = .ok (.putfield 58, 3) := by decide +kernel
theorem dX9_start_47 : decode cX9_start 47 = .ok (.aload_n 0, 1) := by decide +kernel
theorem dX9_start_48 : decode cX9_start 48 = .ok (.iconst 1, 1) := by decide +kernel
theorem dX9_start_49 : decode cX9_start 49 = .ok (.putfield 28, 3) := by decide +kernel
theorem dX9_start_52 : decode cX9_start 52 = .ok (.aload_n 0, 1) := by decide +kernel
theorem dX9_start_53 : decode cX9_start 53 = .ok (.getfield 20, 3) := by decide +kernel
theorem dX9_start_56 : decode cX9_start 56 = .ok (.iconst 0, 1) := by decide +kernel
theorem dX9_start_57 : decode cX9_start 57 = .ok (.aaload, 1) := by decide +kernel
theorem dX9_start_58 : decode cX9_start 58 = .ok (.iload_n 1, 1) := by decide +kernel
theorem dX9_start_59 : decode cX9_start 59 = .ok (.aload_n 2, 1) := by decide +kernel
theorem dX9_start_60 : decode cX9_start 60 = .ok (.invokevirtual 72, 3) := by decide +kernel
theorem dX9_start_63 : decode cX9_start 63 = .ok (.iconst 0, 1) := by decide +kernel
theorem dX9_start_64 : decode cX9_start 64 = .ok (.istore 4, 2) := by decide +kernel
theorem dX9_start_66 : decode cX9_start 66 = .ok (.iconst 0, 1) := by decide +kernel
theorem dX9_start_67 : decode cX9_start 67 = .ok (.istore 5, 2) := by decide +kernel
theorem dX9_start_69 : decode cX9_start 69 = .ok (.iload 5, 2) := by decide +kernel
theorem dX9_start_71 : decode cX9_start 71 = .ok (.aload_n 2, 1) := by decide +kernel
theorem dX9_start_72 : decode cX9_start 72 = .ok (.getfield 76, 3) := by decide +kernel
theorem dX9_start_75 : decode cX9_start 75 = .ok (.if_icmp .ge 49, 3) := by decide +kernel
theorem dX9_start_78 : decode cX9_start 78 = .ok (.aload_n 0, 1) := by decide +kernel
theorem dX9_start_79 : decode cX9_start 79 = .ok (.getfield 20, 3) := by decide +kernel
theorem dX9_start_82 : decode cX9_start 82 = .ok (.iconst 0, 1) := by decide +kernel
theorem dX9_start_83 : decode cX9_start 83 = .ok (.aaload, 1) := by decide +kernel
theorem dX9_start_84 : decode cX9_start 84 = .ok (.iload 4, 2) := by decide +kernel
theorem dX9_start_86 : decode cX9_start 86 = .ok (.aload_n 2, 1) := by decide +kernel
theorem dX9_start_87 : decode cX9_start 87 = .ok (.getfield 81, 3) := by decide +kernel
theorem dX9_start_90 : decode cX9_start 90 = .ok (.iload 5, 2) := by decide +kernel
theorem dX9_start_92 : decode cX9_start 92 = .ok (.iaload, 1) := by decide +kernel
theorem dX9_start_93 : decode cX9_start 93 = .ok (.aload_n 3, 1) := by decide +kernel
theorem dX9_start_94 : decode cX9_start 94 = .ok (.iload 5, 2) := by decide +kernel
theorem dX9_start_96 : decode cX9_start 96 = .ok (.laload, 1) := by decide +kernel
theorem dX9_start_97 : decode cX9_start 97 = .ok (.invokestatic 84, 3) := by decide +kernel
theorem dX9_start_100 : decode cX9_start 100 = .ok (.invokevirtual 88, 3) := by decide +kernel
theorem dX9_start_103 : decode cX9_start 103 = .ok (.iload 4, 2) := by decide +kernel
theorem dX9_start_105 : decode cX9_start 105 = .ok (.aload_n 2, 1) := by decide +kernel
theorem dX9_start_106 : decode cX9_start 106 = .ok (.getfield 81, 3) := by decide +kernel
theorem dX9_start_109 : decode cX9_start 109 = .ok (.iload 5, 2) := by decide +kernel
theorem dX9_start_111 : decode cX9_start 111 = .ok (.iaload, 1) := by decide +kernel
theorem dX9_start_112 : decode cX9_start 112 = .ok (.invokestatic 92, 3) := by decide +kernel
theorem dX9_start_115 : decode cX9_start 115 = .ok (.iadd, 1) := by decide +kernel
theorem dX9_start_116 : decode cX9_start 116 = .ok (.istore 4, 2) := by decide +kernel
theorem dX9_start_118 : decode cX9_start 118 = .ok (.iinc 5 1, 3) := by decide +kernel
theorem dX9_start_121 : decode cX9_start 121 = .ok (.goto (-52), 3) := by decide +kernel
theorem dX9_start_124 : decode cX9_start 124 = .ok (.return_, 1) := by decide +kernel
theorem dX11_alter_0 : decode cX11_alter 0 = .ok (.aload_n 0, 1) := by decide +kernel
theorem dX11_alter_1 : decode cX11_alter 1 = .ok (.getfield 10, 3) := by decide +kernel
theorem dX11_alter_4 : decode cX11_alter 4 = .ok (.iload_n 1, 1) := by decide +kernel
theorem dX11_alter_5 : decode cX11_alter 5 = .ok (.invokevirtual 54, 3) := by decide +kernel
theorem dX11_alter_8 : decode cX11_alter 8 = .ok (.astore 6, 2) := by decide +kernel
theorem dX11_alter_10 : decode cX11_alter 10 = .ok (.aload 6, 2) := by decide +kernel
theorem dX11_alter_12 : decode cX11_alter 12 = .ok (.ifnull 24, 3) := by decide +kernel
theorem dX11_alter_15 : decode cX11_alter 15 = .ok (.iload_n 2, 1) := by decide +kernel
theorem dX11_alter_16 : decode cX11_alter 16 = .ok (.aload 6, 2) := by decide +kernel
theorem dX11_alter_18 : decode cX11_alter 18 = .ok (.getfield 69, 3) := by decide +kernel
theorem dX11_alter_21 : decode cX11_alter 21 = .ok (.invokestatic 40, 3) := by decide +kernel
theorem dX11_alter_24 : decode cX11_alter 24 = .ok (.ifCond .eq 12, 3) := by decide +kernel
theorem dX11_alter_27 : decode cX11_alter 27 = .ok (.iload_n 3, 1) := by decide +kernel
theorem dX11_alter_28 : decode cX11_alter 28 = .ok (.bipush 36, 2) := by decide +kernel
theorem dX11_alter_30 : decode cX11_alter 30 = .ok (.invokestatic 40, 3) := by decide +kernel
theorem dX11_alter_33 : decode cX11_alter 33 = .ok (.ifCond .ne 6, 3) := by decide +kernel
theorem dX11_alter_36 : decode cX11_alter 36 = .ok (.bipush (-2), 2) := by decide +kernel
theorem dX11_alter_38 : decode cX11_alter 38 = .ok (.ireturn, 1) := by decide +kernel
theorem dX11_alter_39 : decode cX11_alter 39 = .ok (.aload_n 0, 1) := by decide +kernel
theorem dX11_alter_40 : decode cX11_alter 40 = .ok (.getfield 10, 3) := by decide +kernel
theorem dX11_alter_43 : decode cX11_alter 43 = .ok (.invokevirtual 47, 3) := by decide +kernel
theorem dX11_alter_46 : decode cX11_alter 46 = .ok (.aload 6, 2) := by decide +kernel
theorem dX11_alter_48 : decode cX11_alter 48 = .ok (.iload_n 2, 1) := by decide +kernel
theorem dX11_alter_49 : decode cX11_alter 49 = .ok (.iload_n 3, 1) := by decide +kernel
theorem dX11_alter_50 : decode cX11_alter 50 = .ok (.iload 4, 2) := by decide +kernel
theorem dX11_alter_52 : decode cX11_alter 52 = .ok (.iload 5, 2) := by decide +kernel
theorem dX11_alter_54 : decode cX11_alter 54 = .ok (.invokevirtual 72, 3) := by decide +kernel
theorem dX11_alter_57 : decode cX11_alter 57 = .ok (.iload_n 2, 1) := by decide +kernel
theorem dX11_alter_58 : decode cX11_alter 58 = .ok (.ireturn, 1) := by decide +kernel
theorem dX11_argument_0 : decode cX11_argument 0 = .ok (.aload_n 0, 1) := by decide +kernel
theorem dX11_argument_1 : decode cX11_argument 1 = .ok (.getfield 10, 3) := by decide +kernel
theorem dX11_argument_4 : decode cX11_argument 4 = .ok (.iload_n 1, 1) := by decide +kernel
theorem dX11_argument_5 : decode cX11_argument 5 = .ok (.invokevirtual 54, 3) := by decide +kernel
theorem dX11_argument_8 : decode cX11_argument 8 = .ok (.astore_n 3, 1) := by decide +kernel
theorem dX11_argument_9 : decode cX11_argument 9 = .ok (.aload_n 3, 1) := by decide +kernel
theorem dX11_argument_10 : decode cX11_argument 10 = .ok (.ifnull 11, 3) := by decide +kernel
theorem dX11_argument_13 : decode cX11_argument 13 = .ok (.iload_n 2, 1) := by decide +kernel
theorem dX11_argument_14 : decode cX11_argument 14 = .ok (.iconst 5, 1) := by decide +kernel
theorem dX11_argument_15 : decode cX11_argument 15 = .ok (.invokestatic 40, 3) := by decide +kernel
theorem dX11_argument_18 : decode cX11_argument 18 = .ok (.ifCond .ne 6, 3) := by decide +kernel
theorem dX11_argument_21 : decode cX11_argument 21 = .ok (.bipush (-2), 2) := by decide +kernel
theorem dX11_argument_23 : decode cX11_argument 23 = .ok (.ireturn, 1) := by decide +kernel
theorem dX11_argument_24 : decode cX11_argument 24 = .ok (.aload_n 3, 1) := by decide +kernel
theorem dX11_argument_25 : decode cX11_argument 25 = .ok (.getfield 58, 3) := by decide +kernel
theorem dX11_argument_28 : decode cX11_argument 28 = .ok (.iload_n 2, 1) := by decide +kernel
theorem dX11_argument_29 : decode cX11_argument 29 = .ok (.invokestatic 63, 3) := by decide +kernel
theorem dX11_argument_32 : decode cX11_argument 32 = .ok (.iadd, 1) := by decide +kernel
theorem dX11_argument_33 : decode cX11_argument 33 = .ok (.bipush 8, 2) := by decide +kernel
theorem dX11_argument_35 : decode cX11_argument 35 = .ok (.if_icmp .le 6, 3) := by decide +kernel
theorem dX11_argument_38 : decode cX11_argument 38 = .ok (.bipush (-4), 2) := by decide +kernel
theorem dX11_argument_40 : decode cX11_argument 40 = .ok (.ireturn, 1) := by decide +kernel
theorem dX11_argument_41 : decode cX11_argument 41 = .ok (.aload_n 0, 1) := by decide +kernel
theorem dX11_argument_42 : decode cX11_argument 42 = .ok (.getfield 10, 3) := by decide +kernel
theorem dX11_argument_45 : decode cX11_argument 45 = .ok (.invokevirtual 47, 3) := by decide +kernel
theorem dX11_argument_48 : decode cX11_argument 48 = .ok (.aload_n 3, 1) := by decide +kernel
theorem dX11_argument_49 : decode cX11_argument 49 = .ok (.iload_n 2, 1) := by decide +kernel
theorem dX11_argument_50 : decode cX11_argument 50 = .ok (.invokevirtual 66, 3) := by decide +kernel
theorem dX11_argument_53 : decode cX11_argument 53 = .ok (.ireturn, 1) := by decide +kernel
theorem dX11_cell_0 : decode cX11_cell 0 = .ok (.aload_n 0, 1) := by decide +kernel
theorem dX11_cell_1 : decode cX11_cell 1 = .ok (.getfield 28, 3) := by decide +kernel
theorem dX11_cell_4 : decode cX11_cell 4 = .ok (.getfield 161, 3) := by decide +kernel
theorem dX11_cell_7 : decode cX11_cell 7 = .ok (.astore_n 3, 1) := by decide +kernel
theorem dX11_cell_8 : decode cX11_cell 8 = .ok (.aload_n 3, 1) := by decide +kernel
theorem dX11_cell_9 : decode cX11_cell 9 = .ok (.iload_n 1, 1) := by decide +kernel
theorem dX11_cell_10 : decode cX11_cell 10 = .ok (.iload_n 2, 1) := by decide +kernel
theorem dX11_cell_11 : decode cX11_cell 11 = .ok (.invokevirtual 170, 3) := by decide +kernel
theorem dX11_cell_14 : decode cX11_cell 14 = .ok (.ifCond .eq 12, 3) := by decide +kernel
theorem dX11_cell_17 : decode cX11_cell 17 = .ok (.aload_n 3, 1) := by decide +kernel
theorem dX11_cell_18 : decode cX11_cell 18 = .ok (.iload_n 1, 1) := by decide +kernel
theorem dX11_cell_19 : decode cX11_cell 19 = .ok (.iload_n 2, 1) := by decide +kernel
theorem dX11_cell_20 : decode cX11_cell 20 = .ok (.invokevirtual 173, 3) := by decide +kernel
theorem dX11_cell_23 : decode cX11_cell 23 = .ok (.goto 6, 3) := by decide +kernel
theorem dX11_cell_26 : decode cX11_cell 26 = .ok (.ldc2_w 177, 3) := by decide +kernel
theorem dX11_cell_29 : decode cX11_cell 29 = .ok (.lreturn, 1) := by decide +kernel
theorem dX11_constant_0 : decode cX11_constant 0 = .ok (.aload_n 0, 1) := by decide +kernel
theorem dX11_constant_1 : decode cX11_constant 1 = .ok (.getfield 10, 3) := by decide +kernel
theorem dX11_constant_4 : decode cX11_constant 4 = .ok (.getfield 83, 3) := by decide +kernel
theorem dX11_constant_7 : decode cX11_constant 7 = .ok (.bipush 40, 2) := by decide +kernel
theorem dX11_constant_9 : decode cX11_constant 9 = .ok (.if_icmp .ne 6, 3) := by decide +kernel
theorem dX11_constant_12 : decode cX11_constant 12 = .ok (.bipush (-4), 2) := by decide +kernel
theorem dX11_constant_14 : decode cX11_constant 14 = .ok (.ireturn, 1) := by decide +kernel
theorem dX11_constant_15 : decode cX11_constant 15 = .ok (.aload_n 0, 1) := by decide +kernel
theorem dX11_constant_16 : decode cX11_constant 16 = .ok (.getfield 10, 3) := by decide +kernel
theorem dX11_constant_19 : decode cX11_constant 19 = .ok (.invokevirtual 47, 3) := by decide +kernel
theorem dX11_constant_22 : decode cX11_constant 22 = .ok (.aload_n 0, 1) := by decide +kernel
theorem dX11_constant_23 : decode cX11_constant 23 = .ok (.getfield 10, 3) := by decide +kernel
theorem dX11_constant_26 : decode cX11_constant 26 = .ok (.lload_n 1, 1) := by decide +kernel
theorem dX11_constant_27 : decode cX11_constant 27 = .ok (.invokevirtual 86, 3) := by decide +kernel
theorem dX11_constant_30 : decode cX11_constant 30 = .ok (.ireturn, 1) := by decide +kernel
theorem dX11_count_0 : decode cX11_count 0 = .ok (.iload_n 1, 1) := by decide +kernel
theorem dX11_count_1 : decode cX11_count 1 = .ok (.tableswitch 60 0 3 #[31, 39, 47, 55], 31) := by decide +kernel
theorem dX11_count_32 : decode cX11_count 32 = .ok (.aload_n 0, 1) := by decide +kernel
theorem dX11_count_33 : decode cX11_count 33 = .ok (.getfield 10, 3) := by decide +kernel
theorem dX11_count_36 : decode cX11_count 36 = .ok (.getfield 44, 3) := by decide +kernel
theorem dX11_count_39 : decode cX11_count 39 = .ok (.ireturn, 1) := by decide +kernel
theorem dX11_count_40 : decode cX11_count 40 = .ok (.aload_n 0, 1) := by decide +kernel
theorem dX11_count_41 : decode cX11_count 41 = .ok (.getfield 10, 3) := by decide +kernel
theorem dX11_count_44 : decode cX11_count 44 = .ok (.getfield 83, 3) := by decide +kernel
theorem dX11_count_47 : decode cX11_count 47 = .ok (.ireturn, 1) := by decide +kernel
theorem dX11_count_48 : decode cX11_count 48 = .ok (.aload_n 0, 1) := by decide +kernel
theorem dX11_count_49 : decode cX11_count 49 = .ok (.getfield 10, 3) := by decide +kernel
theorem dX11_count_52 : decode cX11_count 52 = .ok (.getfield 90, 3) := by decide +kernel
theorem dX11_count_55 : decode cX11_count 55 = .ok (.ireturn, 1) := by decide +kernel
theorem dX11_count_56 : decode cX11_count 56 = .ok (.aload_n 0, 1) := by decide +kernel
theorem dX11_count_57 : decode cX11_count 57 = .ok (.getfield 36, 3) := by decide +kernel
theorem dX11_count_60 : decode cX11_count 60 = .ok (.ireturn, 1) := by decide +kernel
theorem dX11_count_61 : decode cX11_count 61 = .ok (.bipush (-2), 2) := by decide +kernel
theorem dX11_count_63 : decode cX11_count 63 = .ok (.ireturn, 1) := by decide +kernel
theorem dX11_entry_0 : decode cX11_entry 0 = .ok (.aload_n 0, 1) := by decide +kernel
theorem dX11_entry_1 : decode cX11_entry 1 = .ok (.getfield 10, 3) := by decide +kernel
theorem dX11_entry_4 : decode cX11_entry 4 = .ok (.iload_n 1, 1) := by decide +kernel
theorem dX11_entry_5 : decode cX11_entry 5 = .ok (.invokevirtual 97, 3) := by decide +kernel
theorem dX11_entry_8 : decode cX11_entry 8 = .ok (.astore 4, 2) := by decide +kernel
theorem dX11_entry_10 : decode cX11_entry 10 = .ok (.aload 4, 2) := by decide +kernel
theorem dX11_entry_12 : decode cX11_entry 12 = .ok (.ifnull 12, 3) := by decide +kernel
theorem dX11_entry_15 : decode cX11_entry 15 = .ok (.iload_n 3, 1) := by decide +kernel
theorem dX11_entry_16 : decode cX11_entry 16 = .ok (.bipush 60, 2) := by decide +kernel
theorem dX11_entry_18 : decode cX11_entry 18 = .ok (.invokestatic 40, 3) := by decide +kernel
theorem dX11_entry_21 : decode cX11_entry 21 = .ok (.ifCond .ne 6, 3) := by decide +kernel
theorem dX11_entry_24 : decode cX11_entry 24 = .ok (.bipush (-2), 2) := by decide +kernel
theorem dX11_entry_26 : decode cX11_entry 26 = .ok (.ireturn, 1) := by decide +kernel
theorem dX11_entry_27 : decode cX11_entry 27 = .ok (.aload 4, 2) := by decide +kernel
theorem dX11_entry_29 : decode cX11_entry 29 = .ok (.iload_n 2, 1) := by decide +kernel
theorem dX11_entry_30 : decode cX11_entry 30 = .ok (.invokevirtual 101, 3) := by decide +kernel
theorem dX11_entry_33 : decode cX11_entry 33 = .ok (.ifCond .ne 6, 3) := by decide +kernel
theorem dX11_entry_36 : decode cX11_entry 36 = .ok (.bipush (-3), 2) := by decide +kernel
theorem dX11_entry_38 : decode cX11_entry 38 = .ok (.ireturn, 1) := by decide +kernel
theorem dX11_entry_39 : decode cX11_entry 39 = .ok (.aload 4, 2) := by decide +kernel
theorem dX11_entry_41 : decode cX11_entry 41 = .ok (.getfield 107, 3) := by decide +kernel
theorem dX11_entry_44 : decode cX11_entry 44 = .ok (.bipush 8, 2) := by decide +kernel
theorem dX11_entry_46 : decode cX11_entry 46 = .ok (.if_icmp .ne 6, 3) := by decide +kernel
theorem dX11_entry_49 : decode cX11_entry 49 = .ok (.bipush (-4), 2) := by decide +kernel
theorem dX11_entry_51 : decode cX11_entry 51 = .ok (.ireturn, 1) := by decide +kernel
theorem dX11_entry_52 : decode cX11_entry 52 = .ok (.aload_n 0, 1) := by decide +kernel
theorem dX11_entry_53 : decode cX11_entry 53 = .ok (.getfield 10, 3) := by decide +kernel
theorem dX11_entry_56 : decode cX11_entry 56 = .ok (.invokevirtual 47, 3) := by decide +kernel
theorem dX11_entry_59 : decode cX11_entry 59 = .ok (.aload 4, 2) := by decide +kernel
theorem dX11_entry_61 : decode cX11_entry 61 = .ok (.iload_n 2, 1) := by decide +kernel
theorem dX11_entry_62 : decode cX11_entry 62 = .ok (.iload_n 3, 1) := by decide +kernel
theorem dX11_entry_63 : decode cX11_entry 63 = .ok (.invokevirtual 110, 3) := by decide +kernel
theorem dX11_entry_66 : decode cX11_entry 66 = .ok (.ireturn, 1) := by decide +kernel
theorem dX11_fault_0 : decode cX11_fault 0 = .ok (.iload_n 1, 1) := by decide +kernel
theorem dX11_fault_1 : decode cX11_fault 1 = .ok (.lookupswitch 43 #[(0, 27), (1, 35)], 27) := by decide +kernel
theorem dX11_fault_28 : decode cX11_fault 28 = .ok (.aload_n 0, 1) := by decide +kernel
theorem dX11_fault_29 : decode cX11_fault 29 = .ok (.getfield 21, 3) := by decide +kernel
theorem dX11_fault_32 : decode cX11_fault 32 = .ok (.getfield 118, 3) := by decide +kernel
theorem dX11_fault_35 : decode cX11_fault 35 = .ok (.ireturn, 1) := by decide +kernel
theorem dX11_fault_36 : decode cX11_fault 36 = .ok (.aload_n 0, 1) := by decide +kernel
theorem dX11_fault_37 : decode cX11_fault 37 = .ok (.getfield 21, 3) := by decide +kernel
theorem dX11_fault_40 : decode cX11_fault 40 = .ok (.getfield 121, 3) := by decide +kernel
theorem dX11_fault_43 : decode cX11_fault 43 = .ok (.ireturn, 1) := by decide +kernel
theorem dX11_fault_44 : decode cX11_fault 44 = .ok (.bipush (-2), 2) := by decide +kernel
theorem dX11_fault_46 : decode cX11_fault 46 = .ok (.ireturn, 1) := by decide +kernel
theorem dX11_give_0 : decode cX11_give 0 = .ok (.aload_n 0, 1) := by decide +kernel
theorem dX11_give_1 : decode cX11_give 1 = .ok (.getfield 36, 3) := by decide +kernel
theorem dX11_give_4 : decode cX11_give 4 = .ok (.bipush 8, 2) := by decide +kernel
theorem dX11_give_6 : decode cX11_give 6 = .ok (.if_icmp .ne 6, 3) := by decide +kernel
theorem dX11_give_9 : decode cX11_give 9 = .ok (.bipush (-4), 2) := by decide +kernel
theorem dX11_give_11 : decode cX11_give 11 = .ok (.ireturn, 1) := by decide +kernel
theorem dX11_give_12 : decode cX11_give 12 = .ok (.aload_n 0, 1) := by decide +kernel
theorem dX11_give_13 : decode cX11_give 13 = .ok (.getfield 32, 3) := by decide +kernel
theorem dX11_give_16 : decode cX11_give 16 = .ok (.aload_n 0, 1) := by decide +kernel
theorem dX11_give_17 : decode cX11_give 17 = .ok (.getfield 36, 3) := by decide +kernel
theorem dX11_give_20 : decode cX11_give 20 = .ok (.lload_n 1, 1) := by decide +kernel
theorem dX11_give_21 : decode cX11_give 21 = .ok (.lastore, 1) := by decide +kernel
theorem dX11_give_22 : decode cX11_give 22 = .ok (.aload_n 0, 1) := by decide +kernel
theorem dX11_give_23 : decode cX11_give 23 = .ok (.dup, 1) := by decide +kernel
theorem dX11_give_24 : decode cX11_give 24 = .ok (.getfield 36, 3) := by decide +kernel
theorem dX11_give_27 : decode cX11_give 27 = .ok (.iconst 1, 1) := by decide +kernel
theorem dX11_give_28 : decode cX11_give 28 = .ok (.iadd, 1) := by decide +kernel
theorem dX11_give_29 : decode cX11_give 29 = .ok (.putfield 36, 3) := by decide +kernel
theorem dX11_give_32 : decode cX11_give 32 = .ok (.aload_n 0, 1) := by decide +kernel
theorem dX11_give_33 : decode cX11_give 33 = .ok (.getfield 36, 3) := by decide +kernel
theorem dX11_give_36 : decode cX11_give 36 = .ok (.ireturn, 1) := by decide +kernel
