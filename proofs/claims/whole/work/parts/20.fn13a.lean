theorem dX12_entry_0 : decode cX12_entry 0 = .ok (.iload_n 1, 1) := by decide +kernel
theorem dX12_entry_1 : decode cX12_entry 1 = .ok (.i2l, 1) := by decide +kernel
theorem dX12_entry_2 : decode cX12_entry 2 = .ok (.lconst 0, 1) := by decide +kernel
theorem dX12_entry_3 : decode cX12_entry 3 = .ok (.aload_n 0, 1) := by decide +kernel
theorem dX12_entry_4 : decode cX12_entry 4 = .ok (.getfield 187, 3) := by decide +kernel
theorem dX12_entry_7 : decode cX12_entry 7 = .ok (.iconst 1, 1) := by decide +kernel
theorem dX12_entry_8 : decode cX12_entry 8 = .ok (.isub, 1) := by decide +kernel
theorem dX12_entry_9 : decode cX12_entry 9 = .ok (.i2l, 1) := by decide +kernel
theorem dX12_entry_10 : decode cX12_entry 10 = .ok (.invokestatic 151, 3) := by decide +kernel
theorem dX12_entry_13 : decode cX12_entry 13 = .ok (.ifCond .eq 15, 3) := by decide +kernel
theorem dX12_entry_16 : decode cX12_entry 16 = .ok (.iload_n 3, 1) := by decide +kernel
theorem dX12_entry_17 : decode cX12_entry 17 = .ok (.i2l, 1) := by decide +kernel
theorem dX12_entry_18 : decode cX12_entry 18 = .ok (.lconst 0, 1) := by decide +kernel
theorem dX12_entry_19 : decode cX12_entry 19 = .ok (.ldc2_w 178, 3) := by decide +kernel
theorem dX12_entry_22 : decode cX12_entry 22 = .ok (.invokestatic 151, 3) := by decide +kernel
theorem dX12_entry_25 : decode cX12_entry 25 = .ok (.ifCond .ne 6, 3) := by decide +kernel
theorem dX12_entry_28 : decode cX12_entry 28 = .ok (.bipush (-2), 2) := by decide +kernel
theorem dX12_entry_30 : decode cX12_entry 30 = .ok (.ireturn, 1) := by decide +kernel
theorem dX12_entry_31 : decode cX12_entry 31 = .ok (.aload_n 0, 1) := by decide +kernel
theorem dX12_entry_32 : decode cX12_entry 32 = .ok (.getfield 66, 3) := by decide +kernel
theorem dX12_entry_35 : decode cX12_entry 35 = .ok (.iload_n 1, 1) := by decide +kernel
theorem dX12_entry_36 : decode cX12_entry 36 = .ok (.iaload, 1) := by decide +kernel
theorem dX12_entry_37 : decode cX12_entry 37 = .ok (.istore 4, 2) := by decide +kernel
theorem dX12_entry_39 : decode cX12_entry 39 = .ok (.aload_n 0, 1) := by decide +kernel
theorem dX12_entry_40 : decode cX12_entry 40 = .ok (.getfield 57, 3) := by decide +kernel
theorem dX12_entry_43 : decode cX12_entry 43 = .ok (.iload_n 1, 1) := by decide +kernel
theorem dX12_entry_44 : decode cX12_entry 44 = .ok (.baload, 1) := by decide +kernel
theorem dX12_entry_45 : decode cX12_entry 45 = .ok (.ifCond .eq 34, 3) := by decide +kernel
theorem dX12_entry_48 : decode cX12_entry 48 = .ok (.iload 4, 2) := by decide +kernel
theorem dX12_entry_50 : decode cX12_entry 50 = .ok (.ifCond .eq 21, 3) := by decide +kernel
theorem dX12_entry_53 : decode cX12_entry 53 = .ok (.iload_n 2, 1) := by decide +kernel
theorem dX12_entry_54 : decode cX12_entry 54 = .ok (.aload_n 0, 1) := by decide +kernel
theorem dX12_entry_55 : decode cX12_entry 55 = .ok (.getfield 69, 3) := by decide +kernel
theorem dX12_entry_58 : decode cX12_entry 58 = .ok (.bipush 8, 2) := by decide +kernel
theorem dX12_entry_60 : decode cX12_entry 60 = .ok (.iload_n 1, 1) := by decide +kernel
theorem dX12_entry_61 : decode cX12_entry 61 = .ok (.imul, 1) := by decide +kernel
theorem dX12_entry_62 : decode cX12_entry 62 = .ok (.iload 4, 2) := by decide +kernel
theorem dX12_entry_64 : decode cX12_entry 64 = .ok (.iadd, 1) := by decide +kernel
theorem dX12_entry_65 : decode cX12_entry 65 = .ok (.iconst 1, 1) := by decide +kernel
theorem dX12_entry_66 : decode cX12_entry 66 = .ok (.isub, 1) := by decide +kernel
theorem dX12_entry_67 : decode cX12_entry 67 = .ok (.iaload, 1) := by decide +kernel
theorem dX12_entry_68 : decode cX12_entry 68 = .ok (.if_icmp .le 7, 3) := by decide +kernel
theorem dX12_entry_71 : decode cX12_entry 71 = .ok (.iconst 1, 1) := by decide +kernel
theorem dX12_entry_72 : decode cX12_entry 72 = .ok (.goto 29, 3) := by decide +kernel
theorem dX12_entry_75 : decode cX12_entry 75 = .ok (.iconst 0, 1) := by decide +kernel
theorem dX12_entry_76 : decode cX12_entry 76 = .ok (.goto 25, 3) := by decide +kernel
theorem dX12_entry_79 : decode cX12_entry 79 = .ok (.aload_n 0, 1) := by decide +kernel
theorem dX12_entry_80 : decode cX12_entry 80 = .ok (.getfield 60, 3) := by decide +kernel
theorem dX12_entry_83 : decode cX12_entry 83 = .ok (.iload_n 1, 1) := by decide +kernel
theorem dX12_entry_84 : decode cX12_entry 84 = .ok (.iaload, 1) := by decide +kernel
theorem dX12_entry_85 : decode cX12_entry 85 = .ok (.i2l, 1) := by decide +kernel
theorem dX12_entry_86 : decode cX12_entry 86 = .ok (.iload 4, 2) := by decide +kernel
theorem dX12_entry_88 : decode cX12_entry 88 = .ok (.i2l, 1) := by decide +kernel
theorem dX12_entry_89 : decode cX12_entry 89 = .ok (.ladd, 1) := by decide +kernel
theorem dX12_entry_90 : decode cX12_entry 90 = .ok (.iload_n 2, 1) := by decide +kernel
theorem dX12_entry_91 : decode cX12_entry 91 = .ok (.i2l, 1) := by decide +kernel
theorem dX12_entry_92 : decode cX12_entry 92 = .ok (.lcmp, 1) := by decide +kernel
theorem dX12_entry_93 : decode cX12_entry 93 = .ok (.ifCond .ne 7, 3) := by decide +kernel
theorem dX12_entry_96 : decode cX12_entry 96 = .ok (.iconst 1, 1) := by decide +kernel
theorem dX12_entry_97 : decode cX12_entry 97 = .ok (.goto 4, 3) := by decide +kernel
theorem dX12_entry_100 : decode cX12_entry 100 = .ok (.iconst 0, 1) := by decide +kernel
theorem dX12_entry_101 : decode cX12_entry 101 = .ok (.istore 5, 2) := by decide +kernel
theorem dX12_entry_103 : decode cX12_entry 103 = .ok (.iload 5, 2) := by decide +kernel
theorem dX12_entry_105 : decode cX12_entry 105 = .ok (.ifCond .ne 6, 3) := by decide +kernel
theorem dX12_entry_108 : decode cX12_entry 108 = .ok (.bipush (-3), 2) := by decide +kernel
theorem dX12_entry_110 : decode cX12_entry 110 = .ok (.ireturn, 1) := by decide +kernel
theorem dX12_entry_111 : decode cX12_entry 111 = .ok (.iload 4, 2) := by decide +kernel
theorem dX12_entry_113 : decode cX12_entry 113 = .ok (.bipush 8, 2) := by decide +kernel
theorem dX12_entry_115 : decode cX12_entry 115 = .ok (.if_icmp .ne 6, 3) := by decide +kernel
theorem dX12_entry_118 : decode cX12_entry 118 = .ok (.bipush (-4), 2) := by decide +kernel
theorem dX12_entry_120 : decode cX12_entry 120 = .ok (.ireturn, 1) := by decide +kernel
theorem dX12_entry_121 : decode cX12_entry 121 = .ok (.aload_n 0, 1) := by decide +kernel
theorem dX12_entry_122 : decode cX12_entry 122 = .ok (.invokevirtual 157, 3) := by decide +kernel
theorem dX12_entry_125 : decode cX12_entry 125 = .ok (.aload_n 0, 1) := by decide +kernel
theorem dX12_entry_126 : decode cX12_entry 126 = .ok (.getfield 69, 3) := by decide +kernel
theorem dX12_entry_129 : decode cX12_entry 129 = .ok (.bipush 8, 2) := by decide +kernel
theorem dX12_entry_131 : decode cX12_entry 131 = .ok (.iload_n 1, 1) := by decide +kernel
theorem dX12_entry_132 : decode cX12_entry 132 = .ok (.imul, 1) := by decide +kernel
theorem dX12_entry_133 : decode cX12_entry 133 = .ok (.iload 4, 2) := by decide +kernel
theorem dX12_entry_135 : decode cX12_entry 135 = .ok (.iadd, 1) := by decide +kernel
theorem dX12_entry_136 : decode cX12_entry 136 = .ok (.iload_n 2, 1) := by decide +kernel
theorem dX12_entry_137 : decode cX12_entry 137 = .ok (.iastore, 1) := by decide +kernel
theorem dX12_entry_138 : decode cX12_entry 138 = .ok (.aload_n 0, 1) := by decide +kernel
theorem dX12_entry_139 : decode cX12_entry 139 = .ok (.getfield 72, 3) := by decide +kernel
theorem dX12_entry_142 : decode cX12_entry 142 = .ok (.bipush 8, 2) := by decide +kernel
theorem dX12_entry_144 : decode cX12_entry 144 = .ok (.iload_n 1, 1) := by decide +kernel
theorem dX12_entry_145 : decode cX12_entry 145 = .ok (.imul, 1) := by decide +kernel
theorem dX12_entry_146 : decode cX12_entry 146 = .ok (.iload 4, 2) := by decide +kernel
theorem dX12_entry_148 : decode cX12_entry 148 = .ok (.iadd, 1) := by decide +kernel
theorem dX12_entry_149 : decode cX12_entry 149 = .ok (.iload_n 3, 1) := by decide +kernel
theorem dX12_entry_150 : decode cX12_entry 150 = .ok (.iastore, 1) := by decide +kernel
theorem dX12_entry_151 : decode cX12_entry 151 = .ok (.aload_n 0, 1) := by decide +kernel
theorem dX12_entry_152 : decode cX12_entry 152 = .ok (.getfield 66, 3) := by decide +kernel
theorem dX12_entry_155 : decode cX12_entry 155 = .ok (.iload_n 1, 1) := by decide +kernel
theorem dX12_entry_156 : decode cX12_entry 156 = .ok (.dup2, 1) := by decide +kernel
theorem dX12_entry_157 : decode cX12_entry 157 = .ok (.iaload, 1) := by decide +kernel
theorem dX12_entry_158 : decode cX12_entry 158 = .ok (.iconst 1, 1) := by decide +kernel
theorem dX12_entry_159 : decode cX12_entry 159 = .ok (.iadd, 1) := by decide +kernel
theorem dX12_entry_160 : decode cX12_entry 160 = .ok (.iastore, 1) := by decide +kernel
theorem dX12_entry_161 : decode cX12_entry 161 = .ok (.aload_n 0, 1) := by decide +kernel
theorem dX12_entry_162 : decode cX12_entry 162 = .ok (.getfield 66, 3) := by decide +kernel
theorem dX12_entry_165 : decode cX12_entry 165 = .ok (.iload_n 1, 1) := by decide +kernel
theorem dX12_entry_166 : decode cX12_entry 166 = .ok (.iaload, 1) := by decide +kernel
theorem dX12_entry_167 : decode cX12_entry 167 = .ok (.ireturn, 1) := by decide +kernel
theorem dX12_fault_0 : decode cX12_fault 0 = .ok (.iload_n 1, 1) := by decide +kernel
theorem dX12_fault_1 : decode cX12_fault 1 = .ok (.ifCond .ne 10, 3) := by decide +kernel
theorem dX12_fault_4 : decode cX12_fault 4 = .ok (.aload_n 0, 1) := by decide +kernel
theorem dX12_fault_5 : decode cX12_fault 5 = .ok (.getfield 96, 3) := by decide +kernel
theorem dX12_fault_8 : decode cX12_fault 8 = .ok (.goto 17, 3) := by decide +kernel
theorem dX12_fault_11 : decode cX12_fault 11 = .ok (.iload_n 1, 1) := by decide +kernel
theorem dX12_fault_12 : decode cX12_fault 12 = .ok (.iconst 1, 1) := by decide +kernel
theorem dX12_fault_13 : decode cX12_fault 13 = .ok (.if_icmp .ne 10, 3) := by decide +kernel
theorem dX12_fault_16 : decode cX12_fault 16 = .ok (.aload_n 0, 1) := by decide +kernel
theorem dX12_fault_17 : decode cX12_fault 17 = .ok (.getfield 100, 3) := by decide +kernel
theorem dX12_fault_20 : decode cX12_fault 20 = .ok (.goto 5, 3) := by decide +kernel
theorem dX12_fault_23 : decode cX12_fault 23 = .ok (.bipush (-2), 2) := by decide +kernel
theorem dX12_fault_25 : decode cX12_fault 25 = .ok (.ireturn, 1) := by decide +kernel
theorem dX12_give_0 : decode cX12_give 0 = .ok (.aload_n 0, 1) := by decide +kernel
theorem dX12_give_1 : decode cX12_give 1 = .ok (.getfield 190, 3) := by decide +kernel
theorem dX12_give_4 : decode cX12_give 4 = .ok (.bipush 8, 2) := by decide +kernel
theorem dX12_give_6 : decode cX12_give 6 = .ok (.if_icmp .ne 6, 3) := by decide +kernel
theorem dX12_give_9 : decode cX12_give 9 = .ok (.bipush (-4), 2) := by decide +kernel
theorem dX12_give_11 : decode cX12_give 11 = .ok (.ireturn, 1) := by decide +kernel
theorem dX12_give_12 : decode cX12_give 12 = .ok (.aload_n 0, 1) := by decide +kernel
theorem dX12_give_13 : decode cX12_give 13 = .ok (.getfield 103, 3) := by decide +kernel
theorem dX12_give_16 : decode cX12_give 16 = .ok (.aload_n 0, 1) := by decide +kernel
theorem dX12_give_17 : decode cX12_give 17 = .ok (.getfield 190, 3) := by decide +kernel
theorem dX12_give_20 : decode cX12_give 20 = .ok (.lload_n 1, 1) := by decide +kernel
theorem dX12_give_21 : decode cX12_give 21 = .ok (.lastore, 1) := by decide +kernel
theorem dX12_give_22 : decode cX12_give 22 = .ok (.aload_n 0, 1) := by decide +kernel
theorem dX12_give_23 : decode cX12_give 23 = .ok (.dup, 1) := by decide +kernel
theorem dX12_give_24 : decode cX12_give 24 = .ok (.getfield 190, 3) := by decide +kernel
theorem dX12_give_27 : decode cX12_give 27 = .ok (.iconst 1, 1) := by decide +kernel
theorem dX12_give_28 : decode cX12_give 28 = .ok (.iadd, 1) := by decide +kernel
theorem dX12_give_29 : decode cX12_give 29 = .ok (.putfield 190, 3) := by decide +kernel
theorem dX12_give_32 : decode cX12_give 32 = .ok (.aload_n 0, 1) := by decide +kernel
theorem dX12_give_33 : decode cX12_give 33 = .ok (.getfield 190, 3) := by decide +kernel
theorem dX12_give_36 : decode cX12_give 36 = .ok (.ireturn, 1) := by decide +kernel
theorem dX12_good_0 : decode cX12_good 0 = .ok (.aload_n 0, 1) := by decide +kernel
theorem dX12_good_1 : decode cX12_good 1 = .ok (.iload_n 1, 1) := by decide +kernel
theorem dX12_good_2 : decode cX12_good 2 = .ok (.invokevirtual 160, 3) := by decide +kernel
theorem dX12_good_5 : decode cX12_good 5 = .ok (.ifCond .eq 20, 3) := by decide +kernel
theorem dX12_good_8 : decode cX12_good 8 = .ok (.aload_n 0, 1) := by decide +kernel
theorem dX12_good_9 : decode cX12_good 9 = .ok (.getfield 49, 3) := by decide +kernel
theorem dX12_good_12 : decode cX12_good 12 = .ok (.iload_n 1, 1) := by decide +kernel
theorem dX12_good_13 : decode cX12_good 13 = .ok (.baload, 1) := by decide +kernel
theorem dX12_good_14 : decode cX12_good 14 = .ok (.ifCond .eq 7, 3) := by decide +kernel
theorem dX12_good_17 : decode cX12_good 17 = .ok (.iconst 1, 1) := by decide +kernel
theorem dX12_good_18 : decode cX12_good 18 = .ok (.goto 9, 3) := by decide +kernel
theorem dX12_good_21 : decode cX12_good 21 = .ok (.iconst 0, 1) := by decide +kernel
theorem dX12_good_22 : decode cX12_good 22 = .ok (.goto 5, 3) := by decide +kernel
theorem dX12_good_25 : decode cX12_good 25 = .ok (.bipush (-2), 2) := by decide +kernel
theorem dX12_good_27 : decode cX12_good 27 = .ok (.ireturn, 1) := by decide +kernel
theorem dX12_handler_0 : decode cX12_handler 0 = .ok (.aload_n 0, 1) := by decide +kernel
theorem dX12_handler_1 : decode cX12_handler 1 = .ok (.iload_n 1, 1) := by decide +kernel
theorem dX12_handler_2 : decode cX12_handler 2 = .ok (.invokevirtual 160, 3) := by decide +kernel
theorem dX12_handler_5 : decode cX12_handler 5 = .ok (.ifCond .eq 54, 3) := by decide +kernel
theorem dX12_handler_8 : decode cX12_handler 8 = .ok (.iload_n 3, 1) := by decide +kernel
theorem dX12_handler_9 : decode cX12_handler 9 = .ok (.i2l, 1) := by decide +kernel
theorem dX12_handler_10 : decode cX12_handler 10 = .ok (.lconst 0, 1) := by decide +kernel
theorem dX12_handler_11 : decode cX12_handler 11 = .ok (.ldc2_w 176, 3) := by decide +kernel
theorem dX12_handler_14 : decode cX12_handler 14 = .ok (.invokestatic 151, 3) := by decide +kernel
theorem dX12_handler_17 : decode cX12_handler 17 = .ok (.ifCond .eq 42, 3) := by decide +kernel
theorem dX12_handler_20 : decode cX12_handler 20 = .ok (.iload_n 2, 1) := by decide +kernel
theorem dX12_handler_21 : decode cX12_handler 21 = .ok (.i2l, 1) := by decide +kernel
theorem dX12_handler_22 : decode cX12_handler 22 = .ok (.lconst 0, 1) := by decide +kernel
theorem dX12_handler_23 : decode cX12_handler 23 = .ok (.iload_n 3, 1) := by decide +kernel
theorem dX12_handler_24 : decode cX12_handler 24 = .ok (.i2l, 1) := by decide +kernel
theorem dX12_handler_25 : decode cX12_handler 25 = .ok (.invokestatic 151, 3) := by decide +kernel
theorem dX12_handler_28 : decode cX12_handler 28 = .ok (.ifCond .eq 31, 3) := by decide +kernel
theorem dX12_handler_31 : decode cX12_handler 31 = .ok (.iload 4, 2) := by decide +kernel
theorem dX12_handler_33 : decode cX12_handler 33 = .ok (.i2l, 1) := by decide +kernel
theorem dX12_handler_34 : decode cX12_handler 34 = .ok (.lconst 0, 1) := by decide +kernel
theorem dX12_handler_35 : decode cX12_handler 35 = .ok (.ldc2_w 178, 3) := by decide +kernel
theorem dX12_handler_38 : decode cX12_handler 38 = .ok (.invokestatic 151, 3) := by decide +kernel
theorem dX12_handler_41 : decode cX12_handler 41 = .ok (.ifCond .eq 18, 3) := by decide +kernel
theorem dX12_handler_44 : decode cX12_handler 44 = .ok (.iload 5, 2) := by decide +kernel
theorem dX12_handler_46 : decode cX12_handler 46 = .ok (.i2l, 1) := by decide +kernel
theorem dX12_handler_47 : decode cX12_handler 47 = .ok (.ldc2_w 180, 3) := by decide +kernel
theorem dX12_handler_50 : decode cX12_handler 50 = .ok (.ldc2_w 182, 3) := by decide +kernel
theorem dX12_handler_53 : decode cX12_handler 53 = .ok (.invokestatic 151, 3) := by decide +kernel
theorem dX12_handler_56 : decode cX12_handler 56 = .ok (.ifCond .ne 6, 3) := by decide +kernel
theorem dX12_handler_59 : decode cX12_handler 59 = .ok (.bipush (-2), 2) := by decide +kernel
theorem dX12_handler_61 : decode cX12_handler 61 = .ok (.ireturn, 1) := by decide +kernel
theorem dX12_handler_62 : decode cX12_handler 62 = .ok (.aload_n 0, 1) := by decide +kernel
theorem dX12_handler_63 : decode cX12_handler 63 = .ok (.getfield 34, 3) := by decide +kernel
theorem dX12_handler_66 : decode cX12_handler 66 = .ok (.iload_n 1, 1) := by decide +kernel
theorem dX12_handler_67 : decode cX12_handler 67 = .ok (.iaload, 1) := by decide +kernel
theorem dX12_handler_68 : decode cX12_handler 68 = .ok (.bipush 6, 2) := by decide +kernel
theorem dX12_handler_70 : decode cX12_handler 70 = .ok (.if_icmp .ne 6, 3) := by decide +kernel
theorem dX12_handler_73 : decode cX12_handler 73 = .ok (.bipush (-4), 2) := by decide +kernel
theorem dX12_handler_75 : decode cX12_handler 75 = .ok (.ireturn, 1) := by decide +kernel
theorem dX12_handler_76 : decode cX12_handler 76 = .ok (.aload_n 0, 1) := by decide +kernel
theorem dX12_handler_77 : decode cX12_handler 77 = .ok (.invokevirtual 157, 3) := by decide +kernel
theorem dX12_handler_80 : decode cX12_handler 80 = .ok (.bipush 6, 2) := by decide +kernel
theorem dX12_handler_82 : decode cX12_handler 82 = .ok (.iload_n 1, 1) := by decide +kernel
theorem dX12_handler_83 : decode cX12_handler 83 = .ok (.imul, 1) := by decide +kernel
theorem dX12_handler_84 : decode cX12_handler 84 = .ok (.aload_n 0, 1) := by decide +kernel
theorem dX12_handler_85 : decode cX12_handler 85 = .ok (.getfield 34, 3) := by decide +kernel
theorem dX12_handler_88 : decode cX12_handler 88 = .ok (.iload_n 1, 1) := by decide +kernel
theorem dX12_handler_89 : decode cX12_handler 89 = .ok (.iaload, 1) := by decide +kernel
theorem dX12_handler_90 : decode cX12_handler 90 = .ok (.iadd, 1) := by decide +kernel
theorem dX12_handler_91 : decode cX12_handler 91 = .ok (.istore 6, 2) := by decide +kernel
theorem dX12_handler_93 : decode cX12_handler 93 = .ok (.aload_n 0, 1) := by decide +kernel
theorem dX12_handler_94 : decode cX12_handler 94 = .ok (.getfield 37, 3) := by decide +kernel
theorem dX12_handler_97 : decode cX12_handler 97 = .ok (.iload 6, 2) := by decide +kernel
theorem dX12_handler_99 : decode cX12_handler 99 = .ok (.iload_n 2, 1) := by decide +kernel
theorem dX12_handler_100 : decode cX12_handler 100 = .ok (.iastore, 1) := by decide +kernel
theorem dX12_handler_101 : decode cX12_handler 101 = .ok (.aload_n 0, 1) := by decide +kernel
theorem dX12_handler_102 : decode cX12_handler 102 = .ok (.getfield 40, 3) := by decide +kernel
theorem dX12_handler_105 : decode cX12_handler 105 = .ok (.iload 6, 2) := by decide +kernel
theorem dX12_handler_107 : decode cX12_handler 107 = .ok (.iload_n 3, 1) := by decide +kernel
theorem dX12_handler_108 : decode cX12_handler 108 = .ok (.iastore, 1) := by decide +kernel
theorem dX12_handler_109 : decode cX12_handler 109 = .ok (.aload_n 0, 1) := by decide +kernel
theorem dX12_handler_110 : decode cX12_handler 110 = .ok (.getfield 43, 3) := by decide +kernel
theorem dX12_handler_113 : decode cX12_handler 113 = .ok (.iload 6, 2) := by decide +kernel
theorem dX12_handler_115 : decode cX12_handler 115 = .ok (.iload 4, 2) := by decide +kernel
theorem dX12_handler_117 : decode cX12_handler 117 = .ok (.iastore, 1) := by decide +kernel
theorem dX12_handler_118 : decode cX12_handler 118 = .ok (.aload_n 0, 1) := by decide +kernel
theorem dX12_handler_119 : decode cX12_handler 119 = .ok (.getfield 46, 3) := by decide +kernel
theorem dX12_handler_122 : decode cX12_handler 122 = .ok (.iload 6, 2) := by decide +kernel
theorem dX12_handler_124 : decode cX12_handler 124 = .ok (.iload 5, 2) := by decide +kernel
theorem dX12_handler_126 : decode cX12_handler 126 = .ok (.iastore, 1) := by decide +kernel
theorem dX12_handler_127 : decode cX12_handler 127 = .ok (.aload_n 0, 1) := by decide +kernel
theorem dX12_handler_128 : decode cX12_handler 128 = .ok (.getfield 34, 3) := by decide +kernel
theorem dX12_handler_131 : decode cX12_handler 131 = .ok (.iload_n 1, 1) := by decide +kernel
theorem dX12_handler_132 : decode cX12_handler 132 = .ok (.dup2, 1) := by decide +kernel
theorem dX12_handler_133 : decode cX12_handler 133 = .ok (.iaload, 1) := by decide +kernel
theorem dX12_handler_134 : decode cX12_handler 134 = .ok (.iconst 1, 1) := by decide +kernel
theorem dX12_handler_135 : decode cX12_handler 135 = .ok (.iadd, 1) := by decide +kernel
theorem dX12_handler_136 : decode cX12_handler 136 = .ok (.iastore, 1) := by decide +kernel
theorem dX12_handler_137 : decode cX12_handler 137 = .ok (.aload_n 0, 1) := by decide +kernel
theorem dX12_handler_138 : decode cX12_handler 138 = .ok (.getfield 34, 3) := by decide +kernel
theorem dX12_handler_141 : decode cX12_handler 141 = .ok (.iload_n 1, 1) := by decide +kernel
theorem dX12_handler_142 : decode cX12_handler 142 = .ok (.iaload, 1) := by decide +kernel
theorem dX12_handler_143 : decode cX12_handler 143 = .ok (.ireturn, 1) := by decide +kernel
theorem dX12_init_0 : decode cX12_init 0 = .ok (.aload_n 0, 1) := by decide +kernel
theorem dX12_init_1 : decode cX12_init 1 = .ok (.invokespecial 1, 3) := by decide +kernel
theorem dX12_init_4 : decode cX12_init 4 = .ok (.aload_n 0, 1) := by decide +kernel
theorem dX12_init_5 : decode cX12_init 5 = .ok (.bipush 8, 2) := by decide +kernel
theorem dX12_init_7 : decode cX12_init 7 = .ok (.newarray .int, 2) := by decide +kernel
theorem dX12_init_9 : decode cX12_init 9 = .ok (.putfield 7, 3) := by decide +kernel
theorem dX12_init_12 : decode cX12_init 12 = .ok (.aload_n 0, 1) := by decide +kernel
theorem dX12_init_13 : decode cX12_init 13 = .ok (.bipush 8, 2) := by decide +kernel
theorem dX12_init_15 : decode cX12_init 15 = .ok (.newarray .int, 2) := by decide +kernel
theorem dX12_init_17 : decode cX12_init 17 = .ok (.putfield 13, 3) := by decide +kernel
theorem dX12_init_20 : decode cX12_init 20 = .ok (.aload_n 0, 1) := by decide +kernel
theorem dX12_init_21 : decode cX12_init 21 = .ok (.bipush 8, 2) := by decide +kernel
theorem dX12_init_23 : decode cX12_init 23 = .ok (.newarray .int, 2) := by decide +kernel
theorem dX12_init_25 : decode cX12_init 25 = .ok (.putfield 16, 3) := by decide +kernel
theorem dX12_init_28 : decode cX12_init 28 = .ok (.aload_n 0, 1) := by decide +kernel
theorem dX12_init_29 : decode cX12_init 29 = .ok (.bipush 64, 2) := by decide +kernel
theorem dX12_init_31 : decode cX12_init 31 = .ok (.newarray .int, 2) := by decide +kernel
theorem dX12_init_33 : decode cX12_init 33 = .ok (.putfield 19, 3) := by decide +kernel
theorem dX12_init_36 : decode cX12_init 36 = .ok (.aload_n 0, 1) := by decide +kernel
theorem dX12_init_37 : decode cX12_init 37 = .ok (.bipush 8, 2) := by decide +kernel
theorem dX12_init_39 : decode cX12_init 39 = .ok (.newarray .int, 2) := by decide +kernel
theorem dX12_init_41 : decode cX12_init 41 = .ok (.putfield 22, 3) := by decide +kernel
theorem dX12_init_44 : decode cX12_init 44 = .ok (.aload_n 0, 1) := by decide +kernel
theorem dX12_init_45 : decode cX12_init 45 = .ok (.sipush 480, 3) := by decide +kernel
theorem dX12_init_48 : decode cX12_init 48 = .ok (.newarray .int, 2) := by decide +kernel
theorem dX12_init_50 : decode cX12_init 50 = .ok (.putfield 25, 3) := by decide +kernel
theorem dX12_init_53 : decode cX12_init 53 = .ok (.aload_n 0, 1) := by decide +kernel
theorem dX12_init_54 : decode cX12_init 54 = .ok (.sipush 480, 3) := by decide +kernel
theorem dX12_init_57 : decode cX12_init 57 = .ok (.newarray .int, 2) := by decide +kernel
theorem dX12_init_59 : decode cX12_init 59 = .ok (.putfield 28, 3) := by decide +kernel
theorem dX12_init_62 : decode cX12_init 62 = .ok (.aload_n 0, 1) := by decide +kernel
theorem dX12_init_63 : decode cX12_init 63 = .ok (.sipush 480, 3) := by decide +kernel
theorem dX12_init_66 : decode cX12_init 66 = .ok (.newarray .int, 2) := by decide +kernel
theorem dX12_init_68 : decode cX12_init 68 = .ok (.putfield 31, 3) := by decide +kernel
theorem dX12_init_71 : decode cX12_init 71 = .ok (.aload_n 0, 1) := by decide +kernel
theorem dX12_init_72 : decode cX12_init 72 = .ok (.bipush 8, 2) := by decide +kernel
theorem dX12_init_74 : decode cX12_init 74 = .ok (.newarray .int, 2) := by decide +kernel
theorem dX12_init_76 : decode cX12_init 76 = .ok (.putfield 34, 3) := by decide +kernel
theorem dX12_init_79 : decode cX12_init 79 = .ok (.aload_n 0, 1) := by decide +kernel
theorem dX12_init_80 : decode cX12_init 80 = .ok (.bipush 48, 2) := by decide +kernel
theorem dX12_init_82 : decode cX12_init 82 = .ok (.newarray .int, 2) := by decide +kernel
theorem dX12_init_84 : decode cX12_init 84 = .ok (.putfield 37, 3) := by decide +kernel
theorem dX12_init_87 : decode cX12_init 87 = .ok (.aload_n 0, 1) := by decide +kernel
theorem dX12_init_88 : decode cX12_init 88 = .ok (.bipush 48, 2) := by decide +kernel
theorem dX12_init_90 : decode cX12_init 90 = .ok (.newarray .int, 2) := by decide +kernel
theorem dX12_init_92 : decode cX12_init 92 = .ok (.putfield 40, 3) := by decide +kernel
theorem dX12_init_95 : decode cX12_init 95 = .ok (.aload_n 0, 1) := by decide +kernel
theorem dX12_init_96 : decode cX12_init 96 = .ok (.bipush 48, 2) := by decide +kernel
theorem dX12_init_98 : decode cX12_init 98 = .ok (.newarray .int, 2) := by decide +kernel
theorem dX12_init_100 : decode cX12_init 100 = .ok (.putfield 43, 3) := by decide +kernel
theorem dX12_init_103 : decode cX12_init 103 = .ok (.aload_n 0, 1) := by decide +kernel
theorem dX12_init_104 : decode cX12_init 104 = .ok (.bipush 48, 2) := by decide +kernel
theorem dX12_init_106 : decode cX12_init 106 = .ok (.newarray .int, 2) := by decide +kernel
theorem dX12_init_108 : decode cX12_init 108 = .ok (.putfield 46, 3) := by decide +kernel
theorem dX12_init_111 : decode cX12_init 111 = .ok (.aload_n 0, 1) := by decide +kernel
theorem dX12_init_112 : decode cX12_init 112 = .ok (.bipush 8, 2) := by decide +kernel
theorem dX12_init_114 : decode cX12_init 114 = .ok (.newarray .boolean, 2) := by decide +kernel
theorem dX12_init_116 : decode cX12_init 116 = .ok (.putfield 49, 3) := by decide +kernel
theorem dX12_init_119 : decode cX12_init 119 = .ok (.aload_n 0, 1) := by decide +kernel
theorem dX12_init_120 : decode cX12_init 120 = .ok (.bipush 40, 2) := by decide +kernel
theorem dX12_init_122 : decode cX12_init 122 = .ok (.newarray .long, 2) := by decide +kernel
theorem dX12_init_124 : decode cX12_init 124 = .ok (.putfield 53, 3) := by decide +kernel
theorem dX12_init_127 : decode cX12_init 127 = .ok (.aload_n 0, 1) := by decide +kernel
theorem dX12_init_128 : decode cX12_init 128 = .ok (.bipush 8, 2) := by decide +kernel
theorem dX12_init_130 : decode cX12_init 130 = .ok (.newarray .boolean, 2) := by decide +kernel
theorem dX12_init_132 : decode cX12_init 132 = .ok (.putfield 57, 3) := by decide +kernel
theorem dX12_init_135 : decode cX12_init 135 = .ok (.aload_n 0, 1) := by decide +kernel
theorem dX12_init_136 : decode cX12_init 136 = .ok (.bipush 8, 2) := by decide +kernel
theorem dX12_init_138 : decode cX12_init 138 = .ok (.newarray .int, 2) := by decide +kernel
theorem dX12_init_140 : decode cX12_init 140 = .ok (.putfield 60, 3) := by decide +kernel
theorem dX12_init_143 : decode cX12_init 143 = .ok (.aload_n 0, 1) := by decide +kernel
theorem dX12_init_144 : decode cX12_init 144 = .ok (.bipush 8, 2) := by decide +kernel
theorem dX12_init_146 : decode cX12_init 146 = .ok (.newarray .int, 2) := by decide +kernel
theorem dX12_init_148 : decode cX12_init 148 = .ok (.putfield 63, 3) := by decide +kernel
theorem dX12_init_151 : decode cX12_init 151 = .ok (.aload_n 0, 1) := by decide +kernel
theorem dX12_init_152 : decode cX12_init 152 = .ok (.bipush 8, 2) := by decide +kernel
theorem dX12_init_154 : decode cX12_init 154 = .ok (.newarray .int, 2) := by decide +kernel
theorem dX12_init_156 : decode cX12_init 156 = .ok (.putfield 66, 3) := by decide +kernel
theorem dX12_init_159 : decode cX12_init 159 = .ok (.aload_n 0, 1) := by decide +kernel
theorem dX12_init_160 : decode cX12_init 160 = .ok (.bipush 64, 2) := by decide +kernel
theorem dX12_init_162 : decode cX12_init 162 = .ok (.newarray .int, 2) := by decide +kernel
theorem dX12_init_164 : decode cX12_init 164 = .ok (.putfield 69, 3) := by decide +kernel
theorem dX12_init_167 : decode cX12_init 167 = .ok (.aload_n 0, 1) := by decide +kernel
theorem dX12_init_168 : decode cX12_init 168 = .ok (.bipush 64, 2) := by decide +kernel
theorem dX12_init_170 : decode cX12_init 170 = .ok (.newarray .int, 2) := by decide +kernel
theorem dX12_init_172 : decode cX12_init 172 = .ok (.putfield 72, 3) := by decide +kernel
theorem dX12_init_175 : decode cX12_init 175 = .ok (.aload_n 0, 1) := by decide +kernel
theorem dX12_init_176 : decode cX12_init 176 = .ok (.sipush 480, 3) := by decide +kernel
theorem dX12_init_179 : decode cX12_init 179 = .ok (.newarray .boolean, 2) := by decide +kernel
theorem dX12_init_181 : decode cX12_init 181 = .ok (.putfield 75, 3) := by decide +kernel
theorem dX12_init_184 : decode cX12_init 184 = .ok (.aload_n 0, 1) := by decide +kernel
theorem dX12_init_185 : decode cX12_init 185 = .ok (.bipush 60, 2) := by decide +kernel
theorem dX12_init_187 : decode cX12_init 187 = .ok (.newarray .boolean, 2) := by decide +kernel
theorem dX12_init_189 : decode cX12_init 189 = .ok (.putfield 78, 3) := by decide +kernel
theorem dX12_init_192 : decode cX12_init 192 = .ok (.aload_n 0, 1) := by decide +kernel
theorem dX12_init_193 : decode cX12_init 193 = .ok (.sipush 480, 3) := by decide +kernel
theorem dX12_init_196 : decode cX12_init 196 = .ok (.newarray .int, 2) := by decide +kernel
theorem dX12_init_198 : decode cX12_init 198 = .ok (.putfield 81, 3) := by decide +kernel
theorem dX12_init_201 : decode cX12_init 201 = .ok (.aload_n 0, 1) := by decide +kernel
theorem dX12_init_202 : decode cX12_init 202 = .ok (.sipush 5760, 3) := by decide +kernel
theorem dX12_init_205 : decode cX12_init 205 = .ok (.newarray .int, 2) := by decide +kernel
theorem dX12_init_207 : decode cX12_init 207 = .ok (.putfield 84, 3) := by decide +kernel
theorem dX12_init_210 : decode cX12_init 210 = .ok (.aload_n 0, 1) := by decide +kernel
theorem dX12_init_211 : decode cX12_init 211 = .ok (.sipush 7680, 3) := by decide +kernel
theorem dX12_init_214 : decode cX12_init 214 = .ok (.newarray .int, 2) := by decide +kernel
theorem dX12_init_216 : decode cX12_init 216 = .ok (.putfield 87, 3) := by decide +kernel
theorem dX12_init_219 : decode cX12_init 219 = .ok (.aload_n 0, 1) := by decide +kernel
theorem dX12_init_220 : decode cX12_init 220 = .ok (.bipush 64, 2) := by decide +kernel
theorem dX12_init_222 : decode cX12_init 222 = .ok (.newarray .int, 2) := by decide +kernel
theorem dX12_init_224 : decode cX12_init 224 = .ok (.putfield 90, 3) := by decide +kernel
theorem dX12_init_227 : decode cX12_init 227 = .ok (.aload_n 0, 1) := by decide +kernel
theorem dX12_init_228 : decode cX12_init 228 = .ok (.bipush 18, 2) := by decide +kernel
theorem dX12_init_230 : decode cX12_init 230 = .ok (.newarray .int, 2) := by decide +kernel
theorem dX12_init_232 : decode cX12_init 232 = .ok (.putfield 93, 3) := by decide +kernel
theorem dX12_init_235 : decode cX12_init 235 = .ok (.aload_n 0, 1) := by decide +kernel
theorem dX12_init_236 : decode cX12_init 236 = .ok (.iconst (-1), 1) := by decide +kernel
theorem dX12_init_237 : decode cX12_init 237 = .ok (.putfield 96, 3) := by decide +kernel
theorem dX12_init_240 : decode cX12_init 240 = .ok (.aload_n 0, 1) := by decide +kernel
theorem dX12_init_241 : decode cX12_init 241 = .ok (.iconst (-1), 1) := by decide +kernel
theorem dX12_init_242 : decode cX12_init 242 = .ok (.putfield 100, 3) := by decide +kernel
theorem dX12_init_245 : decode cX12_init 245 = .ok (.aload_n 0, 1) := by decide +kernel
theorem dX12_init_246 : decode cX12_init 246 = .ok (.bipush 8, 2) := by decide +kernel
theorem dX12_init_248 : decode cX12_init 248 = .ok (.newarray .long, 2) := by decide +kernel
theorem dX12_init_250 : decode cX12_init 250 = .ok (.putfield 103, 3) := by decide +kernel
theorem dX12_init_253 : decode cX12_init 253 = .ok (.aload_n 0, 1) := by decide +kernel
theorem dX12_init_254 : decode cX12_init 254 = .ok (.bipush 16, 2) := by decide +kernel
theorem dX12_init_256 : decode cX12_init 256 = .ok (.newarray .int, 2) := by decide +kernel
theorem dX12_init_258 : decode cX12_init 258 = .ok (.putfield 106, 3) := by decide +kernel
theorem dX12_init_261 : decode cX12_init 261 = .ok (.aload_n 0, 1) := by decide +kernel
theorem dX12_init_262 : decode cX12_init 262 = .ok (.bipush 12, 2) := by decide +kernel
theorem dX12_init_264 : decode cX12_init 264 = .ok (.newarray .int, 2) := by decide +kernel
theorem dX12_init_266 : decode cX12_init 266 = .ok (.putfield 109, 3) := by decide +kernel
theorem dX12_init_269 : decode cX12_init 269 = .ok (.aload_n 0, 1) := by decide +kernel
theorem dX12_init_270 : decode cX12_init 270 = .ok (.bipush 16, 2) := by decide +kernel
theorem dX12_init_272 : decode cX12_init 272 = .ok (.newarray .int, 2) := by decide +kernel
theorem dX12_init_274 : decode cX12_init 274 = .ok (.putfield 112, 3) := by decide +kernel
theorem dX12_init_277 : decode cX12_init 277 = .ok (.aload_n 0, 1) := by decide +kernel
theorem dX12_init_278 : decode cX12_init 278 = .ok (.bipush 60, 2) := by decide +kernel
theorem dX12_init_280 : decode cX12_init 280 = .ok (.newarray .int, 2) := by decide +kernel
theorem dX12_init_282 : decode cX12_init 282 = .ok (.putfield 115, 3) := by decide +kernel
theorem dX12_init_285 : decode cX12_init 285 = .ok (.aload_n 0, 1) := by decide +kernel
theorem dX12_init_286 : decode cX12_init 286 = .ok (.bipush 60, 2) := by decide +kernel
theorem dX12_init_288 : decode cX12_init 288 = .ok (.newarray .int, 2) := by decide +kernel
theorem dX12_init_290 : decode cX12_init 290 = .ok (.putfield 118, 3) := by decide +kernel
theorem dX12_init_293 : decode cX12_init 293 = .ok (.aload_n 0, 1) := by decide +kernel
theorem dX12_init_294 : decode cX12_init 294 = .ok (.bipush 60, 2) := by decide +kernel
theorem dX12_init_296 : decode cX12_init 296 = .ok (.newarray .int, 2) := by decide +kernel
theorem dX12_init_298 : decode cX12_init 298 = .ok (.putfield 121, 3) := by decide +kernel
theorem dX12_init_301 : decode cX12_init 301 = .ok (.aload_n 0, 1) := by decide +kernel
theorem dX12_init_302 : decode cX12_init 302 = .ok (.bipush 60, 2) := by decide +kernel
theorem dX12_init_304 : decode cX12_init 304 = .ok (.newarray .int, 2) := by decide +kernel
theorem dX12_init_306 : decode cX12_init 306 = .ok (.putfield 124, 3) := by decide +kernel
theorem dX12_init_309 : decode cX12_init 309 = .ok (.aload_n 0, 1) := by decide +kernel
theorem dX12_init_310 : decode cX12_init 310 = .ok (.sipush 6000, 3) := by decide +kernel
theorem dX12_init_313 : decode cX12_init 313 = .ok (.newarray .long, 2) := by decide +kernel
theorem dX12_init_315 : decode cX12_init 315 = .ok (.putfield 127, 3) := by decide +kernel
theorem dX12_init_318 : decode cX12_init 318 = .ok (.aload_n 0, 1) := by decide +kernel
theorem dX12_init_319 : decode cX12_init 319 = .ok (.bipush 6, 2) := by decide +kernel
theorem dX12_init_321 : decode cX12_init 321 = .ok (.newarray .int, 2) := by decide +kernel
theorem dX12_init_323 : decode cX12_init 323 = .ok (.putfield 130, 3) := by decide +kernel
theorem dX12_init_326 : decode cX12_init 326 = .ok (.aload_n 0, 1) := by decide +kernel
theorem dX12_init_327 : decode cX12_init 327 = .ok (.bipush 6, 2) := by decide +kernel
theorem dX12_init_329 : decode cX12_init 329 = .ok (.newarray .int, 2) := by decide +kernel
theorem dX12_init_331 : decode cX12_init 331 = .ok (.putfield 133, 3) := by decide +kernel
theorem dX12_init_334 : decode cX12_init 334 = .ok (.aload_n 0, 1) := by decide +kernel
theorem dX12_init_335 : decode cX12_init 335 = .ok (.bipush 6, 2) := by decide +kernel
theorem dX12_init_337 : decode cX12_init 337 = .ok (.newarray .int, 2) := by decide +kernel
theorem dX12_init_339 : decode cX12_init 339 = .ok (.putfield 136, 3) := by decide +kernel
theorem dX12_init_342 : decode cX12_init 342 = .ok (.aload_n 0, 1) := by decide +kernel
theorem dX12_init_343 : decode cX12_init 343 = .ok (.sipush 192, 3) := by decide +kernel
theorem dX12_init_346 : decode cX12_init 346 = .ok (.newarray .long, 2) := by decide +kernel
theorem dX12_init_348 : decode cX12_init 348 = .ok (.putfield 139, 3) := by decide +kernel
theorem dX12_init_351 : decode cX12_init 351 = .ok (.aload_n 0, 1) := by decide +kernel
theorem dX12_init_352 : decode cX12_init 352 = .ok (.bipush 108, 2) := by decide +kernel
theorem dX12_init_354 : decode cX12_init 354 = .ok (.newarray .long, 2) := by decide +kernel
theorem dX12_init_356 : decode cX12_init 356 = .ok (.putfield 142, 3) := by decide +kernel
theorem dX12_init_359 : decode cX12_init 359 = .ok (.aload_n 0, 1) := by decide +kernel
theorem dX12_init_360 : decode cX12_init 360 = .ok (.sipush 360, 3) := by decide +kernel
theorem dX12_init_363 : decode cX12_init 363 = .ok (.newarray .int, 2) := by decide +kernel
theorem dX12_init_365 : decode cX12_init 365 = .ok (.putfield 145, 3) := by decide +kernel
theorem dX12_init_368 : decode cX12_init 368 = .ok (.aload_n 0, 1) := by decide +kernel
theorem dX12_init_369 : decode cX12_init 369 = .ok (.iconst 0, 1) := by decide +kernel
theorem dX12_init_370 : decode cX12_init 370 = .ok (.putfield 148, 3) := by decide +kernel
theorem dX12_init_373 : decode cX12_init 373 = .ok (.return_, 1) := by decide +kernel
theorem dX12_isCaught_0 : decode cX12_isCaught 0 = .ok (.aload_n 0, 1) := by decide +kernel
theorem dX12_isCaught_1 : decode cX12_isCaught 1 = .ok (.getfield 330, 3) := by decide +kernel
theorem dX12_isCaught_4 : decode cX12_isCaught 4 = .ok (.istore_n 1, 1) := by decide +kernel
theorem dX12_isCaught_5 : decode cX12_isCaught 5 = .ok (.aload_n 0, 1) := by decide +kernel
theorem dX12_isCaught_6 : decode cX12_isCaught 6 = .ok (.iload_n 1, 1) := by decide +kernel
theorem dX12_isCaught_7 : decode cX12_isCaught 7 = .ok (.putfield 302, 3) := by decide +kernel
theorem dX12_isCaught_10 : decode cX12_isCaught 10 = .ok (.aload_n 0, 1) := by decide +kernel
theorem dX12_isCaught_11 : decode cX12_isCaught 11 = .ok (.aload_n 0, 1) := by decide +kernel
theorem dX12_isCaught_12 : decode cX12_isCaught 12 = .ok (.getfield 133, 3) := by decide +kernel
theorem dX12_isCaught_15 : decode cX12_isCaught 15 = .ok (.aload_n 0, 1) := by decide +kernel
theorem dX12_isCaught_16 : decode cX12_isCaught 16 = .ok (.getfield 284, 3) := by decide +kernel
theorem dX12_isCaught_19 : decode cX12_isCaught 19 = .ok (.iconst 1, 1) := by decide +kernel
theorem dX12_isCaught_20 : decode cX12_isCaught 20 = .ok (.isub, 1) := by decide +kernel
theorem dX12_isCaught_21 : decode cX12_isCaught 21 = .ok (.iaload, 1) := by decide +kernel
theorem dX12_isCaught_22 : decode cX12_isCaught 22 = .ok (.putfield 305, 3) := by decide +kernel
theorem dX12_isCaught_25 : decode cX12_isCaught 25 = .ok (.aload_n 0, 1) := by decide +kernel
theorem dX12_isCaught_26 : decode cX12_isCaught 26 = .ok (.aload_n 0, 1) := by decide +kernel
theorem dX12_isCaught_27 : decode cX12_isCaught 27 = .ok (.getfield 130, 3) := by decide +kernel
theorem dX12_isCaught_30 : decode cX12_isCaught 30 = .ok (.aload_n 0, 1) := by decide +kernel
theorem dX12_isCaught_31 : decode cX12_isCaught 31 = .ok (.getfield 284, 3) := by decide +kernel
theorem dX12_isCaught_34 : decode cX12_isCaught 34 = .ok (.iconst 1, 1) := by decide +kernel
theorem dX12_isCaught_35 : decode cX12_isCaught 35 = .ok (.isub, 1) := by decide +kernel
theorem dX12_isCaught_36 : decode cX12_isCaught 36 = .ok (.iaload, 1) := by decide +kernel
theorem dX12_isCaught_37 : decode cX12_isCaught 37 = .ok (.putfield 308, 3) := by decide +kernel
theorem dX12_isCaught_40 : decode cX12_isCaught 40 = .ok (.aload_n 0, 1) := by decide +kernel
theorem dX12_isCaught_41 : decode cX12_isCaught 41 = .ok (.getfield 333, 3) := by decide +kernel
theorem dX12_isCaught_44 : decode cX12_isCaught 44 = .ok (.bipush (-2), 2) := by decide +kernel
theorem dX12_isCaught_46 : decode cX12_isCaught 46 = .ok (.if_icmp .ne 29, 3) := by decide +kernel
theorem dX12_isCaught_49 : decode cX12_isCaught 49 = .ok (.aload_n 0, 1) := by decide +kernel
theorem dX12_isCaught_50 : decode cX12_isCaught 50 = .ok (.aload_n 0, 1) := by decide +kernel
theorem dX12_isCaught_51 : decode cX12_isCaught 51 = .ok (.getfield 296, 3) := by decide +kernel
theorem dX12_isCaught_54 : decode cX12_isCaught 54 = .ok (.bipush 60, 2) := by decide +kernel
theorem dX12_isCaught_56 : decode cX12_isCaught 56 = .ok (.if_icmp .ne 7, 3) := by decide +kernel
theorem dX12_isCaught_59 : decode cX12_isCaught 59 = .ok (.iconst (-1), 1) := by decide +kernel
theorem dX12_isCaught_60 : decode cX12_isCaught 60 = .ok (.goto 12, 3) := by decide +kernel
theorem dX12_isCaught_63 : decode cX12_isCaught 63 = .ok (.aload_n 0, 1) := by decide +kernel
theorem dX12_isCaught_64 : decode cX12_isCaught 64 = .ok (.iload_n 1, 1) := by decide +kernel
theorem dX12_isCaught_65 : decode cX12_isCaught 65 = .ok (.bipush 100, 2) := by decide +kernel
theorem dX12_isCaught_67 : decode cX12_isCaught 67 = .ok (.isub, 1) := by decide +kernel
theorem dX12_isCaught_68 : decode cX12_isCaught 68 = .ok (.iconst 0, 1) := by decide +kernel
theorem dX12_isCaught_69 : decode cX12_isCaught 69 = .ok (.invokevirtual 343, 3) := by decide +kernel
theorem dX12_isCaught_72 : decode cX12_isCaught 72 = .ok (.putfield 333, 3) := by decide +kernel
theorem dX12_isCaught_75 : decode cX12_isCaught 75 = .ok (.aload_n 0, 1) := by decide +kernel
theorem dX12_isCaught_76 : decode cX12_isCaught 76 = .ok (.getfield 284, 3) := by decide +kernel
theorem dX12_isCaught_79 : decode cX12_isCaught 79 = .ok (.ifCond .le 193, 3) := by decide +kernel
theorem dX12_isCaught_82 : decode cX12_isCaught 82 = .ok (.aload_n 0, 1) := by decide +kernel
theorem dX12_isCaught_83 : decode cX12_isCaught 83 = .ok (.getfield 284, 3) := by decide +kernel
theorem dX12_isCaught_86 : decode cX12_isCaught 86 = .ok (.iconst 1, 1) := by decide +kernel
theorem dX12_isCaught_87 : decode cX12_isCaught 87 = .ok (.isub, 1) := by decide +kernel
theorem dX12_isCaught_88 : decode cX12_isCaught 88 = .ok (.istore_n 2, 1) := by decide +kernel
theorem dX12_isCaught_89 : decode cX12_isCaught 89 = .ok (.aload_n 0, 1) := by decide +kernel
theorem dX12_isCaught_90 : decode cX12_isCaught 90 = .ok (.getfield 130, 3) := by decide +kernel
theorem dX12_isCaught_93 : decode cX12_isCaught 93 = .ok (.iload_n 2, 1) := by decide +kernel
theorem dX12_isCaught_94 : decode cX12_isCaught 94 = .ok (.iaload, 1) := by decide +kernel
theorem dX12_isCaught_95 : decode cX12_isCaught 95 = .ok (.istore_n 3, 1) := by decide +kernel
theorem dX12_isCaught_96 : decode cX12_isCaught 96 = .ok (.bipush 6, 2) := by decide +kernel
theorem dX12_isCaught_98 : decode cX12_isCaught 98 = .ok (.iload_n 3, 1) := by decide +kernel
theorem dX12_isCaught_99 : decode cX12_isCaught 99 = .ok (.imul, 1) := by decide +kernel
theorem dX12_isCaught_100 : decode cX12_isCaught 100 = .ok (.istore 4, 2) := by decide +kernel
theorem dX12_isCaught_102 : decode cX12_isCaught 102 = .ok (.iload 4, 2) := by decide +kernel
theorem dX12_isCaught_104 : decode cX12_isCaught 104 = .ok (.bipush 6, 2) := by decide +kernel
theorem dX12_isCaught_106 : decode cX12_isCaught 106 = .ok (.iload_n 3, 1) := by decide +kernel
theorem dX12_isCaught_107 : decode cX12_isCaught 107 = .ok (.imul, 1) := by decide +kernel
theorem dX12_isCaught_108 : decode cX12_isCaught 108 = .ok (.aload_n 0, 1) := by decide +kernel
theorem dX12_isCaught_109 : decode cX12_isCaught 109 = .ok (.getfield 34, 3) := by decide +kernel
theorem dX12_isCaught_112 : decode cX12_isCaught 112 = .ok (.iload_n 3, 1) := by decide +kernel
theorem dX12_isCaught_113 : decode cX12_isCaught 113 = .ok (.iaload, 1) := by decide +kernel
theorem dX12_isCaught_114 : decode cX12_isCaught 114 = .ok (.iadd, 1) := by decide +kernel
theorem dX12_isCaught_115 : decode cX12_isCaught 115 = .ok (.if_icmp .ge 104, 3) := by decide +kernel
theorem dX12_isCaught_118 : decode cX12_isCaught 118 = .ok (.aload_n 0, 1) := by decide +kernel
theorem dX12_isCaught_119 : decode cX12_isCaught 119 = .ok (.iload 4, 2) := by decide +kernel
theorem dX12_isCaught_121 : decode cX12_isCaught 121 = .ok (.aload_n 0, 1) := by decide +kernel
theorem dX12_isCaught_122 : decode cX12_isCaught 122 = .ok (.getfield 133, 3) := by decide +kernel
theorem dX12_isCaught_125 : decode cX12_isCaught 125 = .ok (.iload_n 2, 1) := by decide +kernel
theorem dX12_isCaught_126 : decode cX12_isCaught 126 = .ok (.iaload, 1) := by decide +kernel
theorem dX12_isCaught_127 : decode cX12_isCaught 127 = .ok (.invokevirtual 208, 3) := by decide +kernel
theorem dX12_isCaught_130 : decode cX12_isCaught 130 = .ok (.ifCond .eq 83, 3) := by decide +kernel
theorem dX12_isCaught_133 : decode cX12_isCaught 133 = .ok (.aload_n 0, 1) := by decide +kernel
theorem dX12_isCaught_134 : decode cX12_isCaught 134 = .ok (.getfield 46, 3) := by decide +kernel
theorem dX12_isCaught_137 : decode cX12_isCaught 137 = .ok (.iload 4, 2) := by decide +kernel
theorem dX12_isCaught_139 : decode cX12_isCaught 139 = .ok (.iaload, 1) := by decide +kernel
theorem dX12_isCaught_140 : decode cX12_isCaught 140 = .ok (.iconst (-1), 1) := by decide +kernel
theorem dX12_isCaught_141 : decode cX12_isCaught 141 = .ok (.if_icmp .eq 14, 3) := by decide +kernel
theorem dX12_isCaught_144 : decode cX12_isCaught 144 = .ok (.aload_n 0, 1) := by decide +kernel
theorem dX12_isCaught_145 : decode cX12_isCaught 145 = .ok (.getfield 46, 3) := by decide +kernel
theorem dX12_isCaught_148 : decode cX12_isCaught 148 = .ok (.iload 4, 2) := by decide +kernel
theorem dX12_isCaught_150 : decode cX12_isCaught 150 = .ok (.iaload, 1) := by decide +kernel
theorem dX12_isCaught_151 : decode cX12_isCaught 151 = .ok (.iload_n 1, 1) := by decide +kernel
theorem dX12_isCaught_152 : decode cX12_isCaught 152 = .ok (.if_icmp .ne 61, 3) := by decide +kernel
theorem dX12_isCaught_155 : decode cX12_isCaught 155 = .ok (.aload_n 0, 1) := by decide +kernel
theorem dX12_isCaught_156 : decode cX12_isCaught 156 = .ok (.getfield 136, 3) := by decide +kernel
theorem dX12_isCaught_159 : decode cX12_isCaught 159 = .ok (.iload_n 2, 1) := by decide +kernel
theorem dX12_isCaught_160 : decode cX12_isCaught 160 = .ok (.iconst 0, 1) := by decide +kernel
theorem dX12_isCaught_161 : decode cX12_isCaught 161 = .ok (.iastore, 1) := by decide +kernel
theorem dX12_isCaught_162 : decode cX12_isCaught 162 = .ok (.aload_n 0, 1) := by decide +kernel
theorem dX12_isCaught_163 : decode cX12_isCaught 163 = .ok (.iload_n 2, 1) := by decide +kernel
theorem dX12_isCaught_164 : decode cX12_isCaught 164 = .ok (.iconst 4, 1) := by decide +kernel
theorem dX12_isCaught_165 : decode cX12_isCaught 165 = .ok (.aload_n 0, 1) := by decide +kernel
theorem dX12_isCaught_166 : decode cX12_isCaught 166 = .ok (.getfield 333, 3) := by decide +kernel
theorem dX12_isCaught_169 : decode cX12_isCaught 169 = .ok (.i2l, 1) := by decide +kernel
theorem dX12_isCaught_170 : decode cX12_isCaught 170 = .ok (.invokevirtual 346, 3) := by decide +kernel
theorem dX12_isCaught_173 : decode cX12_isCaught 173 = .ok (.aload_n 0, 1) := by decide +kernel
theorem dX12_isCaught_174 : decode cX12_isCaught 174 = .ok (.getfield 133, 3) := by decide +kernel
theorem dX12_isCaught_177 : decode cX12_isCaught 177 = .ok (.iload_n 2, 1) := by decide +kernel
theorem dX12_isCaught_178 : decode cX12_isCaught 178 = .ok (.aload_n 0, 1) := by decide +kernel
theorem dX12_isCaught_179 : decode cX12_isCaught 179 = .ok (.getfield 43, 3) := by decide +kernel
theorem dX12_isCaught_182 : decode cX12_isCaught 182 = .ok (.iload 4, 2) := by decide +kernel
theorem dX12_isCaught_184 : decode cX12_isCaught 184 = .ok (.iaload, 1) := by decide +kernel
theorem dX12_isCaught_185 : decode cX12_isCaught 185 = .ok (.iastore, 1) := by decide +kernel
theorem dX12_isCaught_186 : decode cX12_isCaught 186 = .ok (.aload_n 0, 1) := by decide +kernel
theorem dX12_isCaught_187 : decode cX12_isCaught 187 = .ok (.dup, 1) := by decide +kernel
theorem dX12_isCaught_188 : decode cX12_isCaught 188 = .ok (.getfield 317, 3) := by decide +kernel
theorem dX12_isCaught_191 : decode cX12_isCaught 191 = .ok (.iconst 1, 1) := by decide +kernel
theorem dX12_isCaught_192 : decode cX12_isCaught 192 = .ok (.iadd, 1) := by decide +kernel
theorem dX12_isCaught_193 : decode cX12_isCaught 193 = .ok (.putfield 317, 3) := by decide +kernel
theorem dX12_isCaught_196 : decode cX12_isCaught 196 = .ok (.aload_n 0, 1) := by decide +kernel
theorem dX12_isCaught_197 : decode cX12_isCaught 197 = .ok (.iconst (-1), 1) := by decide +kernel
theorem dX12_isCaught_198 : decode cX12_isCaught 198 = .ok (.putfield 302, 3) := by decide +kernel
theorem dX12_isCaught_201 : decode cX12_isCaught 201 = .ok (.aload_n 0, 1) := by decide +kernel
theorem dX12_isCaught_202 : decode cX12_isCaught 202 = .ok (.iconst (-1), 1) := by decide +kernel
theorem dX12_isCaught_203 : decode cX12_isCaught 203 = .ok (.putfield 305, 3) := by decide +kernel
theorem dX12_isCaught_206 : decode cX12_isCaught 206 = .ok (.aload_n 0, 1) := by decide +kernel
theorem dX12_isCaught_207 : decode cX12_isCaught 207 = .ok (.iconst (-1), 1) := by decide +kernel
theorem dX12_isCaught_208 : decode cX12_isCaught 208 = .ok (.putfield 308, 3) := by decide +kernel
theorem dX12_isCaught_211 : decode cX12_isCaught 211 = .ok (.iconst 1, 1) := by decide +kernel
theorem dX12_isCaught_212 : decode cX12_isCaught 212 = .ok (.ireturn, 1) := by decide +kernel
theorem dX12_isCaught_213 : decode cX12_isCaught 213 = .ok (.iinc 4 1, 3) := by decide +kernel
theorem dX12_isCaught_216 : decode cX12_isCaught 216 = .ok (.goto (-114), 3) := by decide +kernel
theorem dX12_isCaught_219 : decode cX12_isCaught 219 = .ok (.iconst 0, 1) := by decide +kernel
theorem dX12_isCaught_220 : decode cX12_isCaught 220 = .ok (.istore 4, 2) := by decide +kernel
theorem dX12_isCaught_222 : decode cX12_isCaught 222 = .ok (.iload 4, 2) := by decide +kernel
theorem dX12_isCaught_224 : decode cX12_isCaught 224 = .ok (.aload_n 0, 1) := by decide +kernel
theorem dX12_isCaught_225 : decode cX12_isCaught 225 = .ok (.getfield 296, 3) := by decide +kernel
theorem dX12_isCaught_228 : decode cX12_isCaught 228 = .ok (.if_icmp .ge 31, 3) := by decide +kernel
theorem dX12_isCaught_231 : decode cX12_isCaught 231 = .ok (.aload_n 0, 1) := by decide +kernel
theorem dX12_isCaught_232 : decode cX12_isCaught 232 = .ok (.getfield 121, 3) := by decide +kernel
theorem dX12_isCaught_235 : decode cX12_isCaught 235 = .ok (.iload 4, 2) := by decide +kernel
theorem dX12_isCaught_237 : decode cX12_isCaught 237 = .ok (.dup2, 1) := by decide +kernel
theorem dX12_isCaught_238 : decode cX12_isCaught 238 = .ok (.iaload, 1) := by decide +kernel
theorem dX12_isCaught_239 : decode cX12_isCaught 239 = .ok (.aload_n 0, 1) := by decide +kernel
theorem dX12_isCaught_240 : decode cX12_isCaught 240 = .ok (.getfield 145, 3) := by decide +kernel
theorem dX12_isCaught_243 : decode cX12_isCaught 243 = .ok (.bipush 60, 2) := by decide +kernel
theorem dX12_isCaught_245 : decode cX12_isCaught 245 = .ok (.iload_n 2, 1) := by decide +kernel
theorem dX12_isCaught_246 : decode cX12_isCaught 246 = .ok (.imul, 1) := by decide +kernel
theorem dX12_isCaught_247 : decode cX12_isCaught 247 = .ok (.iload 4, 2) := by decide +kernel
theorem dX12_isCaught_249 : decode cX12_isCaught 249 = .ok (.iadd, 1) := by decide +kernel
theorem dX12_isCaught_250 : decode cX12_isCaught 250 = .ok (.iaload, 1) := by decide +kernel
theorem dX12_isCaught_251 : decode cX12_isCaught 251 = .ok (.isub, 1) := by decide +kernel
theorem dX12_isCaught_252 : decode cX12_isCaught 252 = .ok (.iastore, 1) := by decide +kernel
theorem dX12_isCaught_253 : decode cX12_isCaught 253 = .ok (.iinc 4 1, 3) := by decide +kernel
theorem dX12_isCaught_256 : decode cX12_isCaught 256 = .ok (.goto (-34), 3) := by decide +kernel
theorem dX12_isCaught_259 : decode cX12_isCaught 259 = .ok (.aload_n 0, 1) := by decide +kernel
theorem dX12_isCaught_260 : decode cX12_isCaught 260 = .ok (.dup, 1) := by decide +kernel
theorem dX12_isCaught_261 : decode cX12_isCaught 261 = .ok (.getfield 284, 3) := by decide +kernel
theorem dX12_isCaught_264 : decode cX12_isCaught 264 = .ok (.iconst 1, 1) := by decide +kernel
theorem dX12_isCaught_265 : decode cX12_isCaught 265 = .ok (.isub, 1) := by decide +kernel
theorem dX12_isCaught_266 : decode cX12_isCaught 266 = .ok (.putfield 284, 3) := by decide +kernel
theorem dX12_isCaught_269 : decode cX12_isCaught 269 = .ok (.goto (-194), 3) := by decide +kernel
theorem dX12_isCaught_272 : decode cX12_isCaught 272 = .ok (.iconst 0, 1) := by decide +kernel
theorem dX12_isCaught_273 : decode cX12_isCaught 273 = .ok (.ireturn, 1) := by decide +kernel
