theorem dX12_judge_0 : decode cX12_judge 0 = .ok (.aload_n 0, 1) := by decide +kernel
theorem dX12_judge_1 : decode cX12_judge 1 = .ok (.iload_n 1, 1) := by decide +kernel
theorem dX12_judge_2 : decode cX12_judge 2 = .ok (.invokevirtual 160, 3) := by decide +kernel
theorem dX12_judge_5 : decode cX12_judge 5 = .ok (.ifCond .ne 6, 3) := by decide +kernel
theorem dX12_judge_8 : decode cX12_judge 8 = .ok (.bipush (-2), 2) := by decide +kernel
theorem dX12_judge_10 : decode cX12_judge 10 = .ok (.ireturn, 1) := by decide +kernel
theorem dX12_judge_11 : decode cX12_judge 11 = .ok (.aload_n 0, 1) := by decide +kernel
theorem dX12_judge_12 : decode cX12_judge 12 = .ok (.getfield 49, 3) := by decide +kernel
theorem dX12_judge_15 : decode cX12_judge 15 = .ok (.iload_n 1, 1) := by decide +kernel
theorem dX12_judge_16 : decode cX12_judge 16 = .ok (.iconst 0, 1) := by decide +kernel
theorem dX12_judge_17 : decode cX12_judge 17 = .ok (.bastore, 1) := by decide +kernel
theorem dX12_judge_18 : decode cX12_judge 18 = .ok (.iconst 0, 1) := by decide +kernel
theorem dX12_judge_19 : decode cX12_judge 19 = .ok (.istore_n 2, 1) := by decide +kernel
theorem dX12_judge_20 : decode cX12_judge 20 = .ok (.iload_n 2, 1) := by decide +kernel
theorem dX12_judge_21 : decode cX12_judge 21 = .ok (.bipush 60, 2) := by decide +kernel
theorem dX12_judge_23 : decode cX12_judge 23 = .ok (.if_icmp .ge 28, 3) := by decide +kernel
theorem dX12_judge_26 : decode cX12_judge 26 = .ok (.aload_n 0, 1) := by decide +kernel
theorem dX12_judge_27 : decode cX12_judge 27 = .ok (.getfield 75, 3) := by decide +kernel
theorem dX12_judge_30 : decode cX12_judge 30 = .ok (.bipush 60, 2) := by decide +kernel
theorem dX12_judge_32 : decode cX12_judge 32 = .ok (.iload_n 1, 1) := by decide +kernel
theorem dX12_judge_33 : decode cX12_judge 33 = .ok (.imul, 1) := by decide +kernel
theorem dX12_judge_34 : decode cX12_judge 34 = .ok (.iload_n 2, 1) := by decide +kernel
theorem dX12_judge_35 : decode cX12_judge 35 = .ok (.iadd, 1) := by decide +kernel
theorem dX12_judge_36 : decode cX12_judge 36 = .ok (.iconst 0, 1) := by decide +kernel
theorem dX12_judge_37 : decode cX12_judge 37 = .ok (.bastore, 1) := by decide +kernel
theorem dX12_judge_38 : decode cX12_judge 38 = .ok (.aload_n 0, 1) := by decide +kernel
theorem dX12_judge_39 : decode cX12_judge 39 = .ok (.getfield 78, 3) := by decide +kernel
theorem dX12_judge_42 : decode cX12_judge 42 = .ok (.iload_n 2, 1) := by decide +kernel
theorem dX12_judge_43 : decode cX12_judge 43 = .ok (.iconst 0, 1) := by decide +kernel
theorem dX12_judge_44 : decode cX12_judge 44 = .ok (.bastore, 1) := by decide +kernel
theorem dX12_judge_45 : decode cX12_judge 45 = .ok (.iinc 2 1, 3) := by decide +kernel
theorem dX12_judge_48 : decode cX12_judge 48 = .ok (.goto (-28), 3) := by decide +kernel
theorem dX12_judge_51 : decode cX12_judge 51 = .ok (.aload_n 0, 1) := by decide +kernel
theorem dX12_judge_52 : decode cX12_judge 52 = .ok (.getfield 22, 3) := by decide +kernel
theorem dX12_judge_55 : decode cX12_judge 55 = .ok (.iload_n 1, 1) := by decide +kernel
theorem dX12_judge_56 : decode cX12_judge 56 = .ok (.iaload, 1) := by decide +kernel
theorem dX12_judge_57 : decode cX12_judge 57 = .ok (.ifCond .ne 11, 3) := by decide +kernel
theorem dX12_judge_60 : decode cX12_judge 60 = .ok (.aload_n 0, 1) := by decide +kernel
theorem dX12_judge_61 : decode cX12_judge 61 = .ok (.iload_n 1, 1) := by decide +kernel
theorem dX12_judge_62 : decode cX12_judge 62 = .ok (.iconst 0, 1) := by decide +kernel
theorem dX12_judge_63 : decode cX12_judge 63 = .ok (.iconst 1, 1) := by decide +kernel
theorem dX12_judge_64 : decode cX12_judge 64 = .ok (.invokevirtual 228, 3) := by decide +kernel
theorem dX12_judge_67 : decode cX12_judge 67 = .ok (.ireturn, 1) := by decide +kernel
theorem dX12_judge_68 : decode cX12_judge 68 = .ok (.aload_n 0, 1) := by decide +kernel
theorem dX12_judge_69 : decode cX12_judge 69 = .ok (.iconst 0, 1) := by decide +kernel
theorem dX12_judge_70 : decode cX12_judge 70 = .ok (.putfield 212, 3) := by decide +kernel
theorem dX12_judge_73 : decode cX12_judge 73 = .ok (.iconst 0, 1) := by decide +kernel
theorem dX12_judge_74 : decode cX12_judge 74 = .ok (.istore_n 2, 1) := by decide +kernel
theorem dX12_judge_75 : decode cX12_judge 75 = .ok (.iload_n 2, 1) := by decide +kernel
theorem dX12_judge_76 : decode cX12_judge 76 = .ok (.bipush 16, 2) := by decide +kernel
theorem dX12_judge_78 : decode cX12_judge 78 = .ok (.if_icmp .ge 16, 3) := by decide +kernel
theorem dX12_judge_81 : decode cX12_judge 81 = .ok (.aload_n 0, 1) := by decide +kernel
theorem dX12_judge_82 : decode cX12_judge 82 = .ok (.getfield 93, 3) := by decide +kernel
theorem dX12_judge_85 : decode cX12_judge 85 = .ok (.iload_n 2, 1) := by decide +kernel
theorem dX12_judge_86 : decode cX12_judge 86 = .ok (.iconst 5, 1) := by decide +kernel
theorem dX12_judge_87 : decode cX12_judge 87 = .ok (.iastore, 1) := by decide +kernel
theorem dX12_judge_88 : decode cX12_judge 88 = .ok (.iinc 2 1, 3) := by decide +kernel
theorem dX12_judge_91 : decode cX12_judge 91 = .ok (.goto (-16), 3) := by decide +kernel
theorem dX12_judge_94 : decode cX12_judge 94 = .ok (.iconst 0, 1) := by decide +kernel
theorem dX12_judge_95 : decode cX12_judge 95 = .ok (.istore_n 2, 1) := by decide +kernel
theorem dX12_judge_96 : decode cX12_judge 96 = .ok (.iconst 0, 1) := by decide +kernel
theorem dX12_judge_97 : decode cX12_judge 97 = .ok (.istore_n 3, 1) := by decide +kernel
theorem dX12_judge_98 : decode cX12_judge 98 = .ok (.iload_n 3, 1) := by decide +kernel
theorem dX12_judge_99 : decode cX12_judge 99 = .ok (.aload_n 0, 1) := by decide +kernel
theorem dX12_judge_100 : decode cX12_judge 100 = .ok (.getfield 13, 3) := by decide +kernel
theorem dX12_judge_103 : decode cX12_judge 103 = .ok (.iload_n 1, 1) := by decide +kernel
theorem dX12_judge_104 : decode cX12_judge 104 = .ok (.iaload, 1) := by decide +kernel
theorem dX12_judge_105 : decode cX12_judge 105 = .ok (.if_icmp .ge 42, 3) := by decide +kernel
theorem dX12_judge_108 : decode cX12_judge 108 = .ok (.aload_n 0, 1) := by decide +kernel
theorem dX12_judge_109 : decode cX12_judge 109 = .ok (.iload_n 2, 1) := by decide +kernel
theorem dX12_judge_110 : decode cX12_judge 110 = .ok (.aload_n 0, 1) := by decide +kernel
theorem dX12_judge_111 : decode cX12_judge 111 = .ok (.getfield 19, 3) := by decide +kernel
theorem dX12_judge_114 : decode cX12_judge 114 = .ok (.bipush 8, 2) := by decide +kernel
theorem dX12_judge_116 : decode cX12_judge 116 = .ok (.iload_n 1, 1) := by decide +kernel
theorem dX12_judge_117 : decode cX12_judge 117 = .ok (.imul, 1) := by decide +kernel
theorem dX12_judge_118 : decode cX12_judge 118 = .ok (.iload_n 3, 1) := by decide +kernel
theorem dX12_judge_119 : decode cX12_judge 119 = .ok (.iadd, 1) := by decide +kernel
theorem dX12_judge_120 : decode cX12_judge 120 = .ok (.iaload, 1) := by decide +kernel
theorem dX12_judge_121 : decode cX12_judge 121 = .ok (.invokevirtual 232, 3) := by decide +kernel
theorem dX12_judge_124 : decode cX12_judge 124 = .ok (.iload_n 2, 1) := by decide +kernel
theorem dX12_judge_125 : decode cX12_judge 125 = .ok (.aload_n 0, 1) := by decide +kernel
theorem dX12_judge_126 : decode cX12_judge 126 = .ok (.getfield 19, 3) := by decide +kernel
theorem dX12_judge_129 : decode cX12_judge 129 = .ok (.bipush 8, 2) := by decide +kernel
theorem dX12_judge_131 : decode cX12_judge 131 = .ok (.iload_n 1, 1) := by decide +kernel
theorem dX12_judge_132 : decode cX12_judge 132 = .ok (.imul, 1) := by decide +kernel
theorem dX12_judge_133 : decode cX12_judge 133 = .ok (.iload_n 3, 1) := by decide +kernel
theorem dX12_judge_134 : decode cX12_judge 134 = .ok (.iadd, 1) := by decide +kernel
theorem dX12_judge_135 : decode cX12_judge 135 = .ok (.iaload, 1) := by decide +kernel
theorem dX12_judge_136 : decode cX12_judge 136 = .ok (.invokestatic 166, 3) := by decide +kernel
theorem dX12_judge_139 : decode cX12_judge 139 = .ok (.iadd, 1) := by decide +kernel
theorem dX12_judge_140 : decode cX12_judge 140 = .ok (.istore_n 2, 1) := by decide +kernel
theorem dX12_judge_141 : decode cX12_judge 141 = .ok (.iinc 3 1, 3) := by decide +kernel
theorem dX12_judge_144 : decode cX12_judge 144 = .ok (.goto (-46), 3) := by decide +kernel
theorem dX12_judge_147 : decode cX12_judge 147 = .ok (.aload_n 0, 1) := by decide +kernel
theorem dX12_judge_148 : decode cX12_judge 148 = .ok (.iload_n 1, 1) := by decide +kernel
theorem dX12_judge_149 : decode cX12_judge 149 = .ok (.iconst 0, 1) := by decide +kernel
theorem dX12_judge_150 : decode cX12_judge 150 = .ok (.invokevirtual 236, 3) := by decide +kernel
theorem dX12_judge_153 : decode cX12_judge 153 = .ok (.istore_n 3, 1) := by decide +kernel
theorem dX12_judge_154 : decode cX12_judge 154 = .ok (.iload_n 3, 1) := by decide +kernel
theorem dX12_judge_155 : decode cX12_judge 155 = .ok (.aload_n 0, 1) := by decide +kernel
theorem dX12_judge_156 : decode cX12_judge 156 = .ok (.getfield 22, 3) := by decide +kernel
theorem dX12_judge_159 : decode cX12_judge 159 = .ok (.iload_n 1, 1) := by decide +kernel
theorem dX12_judge_160 : decode cX12_judge 160 = .ok (.iaload, 1) := by decide +kernel
theorem dX12_judge_161 : decode cX12_judge 161 = .ok (.if_icmp .ge 46, 3) := by decide +kernel
theorem dX12_judge_164 : decode cX12_judge 164 = .ok (.aload_n 0, 1) := by decide +kernel
theorem dX12_judge_165 : decode cX12_judge 165 = .ok (.getfield 78, 3) := by decide +kernel
theorem dX12_judge_168 : decode cX12_judge 168 = .ok (.iload_n 3, 1) := by decide +kernel
theorem dX12_judge_169 : decode cX12_judge 169 = .ok (.baload, 1) := by decide +kernel
theorem dX12_judge_170 : decode cX12_judge 170 = .ok (.ifCond .eq 31, 3) := by decide +kernel
theorem dX12_judge_173 : decode cX12_judge 173 = .ok (.aload_n 0, 1) := by decide +kernel
theorem dX12_judge_174 : decode cX12_judge 174 = .ok (.getfield 78, 3) := by decide +kernel
theorem dX12_judge_177 : decode cX12_judge 177 = .ok (.iload_n 3, 1) := by decide +kernel
theorem dX12_judge_178 : decode cX12_judge 178 = .ok (.iconst 0, 1) := by decide +kernel
theorem dX12_judge_179 : decode cX12_judge 179 = .ok (.bastore, 1) := by decide +kernel
theorem dX12_judge_180 : decode cX12_judge 180 = .ok (.aload_n 0, 1) := by decide +kernel
theorem dX12_judge_181 : decode cX12_judge 181 = .ok (.iload_n 1, 1) := by decide +kernel
theorem dX12_judge_182 : decode cX12_judge 182 = .ok (.iload_n 3, 1) := by decide +kernel
theorem dX12_judge_183 : decode cX12_judge 183 = .ok (.invokevirtual 240, 3) := by decide +kernel
theorem dX12_judge_186 : decode cX12_judge 186 = .ok (.istore 4, 2) := by decide +kernel
theorem dX12_judge_188 : decode cX12_judge 188 = .ok (.iload 4, 2) := by decide +kernel
theorem dX12_judge_190 : decode cX12_judge 190 = .ok (.ifCond .eq 6, 3) := by decide +kernel
theorem dX12_judge_193 : decode cX12_judge 193 = .ok (.iload 4, 2) := by decide +kernel
theorem dX12_judge_195 : decode cX12_judge 195 = .ok (.ireturn, 1) := by decide +kernel
theorem dX12_judge_196 : decode cX12_judge 196 = .ok (.iconst 0, 1) := by decide +kernel
theorem dX12_judge_197 : decode cX12_judge 197 = .ok (.istore_n 3, 1) := by decide +kernel
theorem dX12_judge_198 : decode cX12_judge 198 = .ok (.goto (-44), 3) := by decide +kernel
theorem dX12_judge_201 : decode cX12_judge 201 = .ok (.iinc 3 1, 3) := by decide +kernel
theorem dX12_judge_204 : decode cX12_judge 204 = .ok (.goto (-50), 3) := by decide +kernel
theorem dX12_judge_207 : decode cX12_judge 207 = .ok (.aload_n 0, 1) := by decide +kernel
theorem dX12_judge_208 : decode cX12_judge 208 = .ok (.getfield 49, 3) := by decide +kernel
theorem dX12_judge_211 : decode cX12_judge 211 = .ok (.iload_n 1, 1) := by decide +kernel
theorem dX12_judge_212 : decode cX12_judge 212 = .ok (.iconst 1, 1) := by decide +kernel
theorem dX12_judge_213 : decode cX12_judge 213 = .ok (.bastore, 1) := by decide +kernel
theorem dX12_judge_214 : decode cX12_judge 214 = .ok (.iconst 0, 1) := by decide +kernel
theorem dX12_judge_215 : decode cX12_judge 215 = .ok (.ireturn, 1) := by decide +kernel
theorem dX12_method_0 : decode cX12_method 0 = .ok (.iload_n 1, 1) := by decide +kernel
theorem dX12_method_1 : decode cX12_method 1 = .ok (.i2l, 1) := by decide +kernel
theorem dX12_method_2 : decode cX12_method 2 = .ok (.lconst 0, 1) := by decide +kernel
theorem dX12_method_3 : decode cX12_method 3 = .ok (.ldc2_w 155, 3) := by decide +kernel
theorem dX12_method_6 : decode cX12_method 6 = .ok (.invokestatic 151, 3) := by decide +kernel
theorem dX12_method_9 : decode cX12_method 9 = .ok (.ifCond .ne 6, 3) := by decide +kernel
theorem dX12_method_12 : decode cX12_method 12 = .ok (.bipush (-2), 2) := by decide +kernel
theorem dX12_method_14 : decode cX12_method 14 = .ok (.ireturn, 1) := by decide +kernel
theorem dX12_method_15 : decode cX12_method 15 = .ok (.aload_n 0, 1) := by decide +kernel
theorem dX12_method_16 : decode cX12_method 16 = .ok (.getfield 148, 3) := by decide +kernel
theorem dX12_method_19 : decode cX12_method 19 = .ok (.bipush 8, 2) := by decide +kernel
theorem dX12_method_21 : decode cX12_method 21 = .ok (.if_icmp .ne 6, 3) := by decide +kernel
theorem dX12_method_24 : decode cX12_method 24 = .ok (.bipush (-4), 2) := by decide +kernel
theorem dX12_method_26 : decode cX12_method 26 = .ok (.ireturn, 1) := by decide +kernel
theorem dX12_method_27 : decode cX12_method 27 = .ok (.aload_n 0, 1) := by decide +kernel
theorem dX12_method_28 : decode cX12_method 28 = .ok (.invokevirtual 157, 3) := by decide +kernel
theorem dX12_method_31 : decode cX12_method 31 = .ok (.aload_n 0, 1) := by decide +kernel
theorem dX12_method_32 : decode cX12_method 32 = .ok (.getfield 7, 3) := by decide +kernel
theorem dX12_method_35 : decode cX12_method 35 = .ok (.aload_n 0, 1) := by decide +kernel
theorem dX12_method_36 : decode cX12_method 36 = .ok (.getfield 148, 3) := by decide +kernel
theorem dX12_method_39 : decode cX12_method 39 = .ok (.iload_n 1, 1) := by decide +kernel
theorem dX12_method_40 : decode cX12_method 40 = .ok (.iastore, 1) := by decide +kernel
theorem dX12_method_41 : decode cX12_method 41 = .ok (.aload_n 0, 1) := by decide +kernel
theorem dX12_method_42 : decode cX12_method 42 = .ok (.dup, 1) := by decide +kernel
theorem dX12_method_43 : decode cX12_method 43 = .ok (.getfield 148, 3) := by decide +kernel
theorem dX12_method_46 : decode cX12_method 46 = .ok (.iconst 1, 1) := by decide +kernel
theorem dX12_method_47 : decode cX12_method 47 = .ok (.iadd, 1) := by decide +kernel
theorem dX12_method_48 : decode cX12_method 48 = .ok (.putfield 148, 3) := by decide +kernel
theorem dX12_method_51 : decode cX12_method 51 = .ok (.aload_n 0, 1) := by decide +kernel
theorem dX12_method_52 : decode cX12_method 52 = .ok (.getfield 148, 3) := by decide +kernel
theorem dX12_method_55 : decode cX12_method 55 = .ok (.iconst 1, 1) := by decide +kernel
theorem dX12_method_56 : decode cX12_method 56 = .ok (.isub, 1) := by decide +kernel
theorem dX12_method_57 : decode cX12_method 57 = .ok (.ireturn, 1) := by decide +kernel
theorem dX12_op_0 : decode cX12_op 0 = .ok (.aload_n 0, 1) := by decide +kernel
theorem dX12_op_1 : decode cX12_op 1 = .ok (.iload_n 1, 1) := by decide +kernel
theorem dX12_op_2 : decode cX12_op 2 = .ok (.invokevirtual 160, 3) := by decide +kernel
theorem dX12_op_5 : decode cX12_op 5 = .ok (.ifCond .eq 15, 3) := by decide +kernel
theorem dX12_op_8 : decode cX12_op 8 = .ok (.iload_n 2, 1) := by decide +kernel
theorem dX12_op_9 : decode cX12_op 9 = .ok (.i2l, 1) := by decide +kernel
theorem dX12_op_10 : decode cX12_op 10 = .ok (.lconst 0, 1) := by decide +kernel
theorem dX12_op_11 : decode cX12_op 11 = .ok (.ldc2_w 170, 3) := by decide +kernel
theorem dX12_op_14 : decode cX12_op 14 = .ok (.invokestatic 151, 3) := by decide +kernel
theorem dX12_op_17 : decode cX12_op 17 = .ok (.ifCond .ne 6, 3) := by decide +kernel
theorem dX12_op_20 : decode cX12_op 20 = .ok (.bipush (-2), 2) := by decide +kernel
theorem dX12_op_22 : decode cX12_op 22 = .ok (.ireturn, 1) := by decide +kernel
theorem dX12_op_23 : decode cX12_op 23 = .ok (.aload_n 0, 1) := by decide +kernel
theorem dX12_op_24 : decode cX12_op 24 = .ok (.getfield 22, 3) := by decide +kernel
theorem dX12_op_27 : decode cX12_op 27 = .ok (.iload_n 1, 1) := by decide +kernel
theorem dX12_op_28 : decode cX12_op 28 = .ok (.iaload, 1) := by decide +kernel
theorem dX12_op_29 : decode cX12_op 29 = .ok (.bipush 60, 2) := by decide +kernel
theorem dX12_op_31 : decode cX12_op 31 = .ok (.if_icmp .ne 6, 3) := by decide +kernel
theorem dX12_op_34 : decode cX12_op 34 = .ok (.bipush (-4), 2) := by decide +kernel
theorem dX12_op_36 : decode cX12_op 36 = .ok (.ireturn, 1) := by decide +kernel
theorem dX12_op_37 : decode cX12_op 37 = .ok (.aload_n 0, 1) := by decide +kernel
theorem dX12_op_38 : decode cX12_op 38 = .ok (.getfield 22, 3) := by decide +kernel
theorem dX12_op_41 : decode cX12_op 41 = .ok (.iload_n 1, 1) := by decide +kernel
theorem dX12_op_42 : decode cX12_op 42 = .ok (.dup2, 1) := by decide +kernel
theorem dX12_op_43 : decode cX12_op 43 = .ok (.iaload, 1) := by decide +kernel
theorem dX12_op_44 : decode cX12_op 44 = .ok (.iconst 1, 1) := by decide +kernel
theorem dX12_op_45 : decode cX12_op 45 = .ok (.iadd, 1) := by decide +kernel
theorem dX12_op_46 : decode cX12_op 46 = .ok (.iastore, 1) := by decide +kernel
theorem dX12_op_47 : decode cX12_op 47 = .ok (.aload_n 0, 1) := by decide +kernel
theorem dX12_op_48 : decode cX12_op 48 = .ok (.iload_n 1, 1) := by decide +kernel
theorem dX12_op_49 : decode cX12_op 49 = .ok (.aload_n 0, 1) := by decide +kernel
theorem dX12_op_50 : decode cX12_op 50 = .ok (.getfield 22, 3) := by decide +kernel
theorem dX12_op_53 : decode cX12_op 53 = .ok (.iload_n 1, 1) := by decide +kernel
theorem dX12_op_54 : decode cX12_op 54 = .ok (.iaload, 1) := by decide +kernel
theorem dX12_op_55 : decode cX12_op 55 = .ok (.iconst 1, 1) := by decide +kernel
theorem dX12_op_56 : decode cX12_op 56 = .ok (.isub, 1) := by decide +kernel
theorem dX12_op_57 : decode cX12_op 57 = .ok (.iload_n 2, 1) := by decide +kernel
theorem dX12_op_58 : decode cX12_op 58 = .ok (.iload_n 3, 1) := by decide +kernel
theorem dX12_op_59 : decode cX12_op 59 = .ok (.iload 4, 2) := by decide +kernel
theorem dX12_op_61 : decode cX12_op 61 = .ok (.invokevirtual 172, 3) := by decide +kernel
theorem dX12_op_64 : decode cX12_op 64 = .ok (.ireturn, 1) := by decide +kernel
theorem dX12_shape_0 : decode cX12_shape 0 = .ok (.aload_n 0, 1) := by decide +kernel
theorem dX12_shape_1 : decode cX12_shape 1 = .ok (.iload_n 1, 1) := by decide +kernel
theorem dX12_shape_2 : decode cX12_shape 2 = .ok (.invokevirtual 160, 3) := by decide +kernel
theorem dX12_shape_5 : decode cX12_shape 5 = .ok (.ifCond .eq 35, 3) := by decide +kernel
theorem dX12_shape_8 : decode cX12_shape 8 = .ok (.iload_n 2, 1) := by decide +kernel
theorem dX12_shape_9 : decode cX12_shape 9 = .ok (.i2l, 1) := by decide +kernel
theorem dX12_shape_10 : decode cX12_shape 10 = .ok (.lconst 0, 1) := by decide +kernel
theorem dX12_shape_11 : decode cX12_shape 11 = .ok (.aload_n 0, 1) := by decide +kernel
theorem dX12_shape_12 : decode cX12_shape 12 = .ok (.getfield 22, 3) := by decide +kernel
theorem dX12_shape_15 : decode cX12_shape 15 = .ok (.iload_n 1, 1) := by decide +kernel
theorem dX12_shape_16 : decode cX12_shape 16 = .ok (.iaload, 1) := by decide +kernel
theorem dX12_shape_17 : decode cX12_shape 17 = .ok (.iconst 1, 1) := by decide +kernel
theorem dX12_shape_18 : decode cX12_shape 18 = .ok (.isub, 1) := by decide +kernel
theorem dX12_shape_19 : decode cX12_shape 19 = .ok (.i2l, 1) := by decide +kernel
theorem dX12_shape_20 : decode cX12_shape 20 = .ok (.invokestatic 151, 3) := by decide +kernel
theorem dX12_shape_23 : decode cX12_shape 23 = .ok (.ifCond .eq 17, 3) := by decide +kernel
theorem dX12_shape_26 : decode cX12_shape 26 = .ok (.iload_n 3, 1) := by decide +kernel
theorem dX12_shape_27 : decode cX12_shape 27 = .ok (.i2l, 1) := by decide +kernel
theorem dX12_shape_28 : decode cX12_shape 28 = .ok (.ldc2_w 278, 3) := by decide +kernel
theorem dX12_shape_31 : decode cX12_shape 31 = .ok (.ldc2_w 197, 3) := by decide +kernel
theorem dX12_shape_34 : decode cX12_shape 34 = .ok (.invokestatic 151, 3) := by decide +kernel
theorem dX12_shape_37 : decode cX12_shape 37 = .ok (.ifCond .ne 6, 3) := by decide +kernel
theorem dX12_shape_40 : decode cX12_shape 40 = .ok (.bipush (-2), 2) := by decide +kernel
theorem dX12_shape_42 : decode cX12_shape 42 = .ok (.ireturn, 1) := by decide +kernel
theorem dX12_shape_43 : decode cX12_shape 43 = .ok (.bipush 60, 2) := by decide +kernel
theorem dX12_shape_45 : decode cX12_shape 45 = .ok (.iload_n 1, 1) := by decide +kernel
theorem dX12_shape_46 : decode cX12_shape 46 = .ok (.imul, 1) := by decide +kernel
theorem dX12_shape_47 : decode cX12_shape 47 = .ok (.iload_n 2, 1) := by decide +kernel
theorem dX12_shape_48 : decode cX12_shape 48 = .ok (.iadd, 1) := by decide +kernel
theorem dX12_shape_49 : decode cX12_shape 49 = .ok (.istore 4, 2) := by decide +kernel
theorem dX12_shape_51 : decode cX12_shape 51 = .ok (.aload_n 0, 1) := by decide +kernel
theorem dX12_shape_52 : decode cX12_shape 52 = .ok (.getfield 75, 3) := by decide +kernel
theorem dX12_shape_55 : decode cX12_shape 55 = .ok (.iload 4, 2) := by decide +kernel
theorem dX12_shape_57 : decode cX12_shape 57 = .ok (.baload, 1) := by decide +kernel
theorem dX12_shape_58 : decode cX12_shape 58 = .ok (.ifCond .ne 5, 3) := by decide +kernel
theorem dX12_shape_61 : decode cX12_shape 61 = .ok (.iconst (-1), 1) := by decide +kernel
theorem dX12_shape_62 : decode cX12_shape 62 = .ok (.ireturn, 1) := by decide +kernel
theorem dX12_shape_63 : decode cX12_shape 63 = .ok (.iload_n 3, 1) := by decide +kernel
theorem dX12_shape_64 : decode cX12_shape 64 = .ok (.iconst (-1), 1) := by decide +kernel
theorem dX12_shape_65 : decode cX12_shape 65 = .ok (.if_icmp .ge 18, 3) := by decide +kernel
theorem dX12_shape_68 : decode cX12_shape 68 = .ok (.aload_n 0, 1) := by decide +kernel
theorem dX12_shape_69 : decode cX12_shape 69 = .ok (.getfield 87, 3) := by decide +kernel
theorem dX12_shape_72 : decode cX12_shape 72 = .ok (.bipush 16, 2) := by decide +kernel
theorem dX12_shape_74 : decode cX12_shape 74 = .ok (.iload 4, 2) := by decide +kernel
theorem dX12_shape_76 : decode cX12_shape 76 = .ok (.imul, 1) := by decide +kernel
theorem dX12_shape_77 : decode cX12_shape 77 = .ok (.iconst 2, 1) := by decide +kernel
theorem dX12_shape_78 : decode cX12_shape 78 = .ok (.isub, 1) := by decide +kernel
theorem dX12_shape_79 : decode cX12_shape 79 = .ok (.iload_n 3, 1) := by decide +kernel
theorem dX12_shape_80 : decode cX12_shape 80 = .ok (.isub, 1) := by decide +kernel
theorem dX12_shape_81 : decode cX12_shape 81 = .ok (.iaload, 1) := by decide +kernel
theorem dX12_shape_82 : decode cX12_shape 82 = .ok (.ireturn, 1) := by decide +kernel
theorem dX12_shape_83 : decode cX12_shape 83 = .ok (.iload_n 3, 1) := by decide +kernel
theorem dX12_shape_84 : decode cX12_shape 84 = .ok (.iconst (-1), 1) := by decide +kernel
theorem dX12_shape_85 : decode cX12_shape 85 = .ok (.if_icmp .ne 13, 3) := by decide +kernel
theorem dX12_shape_88 : decode cX12_shape 88 = .ok (.aload_n 0, 1) := by decide +kernel
theorem dX12_shape_89 : decode cX12_shape 89 = .ok (.getfield 81, 3) := by decide +kernel
theorem dX12_shape_92 : decode cX12_shape 92 = .ok (.iload 4, 2) := by decide +kernel
theorem dX12_shape_94 : decode cX12_shape 94 = .ok (.iaload, 1) := by decide +kernel
theorem dX12_shape_95 : decode cX12_shape 95 = .ok (.goto 30, 3) := by decide +kernel
theorem dX12_shape_98 : decode cX12_shape 98 = .ok (.iload_n 3, 1) := by decide +kernel
theorem dX12_shape_99 : decode cX12_shape 99 = .ok (.aload_n 0, 1) := by decide +kernel
theorem dX12_shape_100 : decode cX12_shape 100 = .ok (.getfield 81, 3) := by decide +kernel
theorem dX12_shape_103 : decode cX12_shape 103 = .ok (.iload 4, 2) := by decide +kernel
theorem dX12_shape_105 : decode cX12_shape 105 = .ok (.iaload, 1) := by decide +kernel
theorem dX12_shape_106 : decode cX12_shape 106 = .ok (.if_icmp .ge 18, 3) := by decide +kernel
theorem dX12_shape_109 : decode cX12_shape 109 = .ok (.aload_n 0, 1) := by decide +kernel
theorem dX12_shape_110 : decode cX12_shape 110 = .ok (.getfield 84, 3) := by decide +kernel
theorem dX12_shape_113 : decode cX12_shape 113 = .ok (.bipush 12, 2) := by decide +kernel
theorem dX12_shape_115 : decode cX12_shape 115 = .ok (.iload 4, 2) := by decide +kernel
theorem dX12_shape_117 : decode cX12_shape 117 = .ok (.imul, 1) := by decide +kernel
theorem dX12_shape_118 : decode cX12_shape 118 = .ok (.iload_n 3, 1) := by decide +kernel
theorem dX12_shape_119 : decode cX12_shape 119 = .ok (.iadd, 1) := by decide +kernel
theorem dX12_shape_120 : decode cX12_shape 120 = .ok (.iaload, 1) := by decide +kernel
theorem dX12_shape_121 : decode cX12_shape 121 = .ok (.goto 4, 3) := by decide +kernel
theorem dX12_shape_124 : decode cX12_shape 124 = .ok (.iconst (-1), 1) := by decide +kernel
theorem dX12_shape_125 : decode cX12_shape 125 = .ok (.ireturn, 1) := by decide +kernel
theorem dX12_table_0 : decode cX12_table 0 = .ok (.iload_n 3, 1) := by decide +kernel
theorem dX12_table_1 : decode cX12_table 1 = .ok (.i2l, 1) := by decide +kernel
theorem dX12_table_2 : decode cX12_table 2 = .ok (.lconst 0, 1) := by decide +kernel
theorem dX12_table_3 : decode cX12_table 3 = .ok (.ldc2_w 178, 3) := by decide +kernel
theorem dX12_table_6 : decode cX12_table 6 = .ok (.invokestatic 151, 3) := by decide +kernel
theorem dX12_table_9 : decode cX12_table 9 = .ok (.ifCond .ne 6, 3) := by decide +kernel
theorem dX12_table_12 : decode cX12_table 12 = .ok (.bipush (-2), 2) := by decide +kernel
theorem dX12_table_14 : decode cX12_table 14 = .ok (.ireturn, 1) := by decide +kernel
theorem dX12_table_15 : decode cX12_table 15 = .ok (.aload_n 0, 1) := by decide +kernel
theorem dX12_table_16 : decode cX12_table 16 = .ok (.getfield 187, 3) := by decide +kernel
theorem dX12_table_19 : decode cX12_table 19 = .ok (.bipush 8, 2) := by decide +kernel
theorem dX12_table_21 : decode cX12_table 21 = .ok (.if_icmp .ne 6, 3) := by decide +kernel
theorem dX12_table_24 : decode cX12_table 24 = .ok (.bipush (-4), 2) := by decide +kernel
theorem dX12_table_26 : decode cX12_table 26 = .ok (.ireturn, 1) := by decide +kernel
theorem dX12_table_27 : decode cX12_table 27 = .ok (.aload_n 0, 1) := by decide +kernel
theorem dX12_table_28 : decode cX12_table 28 = .ok (.invokevirtual 157, 3) := by decide +kernel
theorem dX12_table_31 : decode cX12_table 31 = .ok (.aload_n 0, 1) := by decide +kernel
theorem dX12_table_32 : decode cX12_table 32 = .ok (.getfield 57, 3) := by decide +kernel
theorem dX12_table_35 : decode cX12_table 35 = .ok (.aload_n 0, 1) := by decide +kernel
theorem dX12_table_36 : decode cX12_table 36 = .ok (.getfield 187, 3) := by decide +kernel
theorem dX12_table_39 : decode cX12_table 39 = .ok (.iload_n 1, 1) := by decide +kernel
theorem dX12_table_40 : decode cX12_table 40 = .ok (.bastore, 1) := by decide +kernel
theorem dX12_table_41 : decode cX12_table 41 = .ok (.aload_n 0, 1) := by decide +kernel
theorem dX12_table_42 : decode cX12_table 42 = .ok (.getfield 60, 3) := by decide +kernel
theorem dX12_table_45 : decode cX12_table 45 = .ok (.aload_n 0, 1) := by decide +kernel
theorem dX12_table_46 : decode cX12_table 46 = .ok (.getfield 187, 3) := by decide +kernel
theorem dX12_table_49 : decode cX12_table 49 = .ok (.iload_n 2, 1) := by decide +kernel
theorem dX12_table_50 : decode cX12_table 50 = .ok (.iastore, 1) := by decide +kernel
theorem dX12_table_51 : decode cX12_table 51 = .ok (.aload_n 0, 1) := by decide +kernel
theorem dX12_table_52 : decode cX12_table 52 = .ok (.getfield 63, 3) := by decide +kernel
theorem dX12_table_55 : decode cX12_table 55 = .ok (.aload_n 0, 1) := by decide +kernel
theorem dX12_table_56 : decode cX12_table 56 = .ok (.getfield 187, 3) := by decide +kernel
theorem dX12_table_59 : decode cX12_table 59 = .ok (.iload_n 3, 1) := by decide +kernel
theorem dX12_table_60 : decode cX12_table 60 = .ok (.iastore, 1) := by decide +kernel
theorem dX12_table_61 : decode cX12_table 61 = .ok (.aload_n 0, 1) := by decide +kernel
theorem dX12_table_62 : decode cX12_table 62 = .ok (.dup, 1) := by decide +kernel
theorem dX12_table_63 : decode cX12_table 63 = .ok (.getfield 187, 3) := by decide +kernel
theorem dX12_table_66 : decode cX12_table 66 = .ok (.iconst 1, 1) := by decide +kernel
theorem dX12_table_67 : decode cX12_table 67 = .ok (.iadd, 1) := by decide +kernel
theorem dX12_table_68 : decode cX12_table 68 = .ok (.putfield 187, 3) := by decide +kernel
theorem dX12_table_71 : decode cX12_table 71 = .ok (.aload_n 0, 1) := by decide +kernel
theorem dX12_table_72 : decode cX12_table 72 = .ok (.getfield 187, 3) := by decide +kernel
theorem dX12_table_75 : decode cX12_table 75 = .ok (.iconst 1, 1) := by decide +kernel
theorem dX12_table_76 : decode cX12_table 76 = .ok (.isub, 1) := by decide +kernel
theorem dX12_table_77 : decode cX12_table 77 = .ok (.ireturn, 1) := by decide +kernel
theorem dX12_thing_0 : decode cX12_thing 0 = .ok (.iload_n 1, 1) := by decide +kernel
theorem dX12_thing_1 : decode cX12_thing 1 = .ok (.i2l, 1) := by decide +kernel
theorem dX12_thing_2 : decode cX12_thing 2 = .ok (.lconst 0, 1) := by decide +kernel
theorem dX12_thing_3 : decode cX12_thing 3 = .ok (.aload_n 0, 1) := by decide +kernel
theorem dX12_thing_4 : decode cX12_thing 4 = .ok (.getfield 296, 3) := by decide +kernel
theorem dX12_thing_7 : decode cX12_thing 7 = .ok (.iconst 1, 1) := by decide +kernel
theorem dX12_thing_8 : decode cX12_thing 8 = .ok (.isub, 1) := by decide +kernel
theorem dX12_thing_9 : decode cX12_thing 9 = .ok (.i2l, 1) := by decide +kernel
theorem dX12_thing_10 : decode cX12_thing 10 = .ok (.invokestatic 151, 3) := by decide +kernel
theorem dX12_thing_13 : decode cX12_thing 13 = .ok (.ifCond .eq 15, 3) := by decide +kernel
theorem dX12_thing_16 : decode cX12_thing 16 = .ok (.iload_n 2, 1) := by decide +kernel
theorem dX12_thing_17 : decode cX12_thing 17 = .ok (.i2l, 1) := by decide +kernel
theorem dX12_thing_18 : decode cX12_thing 18 = .ok (.lconst 0, 1) := by decide +kernel
theorem dX12_thing_19 : decode cX12_thing 19 = .ok (.ldc2_w 423, 3) := by decide +kernel
theorem dX12_thing_22 : decode cX12_thing 22 = .ok (.invokestatic 151, 3) := by decide +kernel
theorem dX12_thing_25 : decode cX12_thing 25 = .ok (.ifCond .ne 6, 3) := by decide +kernel
theorem dX12_thing_28 : decode cX12_thing 28 = .ok (.bipush (-2), 2) := by decide +kernel
theorem dX12_thing_30 : decode cX12_thing 30 = .ok (.ireturn, 1) := by decide +kernel
theorem dX12_thing_31 : decode cX12_thing 31 = .ok (.iload_n 2, 1) := by decide +kernel
theorem dX12_thing_32 : decode cX12_thing 32 = .ok (.ifCond .ne 12, 3) := by decide +kernel
theorem dX12_thing_35 : decode cX12_thing 35 = .ok (.aload_n 0, 1) := by decide +kernel
theorem dX12_thing_36 : decode cX12_thing 36 = .ok (.getfield 115, 3) := by decide +kernel
theorem dX12_thing_39 : decode cX12_thing 39 = .ok (.iload_n 1, 1) := by decide +kernel
theorem dX12_thing_40 : decode cX12_thing 40 = .ok (.iaload, 1) := by decide +kernel
theorem dX12_thing_41 : decode cX12_thing 41 = .ok (.goto 23, 3) := by decide +kernel
theorem dX12_thing_44 : decode cX12_thing 44 = .ok (.iload_n 2, 1) := by decide +kernel
theorem dX12_thing_45 : decode cX12_thing 45 = .ok (.iconst 1, 1) := by decide +kernel
theorem dX12_thing_46 : decode cX12_thing 46 = .ok (.if_icmp .ne 12, 3) := by decide +kernel
theorem dX12_thing_49 : decode cX12_thing 49 = .ok (.aload_n 0, 1) := by decide +kernel
theorem dX12_thing_50 : decode cX12_thing 50 = .ok (.getfield 118, 3) := by decide +kernel
theorem dX12_thing_53 : decode cX12_thing 53 = .ok (.iload_n 1, 1) := by decide +kernel
theorem dX12_thing_54 : decode cX12_thing 54 = .ok (.iaload, 1) := by decide +kernel
theorem dX12_thing_55 : decode cX12_thing 55 = .ok (.goto 9, 3) := by decide +kernel
theorem dX12_thing_58 : decode cX12_thing 58 = .ok (.aload_n 0, 1) := by decide +kernel
theorem dX12_thing_59 : decode cX12_thing 59 = .ok (.getfield 121, 3) := by decide +kernel
theorem dX12_thing_62 : decode cX12_thing 62 = .ok (.iload_n 1, 1) := by decide +kernel
theorem dX12_thing_63 : decode cX12_thing 63 = .ok (.iaload, 1) := by decide +kernel
theorem dX12_thing_64 : decode cX12_thing 64 = .ok (.ireturn, 1) := by decide +kernel
theorem dX12_told_0 : decode cX12_told 0 = .ok (.iload_n 1, 1) := by decide +kernel
theorem dX12_told_1 : decode cX12_told 1 = .ok (.i2l, 1) := by decide +kernel
theorem dX12_told_2 : decode cX12_told 2 = .ok (.lconst 0, 1) := by decide +kernel
theorem dX12_told_3 : decode cX12_told 3 = .ok (.ldc2_w 193, 3) := by decide +kernel
theorem dX12_told_6 : decode cX12_told 6 = .ok (.invokestatic 151, 3) := by decide +kernel
theorem dX12_told_9 : decode cX12_told 9 = .ok (.ifCond .ne 6, 3) := by decide +kernel
theorem dX12_told_12 : decode cX12_told 12 = .ok (.bipush (-2), 2) := by decide +kernel
theorem dX12_told_14 : decode cX12_told 14 = .ok (.ireturn, 1) := by decide +kernel
theorem dX12_told_15 : decode cX12_told 15 = .ok (.aload_n 0, 1) := by decide +kernel
theorem dX12_told_16 : decode cX12_told 16 = .ok (.getfield 292, 3) := by decide +kernel
theorem dX12_told_19 : decode cX12_told 19 = .ok (.ifCond .ne 6, 3) := by decide +kernel
theorem dX12_told_22 : decode cX12_told 22 = .ok (.bipush (-3), 2) := by decide +kernel
theorem dX12_told_24 : decode cX12_told 24 = .ok (.ireturn, 1) := by decide +kernel
theorem dX12_told_25 : decode cX12_told 25 = .ok (.iload_n 1, 1) := by decide +kernel
theorem dX12_told_26 : decode cX12_told 26 = .ok (.tableswitch 86 0 7 #[46, 51, 56, 61, 66, 71, 76, 81], 46) := by decide +kernel
theorem dX12_told_72 : decode cX12_told 72 = .ok (.aload_n 0, 1) := by decide +kernel
theorem dX12_told_73 : decode cX12_told 73 = .ok (.getfield 302, 3) := by decide +kernel
theorem dX12_told_76 : decode cX12_told 76 = .ok (.ireturn, 1) := by decide +kernel
theorem dX12_told_77 : decode cX12_told 77 = .ok (.aload_n 0, 1) := by decide +kernel
theorem dX12_told_78 : decode cX12_told 78 = .ok (.getfield 305, 3) := by decide +kernel
theorem dX12_told_81 : decode cX12_told 81 = .ok (.ireturn, 1) := by decide +kernel
theorem dX12_told_82 : decode cX12_told 82 = .ok (.aload_n 0, 1) := by decide +kernel
theorem dX12_told_83 : decode cX12_told 83 = .ok (.getfield 308, 3) := by decide +kernel
theorem dX12_told_86 : decode cX12_told 86 = .ok (.ireturn, 1) := by decide +kernel
theorem dX12_told_87 : decode cX12_told 87 = .ok (.aload_n 0, 1) := by decide +kernel
theorem dX12_told_88 : decode cX12_told 88 = .ok (.getfield 311, 3) := by decide +kernel
theorem dX12_told_91 : decode cX12_told 91 = .ok (.ireturn, 1) := by decide +kernel
theorem dX12_told_92 : decode cX12_told 92 = .ok (.aload_n 0, 1) := by decide +kernel
theorem dX12_told_93 : decode cX12_told 93 = .ok (.getfield 287, 3) := by decide +kernel
theorem dX12_told_96 : decode cX12_told 96 = .ok (.ireturn, 1) := by decide +kernel
theorem dX12_told_97 : decode cX12_told 97 = .ok (.aload_n 0, 1) := by decide +kernel
theorem dX12_told_98 : decode cX12_told 98 = .ok (.getfield 296, 3) := by decide +kernel
theorem dX12_told_101 : decode cX12_told 101 = .ok (.ireturn, 1) := by decide +kernel
theorem dX12_told_102 : decode cX12_told 102 = .ok (.aload_n 0, 1) := by decide +kernel
theorem dX12_told_103 : decode cX12_told 103 = .ok (.getfield 314, 3) := by decide +kernel
theorem dX12_told_106 : decode cX12_told 106 = .ok (.ireturn, 1) := by decide +kernel
theorem dX12_told_107 : decode cX12_told 107 = .ok (.aload_n 0, 1) := by decide +kernel
theorem dX12_told_108 : decode cX12_told 108 = .ok (.getfield 317, 3) := by decide +kernel
theorem dX12_told_111 : decode cX12_told 111 = .ok (.ireturn, 1) := by decide +kernel
theorem dX12_told_112 : decode cX12_told 112 = .ok (.aload_n 0, 1) := by decide +kernel
theorem dX12_told_113 : decode cX12_told 113 = .ok (.getfield 320, 3) := by decide +kernel
theorem dX12_told_116 : decode cX12_told 116 = .ok (.ireturn, 1) := by decide +kernel
theorem dX12_value_0 : decode cX12_value 0 = .ok (.aload_n 0, 1) := by decide +kernel
theorem dX12_value_1 : decode cX12_value 1 = .ok (.getfield 323, 3) := by decide +kernel
theorem dX12_value_4 : decode cX12_value 4 = .ok (.lreturn, 1) := by decide +kernel
theorem dX12_walk_0 : decode cX12_walk 0 = .ok (.aload_n 0, 1) := by decide +kernel
theorem dX12_walk_1 : decode cX12_walk 1 = .ok (.iload_n 1, 1) := by decide +kernel
theorem dX12_walk_2 : decode cX12_walk 2 = .ok (.invokevirtual 160, 3) := by decide +kernel
theorem dX12_walk_5 : decode cX12_walk 5 = .ok (.ifCond .eq 15, 3) := by decide +kernel
theorem dX12_walk_8 : decode cX12_walk 8 = .ok (.iload_n 2, 1) := by decide +kernel
theorem dX12_walk_9 : decode cX12_walk 9 = .ok (.i2l, 1) := by decide +kernel
theorem dX12_walk_10 : decode cX12_walk 10 = .ok (.lconst 0, 1) := by decide +kernel
theorem dX12_walk_11 : decode cX12_walk 11 = .ok (.ldc2_w 290, 3) := by decide +kernel
theorem dX12_walk_14 : decode cX12_walk 14 = .ok (.invokestatic 151, 3) := by decide +kernel
theorem dX12_walk_17 : decode cX12_walk 17 = .ok (.ifCond .ne 6, 3) := by decide +kernel
theorem dX12_walk_20 : decode cX12_walk 20 = .ok (.bipush (-2), 2) := by decide +kernel
theorem dX12_walk_22 : decode cX12_walk 22 = .ok (.ireturn, 1) := by decide +kernel
theorem dX12_walk_23 : decode cX12_walk 23 = .ok (.iconst 1, 1) := by decide +kernel
theorem dX12_walk_24 : decode cX12_walk 24 = .ok (.istore_n 3, 1) := by decide +kernel
theorem dX12_walk_25 : decode cX12_walk 25 = .ok (.iconst 0, 1) := by decide +kernel
theorem dX12_walk_26 : decode cX12_walk 26 = .ok (.istore 4, 2) := by decide +kernel
theorem dX12_walk_28 : decode cX12_walk 28 = .ok (.iload 4, 2) := by decide +kernel
theorem dX12_walk_30 : decode cX12_walk 30 = .ok (.aload_n 0, 1) := by decide +kernel
theorem dX12_walk_31 : decode cX12_walk 31 = .ok (.getfield 148, 3) := by decide +kernel
theorem dX12_walk_34 : decode cX12_walk 34 = .ok (.if_icmp .ge 29, 3) := by decide +kernel
theorem dX12_walk_37 : decode cX12_walk 37 = .ok (.iload_n 3, 1) := by decide +kernel
theorem dX12_walk_38 : decode cX12_walk 38 = .ok (.ifCond .eq 17, 3) := by decide +kernel
theorem dX12_walk_41 : decode cX12_walk 41 = .ok (.aload_n 0, 1) := by decide +kernel
theorem dX12_walk_42 : decode cX12_walk 42 = .ok (.getfield 49, 3) := by decide +kernel
theorem dX12_walk_45 : decode cX12_walk 45 = .ok (.iload 4, 2) := by decide +kernel
theorem dX12_walk_47 : decode cX12_walk 47 = .ok (.baload, 1) := by decide +kernel
theorem dX12_walk_48 : decode cX12_walk 48 = .ok (.ifCond .eq 7, 3) := by decide +kernel
theorem dX12_walk_51 : decode cX12_walk 51 = .ok (.iconst 1, 1) := by decide +kernel
theorem dX12_walk_52 : decode cX12_walk 52 = .ok (.goto 4, 3) := by decide +kernel
theorem dX12_walk_55 : decode cX12_walk 55 = .ok (.iconst 0, 1) := by decide +kernel
theorem dX12_walk_56 : decode cX12_walk 56 = .ok (.istore_n 3, 1) := by decide +kernel
theorem dX12_walk_57 : decode cX12_walk 57 = .ok (.iinc 4 1, 3) := by decide +kernel
theorem dX12_walk_60 : decode cX12_walk 60 = .ok (.goto (-32), 3) := by decide +kernel
theorem dX12_walk_63 : decode cX12_walk 63 = .ok (.iload_n 3, 1) := by decide +kernel
theorem dX12_walk_64 : decode cX12_walk 64 = .ok (.ifCond .eq 16, 3) := by decide +kernel
theorem dX12_walk_67 : decode cX12_walk 67 = .ok (.aload_n 0, 1) := by decide +kernel
theorem dX12_walk_68 : decode cX12_walk 68 = .ok (.getfield 190, 3) := by decide +kernel
theorem dX12_walk_71 : decode cX12_walk 71 = .ok (.aload_n 0, 1) := by decide +kernel
theorem dX12_walk_72 : decode cX12_walk 72 = .ok (.getfield 13, 3) := by decide +kernel
theorem dX12_walk_75 : decode cX12_walk 75 = .ok (.iload_n 1, 1) := by decide +kernel
theorem dX12_walk_76 : decode cX12_walk 76 = .ok (.iaload, 1) := by decide +kernel
theorem dX12_walk_77 : decode cX12_walk 77 = .ok (.if_icmp .eq 6, 3) := by decide +kernel
theorem dX12_walk_80 : decode cX12_walk 80 = .ok (.bipush (-3), 2) := by decide +kernel
theorem dX12_walk_82 : decode cX12_walk 82 = .ok (.ireturn, 1) := by decide +kernel
theorem dX12_walk_83 : decode cX12_walk 83 = .ok (.aload_n 0, 1) := by decide +kernel
theorem dX12_walk_84 : decode cX12_walk 84 = .ok (.iconst 1, 1) := by decide +kernel
theorem dX12_walk_85 : decode cX12_walk 85 = .ok (.putfield 292, 3) := by decide +kernel
theorem dX12_walk_88 : decode cX12_walk 88 = .ok (.aload_n 0, 1) := by decide +kernel
theorem dX12_walk_89 : decode cX12_walk 89 = .ok (.iconst 0, 1) := by decide +kernel
theorem dX12_walk_90 : decode cX12_walk 90 = .ok (.putfield 296, 3) := by decide +kernel
theorem dX12_walk_93 : decode cX12_walk 93 = .ok (.aload_n 0, 1) := by decide +kernel
theorem dX12_walk_94 : decode cX12_walk 94 = .ok (.iconst 0, 1) := by decide +kernel
theorem dX12_walk_95 : decode cX12_walk 95 = .ok (.putfield 299, 3) := by decide +kernel
theorem dX12_walk_98 : decode cX12_walk 98 = .ok (.aload_n 0, 1) := by decide +kernel
theorem dX12_walk_99 : decode cX12_walk 99 = .ok (.iconst 0, 1) := by decide +kernel
theorem dX12_walk_100 : decode cX12_walk 100 = .ok (.putfield 284, 3) := by decide +kernel
theorem dX12_walk_103 : decode cX12_walk 103 = .ok (.aload_n 0, 1) := by decide +kernel
theorem dX12_walk_104 : decode cX12_walk 104 = .ok (.iconst 0, 1) := by decide +kernel
theorem dX12_walk_105 : decode cX12_walk 105 = .ok (.putfield 287, 3) := by decide +kernel
theorem dX12_walk_108 : decode cX12_walk 108 = .ok (.aload_n 0, 1) := by decide +kernel
theorem dX12_walk_109 : decode cX12_walk 109 = .ok (.iconst (-1), 1) := by decide +kernel
theorem dX12_walk_110 : decode cX12_walk 110 = .ok (.putfield 302, 3) := by decide +kernel
theorem dX12_walk_113 : decode cX12_walk 113 = .ok (.aload_n 0, 1) := by decide +kernel
theorem dX12_walk_114 : decode cX12_walk 114 = .ok (.iconst (-1), 1) := by decide +kernel
theorem dX12_walk_115 : decode cX12_walk 115 = .ok (.putfield 305, 3) := by decide +kernel
theorem dX12_walk_118 : decode cX12_walk 118 = .ok (.aload_n 0, 1) := by decide +kernel
theorem dX12_walk_119 : decode cX12_walk 119 = .ok (.iconst (-1), 1) := by decide +kernel
theorem dX12_walk_120 : decode cX12_walk 120 = .ok (.putfield 308, 3) := by decide +kernel
theorem dX12_walk_123 : decode cX12_walk 123 = .ok (.aload_n 0, 1) := by decide +kernel
theorem dX12_walk_124 : decode cX12_walk 124 = .ok (.iconst 0, 1) := by decide +kernel
theorem dX12_walk_125 : decode cX12_walk 125 = .ok (.putfield 311, 3) := by decide +kernel
theorem dX12_walk_128 : decode cX12_walk 128 = .ok (.aload_n 0, 1) := by decide +kernel
theorem dX12_walk_129 : decode cX12_walk 129 = .ok (.iconst 0, 1) := by decide +kernel
theorem dX12_walk_130 : decode cX12_walk 130 = .ok (.putfield 314, 3) := by decide +kernel
theorem dX12_walk_133 : decode cX12_walk 133 = .ok (.aload_n 0, 1) := by decide +kernel
theorem dX12_walk_134 : decode cX12_walk 134 = .ok (.iconst 0, 1) := by decide +kernel
theorem dX12_walk_135 : decode cX12_walk 135 = .ok (.putfield 317, 3) := by decide +kernel
theorem dX12_walk_138 : decode cX12_walk 138 = .ok (.aload_n 0, 1) := by decide +kernel
theorem dX12_walk_139 : decode cX12_walk 139 = .ok (.iconst 0, 1) := by decide +kernel
theorem dX12_walk_140 : decode cX12_walk 140 = .ok (.putfield 320, 3) := by decide +kernel
theorem dX12_walk_143 : decode cX12_walk 143 = .ok (.aload_n 0, 1) := by decide +kernel
theorem dX12_walk_144 : decode cX12_walk 144 = .ok (.lconst 0, 1) := by decide +kernel
theorem dX12_walk_145 : decode cX12_walk 145 = .ok (.putfield 323, 3) := by decide +kernel
theorem dX12_walk_148 : decode cX12_walk 148 = .ok (.aload_n 0, 1) := by decide +kernel
theorem dX12_walk_149 : decode cX12_walk 149 = .ok (.iload_n 1, 1) := by decide +kernel
theorem dX12_walk_150 : decode cX12_walk 150 = .ok (.invokevirtual 327, 3) := by decide +kernel
theorem dX12_walk_153 : decode cX12_walk 153 = .ok (.iconst 0, 1) := by decide +kernel
theorem dX12_walk_154 : decode cX12_walk 154 = .ok (.istore 4, 2) := by decide +kernel
theorem dX12_walk_156 : decode cX12_walk 156 = .ok (.iconst 0, 1) := by decide +kernel
theorem dX12_walk_157 : decode cX12_walk 157 = .ok (.istore 5, 2) := by decide +kernel
theorem dX12_walk_159 : decode cX12_walk 159 = .ok (.iload 5, 2) := by decide +kernel
theorem dX12_walk_161 : decode cX12_walk 161 = .ok (.aload_n 0, 1) := by decide +kernel
theorem dX12_walk_162 : decode cX12_walk 162 = .ok (.getfield 190, 3) := by decide +kernel
theorem dX12_walk_165 : decode cX12_walk 165 = .ok (.if_icmp .ge 80, 3) := by decide +kernel
theorem dX12_walk_168 : decode cX12_walk 168 = .ok (.aload_n 0, 1) := by decide +kernel
theorem dX12_walk_169 : decode cX12_walk 169 = .ok (.getfield 19, 3) := by decide +kernel
theorem dX12_walk_172 : decode cX12_walk 172 = .ok (.bipush 8, 2) := by decide +kernel
theorem dX12_walk_174 : decode cX12_walk 174 = .ok (.iload_n 1, 1) := by decide +kernel
theorem dX12_walk_175 : decode cX12_walk 175 = .ok (.imul, 1) := by decide +kernel
theorem dX12_walk_176 : decode cX12_walk 176 = .ok (.iload 5, 2) := by decide +kernel
theorem dX12_walk_178 : decode cX12_walk 178 = .ok (.iadd, 1) := by decide +kernel
theorem dX12_walk_179 : decode cX12_walk 179 = .ok (.iaload, 1) := by decide +kernel
theorem dX12_walk_180 : decode cX12_walk 180 = .ok (.istore 6, 2) := by decide +kernel
theorem dX12_walk_182 : decode cX12_walk 182 = .ok (.aload_n 0, 1) := by decide +kernel
theorem dX12_walk_183 : decode cX12_walk 183 = .ok (.getfield 142, 3) := by decide +kernel
theorem dX12_walk_186 : decode cX12_walk 186 = .ok (.iload 4, 2) := by decide +kernel
theorem dX12_walk_188 : decode cX12_walk 188 = .ok (.iload 6, 2) := by decide +kernel
theorem dX12_walk_190 : decode cX12_walk 190 = .ok (.iconst 4, 1) := by decide +kernel
theorem dX12_walk_191 : decode cX12_walk 191 = .ok (.if_icmp .ne 9, 3) := by decide +kernel
theorem dX12_walk_194 : decode cX12_walk 194 = .ok (.ldc2_w 180, 3) := by decide +kernel
theorem dX12_walk_197 : decode cX12_walk 197 = .ok (.goto 31, 3) := by decide +kernel
theorem dX12_walk_200 : decode cX12_walk 200 = .ok (.iload 6, 2) := by decide +kernel
theorem dX12_walk_202 : decode cX12_walk 202 = .ok (.invokestatic 166, 3) := by decide +kernel
theorem dX12_walk_205 : decode cX12_walk 205 = .ok (.iconst 2, 1) := by decide +kernel
theorem dX12_walk_206 : decode cX12_walk 206 = .ok (.if_icmp .ne 13, 3) := by decide +kernel
theorem dX12_walk_209 : decode cX12_walk 209 = .ok (.aload_n 0, 1) := by decide +kernel
theorem dX12_walk_210 : decode cX12_walk 210 = .ok (.getfield 103, 3) := by decide +kernel
theorem dX12_walk_213 : decode cX12_walk 213 = .ok (.iload 5, 2) := by decide +kernel
theorem dX12_walk_215 : decode cX12_walk 215 = .ok (.laload, 1) := by decide +kernel
theorem dX12_walk_216 : decode cX12_walk 216 = .ok (.goto 12, 3) := by decide +kernel
theorem dX12_walk_219 : decode cX12_walk 219 = .ok (.aload_n 0, 1) := by decide +kernel
theorem dX12_walk_220 : decode cX12_walk 220 = .ok (.getfield 103, 3) := by decide +kernel
theorem dX12_walk_223 : decode cX12_walk 223 = .ok (.iload 5, 2) := by decide +kernel
theorem dX12_walk_225 : decode cX12_walk 225 = .ok (.laload, 1) := by decide +kernel
theorem dX12_walk_226 : decode cX12_walk 226 = .ok (.l2i, 1) := by decide +kernel
theorem dX12_walk_227 : decode cX12_walk 227 = .ok (.i2l, 1) := by decide +kernel
theorem dX12_walk_228 : decode cX12_walk 228 = .ok (.lastore, 1) := by decide +kernel
theorem dX12_walk_229 : decode cX12_walk 229 = .ok (.iload 4, 2) := by decide +kernel
theorem dX12_walk_231 : decode cX12_walk 231 = .ok (.iload 6, 2) := by decide +kernel
theorem dX12_walk_233 : decode cX12_walk 233 = .ok (.invokestatic 166, 3) := by decide +kernel
theorem dX12_walk_236 : decode cX12_walk 236 = .ok (.iadd, 1) := by decide +kernel
theorem dX12_walk_237 : decode cX12_walk 237 = .ok (.istore 4, 2) := by decide +kernel
theorem dX12_walk_239 : decode cX12_walk 239 = .ok (.iinc 5 1, 3) := by decide +kernel
theorem dX12_walk_242 : decode cX12_walk 242 = .ok (.goto (-83), 3) := by decide +kernel
theorem dX12_walk_245 : decode cX12_walk 245 = .ok (.aload_n 0, 1) := by decide +kernel
theorem dX12_walk_246 : decode cX12_walk 246 = .ok (.iconst 0, 1) := by decide +kernel
theorem dX12_walk_247 : decode cX12_walk 247 = .ok (.putfield 190, 3) := by decide +kernel
theorem dX12_walk_250 : decode cX12_walk 250 = .ok (.aload_n 0, 1) := by decide +kernel
theorem dX12_walk_251 : decode cX12_walk 251 = .ok (.getfield 284, 3) := by decide +kernel
theorem dX12_walk_254 : decode cX12_walk 254 = .ok (.ifCond .le 114, 3) := by decide +kernel
theorem dX12_walk_257 : decode cX12_walk 257 = .ok (.aload_n 0, 1) := by decide +kernel
theorem dX12_walk_258 : decode cX12_walk 258 = .ok (.getfield 311, 3) := by decide +kernel
theorem dX12_walk_261 : decode cX12_walk 261 = .ok (.iload_n 2, 1) := by decide +kernel
theorem dX12_walk_262 : decode cX12_walk 262 = .ok (.if_icmp .ne 13, 3) := by decide +kernel
theorem dX12_walk_265 : decode cX12_walk 265 = .ok (.aload_n 0, 1) := by decide +kernel
theorem dX12_walk_266 : decode cX12_walk 266 = .ok (.aload_n 0, 1) := by decide +kernel
theorem dX12_walk_267 : decode cX12_walk 267 = .ok (.getfield 284, 3) := by decide +kernel
theorem dX12_walk_270 : decode cX12_walk 270 = .ok (.putfield 320, 3) := by decide +kernel
theorem dX12_walk_273 : decode cX12_walk 273 = .ok (.iconst 2, 1) := by decide +kernel
theorem dX12_walk_274 : decode cX12_walk 274 = .ok (.ireturn, 1) := by decide +kernel
theorem dX12_walk_275 : decode cX12_walk 275 = .ok (.aload_n 0, 1) := by decide +kernel
theorem dX12_walk_276 : decode cX12_walk 276 = .ok (.dup, 1) := by decide +kernel
theorem dX12_walk_277 : decode cX12_walk 277 = .ok (.getfield 311, 3) := by decide +kernel
theorem dX12_walk_280 : decode cX12_walk 280 = .ok (.iconst 1, 1) := by decide +kernel
theorem dX12_walk_281 : decode cX12_walk 281 = .ok (.iadd, 1) := by decide +kernel
theorem dX12_walk_282 : decode cX12_walk 282 = .ok (.putfield 311, 3) := by decide +kernel
theorem dX12_walk_285 : decode cX12_walk 285 = .ok (.aload_n 0, 1) := by decide +kernel
theorem dX12_walk_286 : decode cX12_walk 286 = .ok (.iconst (-1), 1) := by decide +kernel
theorem dX12_walk_287 : decode cX12_walk 287 = .ok (.putfield 330, 3) := by decide +kernel
theorem dX12_walk_290 : decode cX12_walk 290 = .ok (.aload_n 0, 1) := by decide +kernel
theorem dX12_walk_291 : decode cX12_walk 291 = .ok (.bipush (-2), 2) := by decide +kernel
theorem dX12_walk_293 : decode cX12_walk 293 = .ok (.putfield 333, 3) := by decide +kernel
theorem dX12_walk_296 : decode cX12_walk 296 = .ok (.aload_n 0, 1) := by decide +kernel
theorem dX12_walk_297 : decode cX12_walk 297 = .ok (.aload_n 0, 1) := by decide +kernel
theorem dX12_walk_298 : decode cX12_walk 298 = .ok (.getfield 284, 3) := by decide +kernel
theorem dX12_walk_301 : decode cX12_walk 301 = .ok (.iconst 1, 1) := by decide +kernel
theorem dX12_walk_302 : decode cX12_walk 302 = .ok (.isub, 1) := by decide +kernel
theorem dX12_walk_303 : decode cX12_walk 303 = .ok (.invokevirtual 336, 3) := by decide +kernel
theorem dX12_walk_306 : decode cX12_walk 306 = .ok (.aload_n 0, 1) := by decide +kernel
theorem dX12_walk_307 : decode cX12_walk 307 = .ok (.getfield 330, 3) := by decide +kernel
theorem dX12_walk_310 : decode cX12_walk 310 = .ok (.iconst (-1), 1) := by decide +kernel
theorem dX12_walk_311 : decode cX12_walk 311 = .ok (.if_icmp .eq 12, 3) := by decide +kernel
theorem dX12_walk_314 : decode cX12_walk 314 = .ok (.aload_n 0, 1) := by decide +kernel
theorem dX12_walk_315 : decode cX12_walk 315 = .ok (.invokevirtual 339, 3) := by decide +kernel
theorem dX12_walk_318 : decode cX12_walk 318 = .ok (.ifCond .ne 5, 3) := by decide +kernel
theorem dX12_walk_321 : decode cX12_walk 321 = .ok (.iconst 1, 1) := by decide +kernel
theorem dX12_walk_322 : decode cX12_walk 322 = .ok (.ireturn, 1) := by decide +kernel
theorem dX12_walk_323 : decode cX12_walk 323 = .ok (.aload_n 0, 1) := by decide +kernel
theorem dX12_walk_324 : decode cX12_walk 324 = .ok (.getfield 284, 3) := by decide +kernel
theorem dX12_walk_327 : decode cX12_walk 327 = .ok (.ifCond .le (-77), 3) := by decide +kernel
theorem dX12_walk_330 : decode cX12_walk 330 = .ok (.aload_n 0, 1) := by decide +kernel
theorem dX12_walk_331 : decode cX12_walk 331 = .ok (.getfield 136, 3) := by decide +kernel
theorem dX12_walk_334 : decode cX12_walk 334 = .ok (.aload_n 0, 1) := by decide +kernel
theorem dX12_walk_335 : decode cX12_walk 335 = .ok (.getfield 284, 3) := by decide +kernel
theorem dX12_walk_338 : decode cX12_walk 338 = .ok (.iconst 1, 1) := by decide +kernel
theorem dX12_walk_339 : decode cX12_walk 339 = .ok (.isub, 1) := by decide +kernel
theorem dX12_walk_340 : decode cX12_walk 340 = .ok (.iaload, 1) := by decide +kernel
theorem dX12_walk_341 : decode cX12_walk 341 = .ok (.istore 5, 2) := by decide +kernel
theorem dX12_walk_343 : decode cX12_walk 343 = .ok (.aload_n 0, 1) := by decide +kernel
theorem dX12_walk_344 : decode cX12_walk 344 = .ok (.iload 5, 2) := by decide +kernel
theorem dX12_walk_346 : decode cX12_walk 346 = .ok (.aload_n 0, 1) := by decide +kernel
theorem dX12_walk_347 : decode cX12_walk 347 = .ok (.getfield 314, 3) := by decide +kernel
theorem dX12_walk_350 : decode cX12_walk 350 = .ok (.if_icmp .le 8, 3) := by decide +kernel
theorem dX12_walk_353 : decode cX12_walk 353 = .ok (.iload 5, 2) := by decide +kernel
theorem dX12_walk_355 : decode cX12_walk 355 = .ok (.goto 7, 3) := by decide +kernel
theorem dX12_walk_358 : decode cX12_walk 358 = .ok (.aload_n 0, 1) := by decide +kernel
theorem dX12_walk_359 : decode cX12_walk 359 = .ok (.getfield 314, 3) := by decide +kernel
theorem dX12_walk_362 : decode cX12_walk 362 = .ok (.putfield 314, 3) := by decide +kernel
theorem dX12_walk_365 : decode cX12_walk 365 = .ok (.goto (-115), 3) := by decide +kernel
theorem dX12_walk_368 : decode cX12_walk 368 = .ok (.iconst 0, 1) := by decide +kernel
theorem dX12_walk_369 : decode cX12_walk 369 = .ok (.ireturn, 1) := by decide +kernel
