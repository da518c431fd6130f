theorem dX12_callOrEnd_0 : decode cX12_callOrEnd 0 = .ok (.iload_n 2, 1) := by decide +kernel
theorem dX12_callOrEnd_1 : decode cX12_callOrEnd 1 = .ok (.bipush 34, 2) := by decide +kernel
theorem dX12_callOrEnd_3 : decode cX12_callOrEnd 3 = .ok (.if_icmp .ne 132, 3) := by decide +kernel
theorem dX12_callOrEnd_6 : decode cX12_callOrEnd 6 = .ok (.iconst 0, 1) := by decide +kernel
theorem dX12_callOrEnd_7 : decode cX12_callOrEnd 7 = .ok (.istore 4, 2) := by decide +kernel
theorem dX12_callOrEnd_9 : decode cX12_callOrEnd 9 = .ok (.iconst 0, 1) := by decide +kernel
theorem dX12_callOrEnd_10 : decode cX12_callOrEnd 10 = .ok (.istore 5, 2) := by decide +kernel
theorem dX12_callOrEnd_12 : decode cX12_callOrEnd 12 = .ok (.iload 5, 2) := by decide +kernel
theorem dX12_callOrEnd_14 : decode cX12_callOrEnd 14 = .ok (.aload_n 0, 1) := by decide +kernel
theorem dX12_callOrEnd_15 : decode cX12_callOrEnd 15 = .ok (.getfield 296, 3) := by decide +kernel
theorem dX12_callOrEnd_18 : decode cX12_callOrEnd 18 = .ok (.if_icmp .ge 36, 3) := by decide +kernel
theorem dX12_callOrEnd_21 : decode cX12_callOrEnd 21 = .ok (.iload 4, 2) := by decide +kernel
theorem dX12_callOrEnd_23 : decode cX12_callOrEnd 23 = .ok (.ifCond .ne 18, 3) := by decide +kernel
theorem dX12_callOrEnd_26 : decode cX12_callOrEnd 26 = .ok (.aload_n 0, 1) := by decide +kernel
theorem dX12_callOrEnd_27 : decode cX12_callOrEnd 27 = .ok (.getfield 145, 3) := by decide +kernel
theorem dX12_callOrEnd_30 : decode cX12_callOrEnd 30 = .ok (.bipush 60, 2) := by decide +kernel
theorem dX12_callOrEnd_32 : decode cX12_callOrEnd 32 = .ok (.iload_n 1, 1) := by decide +kernel
theorem dX12_callOrEnd_33 : decode cX12_callOrEnd 33 = .ok (.imul, 1) := by decide +kernel
theorem dX12_callOrEnd_34 : decode cX12_callOrEnd 34 = .ok (.iload 5, 2) := by decide +kernel
theorem dX12_callOrEnd_36 : decode cX12_callOrEnd 36 = .ok (.iadd, 1) := by decide +kernel
theorem dX12_callOrEnd_37 : decode cX12_callOrEnd 37 = .ok (.iaload, 1) := by decide +kernel
theorem dX12_callOrEnd_38 : decode cX12_callOrEnd 38 = .ok (.ifCond .le 7, 3) := by decide +kernel
theorem dX12_callOrEnd_41 : decode cX12_callOrEnd 41 = .ok (.iconst 1, 1) := by decide +kernel
theorem dX12_callOrEnd_42 : decode cX12_callOrEnd 42 = .ok (.goto 4, 3) := by decide +kernel
theorem dX12_callOrEnd_45 : decode cX12_callOrEnd 45 = .ok (.iconst 0, 1) := by decide +kernel
theorem dX12_callOrEnd_46 : decode cX12_callOrEnd 46 = .ok (.istore 4, 2) := by decide +kernel
theorem dX12_callOrEnd_48 : decode cX12_callOrEnd 48 = .ok (.iinc 5 1, 3) := by decide +kernel
theorem dX12_callOrEnd_51 : decode cX12_callOrEnd 51 = .ok (.goto (-39), 3) := by decide +kernel
theorem dX12_callOrEnd_54 : decode cX12_callOrEnd 54 = .ok (.iload 4, 2) := by decide +kernel
theorem dX12_callOrEnd_56 : decode cX12_callOrEnd 56 = .ok (.ifCond .eq 10, 3) := by decide +kernel
theorem dX12_callOrEnd_59 : decode cX12_callOrEnd 59 = .ok (.aload_n 0, 1) := by decide +kernel
theorem dX12_callOrEnd_60 : decode cX12_callOrEnd 60 = .ok (.bipush 6, 2) := by decide +kernel
theorem dX12_callOrEnd_62 : decode cX12_callOrEnd 62 = .ok (.invokevirtual 373, 3) := by decide +kernel
theorem dX12_callOrEnd_65 : decode cX12_callOrEnd 65 = .ok (.return_, 1) := by decide +kernel
theorem dX12_callOrEnd_66 : decode cX12_callOrEnd 66 = .ok (.iload_n 3, 1) := by decide +kernel
theorem dX12_callOrEnd_67 : decode cX12_callOrEnd 67 = .ok (.iconst 5, 1) := by decide +kernel
theorem dX12_callOrEnd_68 : decode cX12_callOrEnd 68 = .ok (.if_icmp .ge 12, 3) := by decide +kernel
theorem dX12_callOrEnd_71 : decode cX12_callOrEnd 71 = .ok (.aload_n 0, 1) := by decide +kernel
theorem dX12_callOrEnd_72 : decode cX12_callOrEnd 72 = .ok (.iload_n 1, 1) := by decide +kernel
theorem dX12_callOrEnd_73 : decode cX12_callOrEnd 73 = .ok (.iload_n 3, 1) := by decide +kernel
theorem dX12_callOrEnd_74 : decode cX12_callOrEnd 74 = .ok (.invokevirtual 280, 3) := by decide +kernel
theorem dX12_callOrEnd_77 : decode cX12_callOrEnd 77 = .ok (.goto 4, 3) := by decide +kernel
theorem dX12_callOrEnd_80 : decode cX12_callOrEnd 80 = .ok (.lconst 0, 1) := by decide +kernel
theorem dX12_callOrEnd_81 : decode cX12_callOrEnd 81 = .ok (.lstore 5, 2) := by decide +kernel
theorem dX12_callOrEnd_83 : decode cX12_callOrEnd 83 = .ok (.aload_n 0, 1) := by decide +kernel
theorem dX12_callOrEnd_84 : decode cX12_callOrEnd 84 = .ok (.dup, 1) := by decide +kernel
theorem dX12_callOrEnd_85 : decode cX12_callOrEnd 85 = .ok (.getfield 284, 3) := by decide +kernel
theorem dX12_callOrEnd_88 : decode cX12_callOrEnd 88 = .ok (.iconst 1, 1) := by decide +kernel
theorem dX12_callOrEnd_89 : decode cX12_callOrEnd 89 = .ok (.isub, 1) := by decide +kernel
theorem dX12_callOrEnd_90 : decode cX12_callOrEnd 90 = .ok (.putfield 284, 3) := by decide +kernel
theorem dX12_callOrEnd_93 : decode cX12_callOrEnd 93 = .ok (.aload_n 0, 1) := by decide +kernel
theorem dX12_callOrEnd_94 : decode cX12_callOrEnd 94 = .ok (.getfield 284, 3) := by decide +kernel
theorem dX12_callOrEnd_97 : decode cX12_callOrEnd 97 = .ok (.ifCond .ne 10, 3) := by decide +kernel
theorem dX12_callOrEnd_100 : decode cX12_callOrEnd 100 = .ok (.aload_n 0, 1) := by decide +kernel
theorem dX12_callOrEnd_101 : decode cX12_callOrEnd 101 = .ok (.lload 5, 2) := by decide +kernel
theorem dX12_callOrEnd_103 : decode cX12_callOrEnd 103 = .ok (.putfield 323, 3) := by decide +kernel
theorem dX12_callOrEnd_106 : decode cX12_callOrEnd 106 = .ok (.return_, 1) := by decide +kernel
theorem dX12_callOrEnd_107 : decode cX12_callOrEnd 107 = .ok (.iload_n 3, 1) := by decide +kernel
theorem dX12_callOrEnd_108 : decode cX12_callOrEnd 108 = .ok (.iconst 5, 1) := by decide +kernel
theorem dX12_callOrEnd_109 : decode cX12_callOrEnd 109 = .ok (.if_icmp .ge 13, 3) := by decide +kernel
theorem dX12_callOrEnd_112 : decode cX12_callOrEnd 112 = .ok (.aload_n 0, 1) := by decide +kernel
theorem dX12_callOrEnd_113 : decode cX12_callOrEnd 113 = .ok (.iload_n 1, 1) := by decide +kernel
theorem dX12_callOrEnd_114 : decode cX12_callOrEnd 114 = .ok (.iconst 1, 1) := by decide +kernel
theorem dX12_callOrEnd_115 : decode cX12_callOrEnd 115 = .ok (.isub, 1) := by decide +kernel
theorem dX12_callOrEnd_116 : decode cX12_callOrEnd 116 = .ok (.iload_n 3, 1) := by decide +kernel
theorem dX12_callOrEnd_117 : decode cX12_callOrEnd 117 = .ok (.lload 5, 2) := by decide +kernel
theorem dX12_callOrEnd_119 : decode cX12_callOrEnd 119 = .ok (.invokevirtual 346, 3) := by decide +kernel
theorem dX12_callOrEnd_122 : decode cX12_callOrEnd 122 = .ok (.aload_n 0, 1) := by decide +kernel
theorem dX12_callOrEnd_123 : decode cX12_callOrEnd 123 = .ok (.getfield 133, 3) := by decide +kernel
theorem dX12_callOrEnd_126 : decode cX12_callOrEnd 126 = .ok (.iload_n 1, 1) := by decide +kernel
theorem dX12_callOrEnd_127 : decode cX12_callOrEnd 127 = .ok (.iconst 1, 1) := by decide +kernel
theorem dX12_callOrEnd_128 : decode cX12_callOrEnd 128 = .ok (.isub, 1) := by decide +kernel
theorem dX12_callOrEnd_129 : decode cX12_callOrEnd 129 = .ok (.dup2, 1) := by decide +kernel
theorem dX12_callOrEnd_130 : decode cX12_callOrEnd 130 = .ok (.iaload, 1) := by decide +kernel
theorem dX12_callOrEnd_131 : decode cX12_callOrEnd 131 = .ok (.iconst 1, 1) := by decide +kernel
theorem dX12_callOrEnd_132 : decode cX12_callOrEnd 132 = .ok (.iadd, 1) := by decide +kernel
theorem dX12_callOrEnd_133 : decode cX12_callOrEnd 133 = .ok (.iastore, 1) := by decide +kernel
theorem dX12_callOrEnd_134 : decode cX12_callOrEnd 134 = .ok (.return_, 1) := by decide +kernel
theorem dX12_callOrEnd_135 : decode cX12_callOrEnd 135 = .ok (.aload_n 0, 1) := by decide +kernel
theorem dX12_callOrEnd_136 : decode cX12_callOrEnd 136 = .ok (.getfield 284, 3) := by decide +kernel
theorem dX12_callOrEnd_139 : decode cX12_callOrEnd 139 = .ok (.bipush 6, 2) := by decide +kernel
theorem dX12_callOrEnd_141 : decode cX12_callOrEnd 141 = .ok (.if_icmp .ne 10, 3) := by decide +kernel
theorem dX12_callOrEnd_144 : decode cX12_callOrEnd 144 = .ok (.aload_n 0, 1) := by decide +kernel
theorem dX12_callOrEnd_145 : decode cX12_callOrEnd 145 = .ok (.bipush 8, 2) := by decide +kernel
theorem dX12_callOrEnd_147 : decode cX12_callOrEnd 147 = .ok (.invokevirtual 373, 3) := by decide +kernel
theorem dX12_callOrEnd_150 : decode cX12_callOrEnd 150 = .ok (.return_, 1) := by decide +kernel
theorem dX12_callOrEnd_151 : decode cX12_callOrEnd 151 = .ok (.aload_n 0, 1) := by decide +kernel
theorem dX12_callOrEnd_152 : decode cX12_callOrEnd 152 = .ok (.iload_n 3, 1) := by decide +kernel
theorem dX12_callOrEnd_153 : decode cX12_callOrEnd 153 = .ok (.invokevirtual 327, 3) := by decide +kernel
theorem dX12_callOrEnd_156 : decode cX12_callOrEnd 156 = .ok (.aload_n 0, 1) := by decide +kernel
theorem dX12_callOrEnd_157 : decode cX12_callOrEnd 157 = .ok (.getfield 16, 3) := by decide +kernel
theorem dX12_callOrEnd_160 : decode cX12_callOrEnd 160 = .ok (.iload_n 3, 1) := by decide +kernel
theorem dX12_callOrEnd_161 : decode cX12_callOrEnd 161 = .ok (.iaload, 1) := by decide +kernel
theorem dX12_callOrEnd_162 : decode cX12_callOrEnd 162 = .ok (.istore 4, 2) := by decide +kernel
theorem dX12_callOrEnd_164 : decode cX12_callOrEnd 164 = .ok (.aload_n 0, 1) := by decide +kernel
theorem dX12_callOrEnd_165 : decode cX12_callOrEnd 165 = .ok (.getfield 13, 3) := by decide +kernel
theorem dX12_callOrEnd_168 : decode cX12_callOrEnd 168 = .ok (.iload_n 3, 1) := by decide +kernel
theorem dX12_callOrEnd_169 : decode cX12_callOrEnd 169 = .ok (.iaload, 1) := by decide +kernel
theorem dX12_callOrEnd_170 : decode cX12_callOrEnd 170 = .ok (.iconst 1, 1) := by decide +kernel
theorem dX12_callOrEnd_171 : decode cX12_callOrEnd 171 = .ok (.isub, 1) := by decide +kernel
theorem dX12_callOrEnd_172 : decode cX12_callOrEnd 172 = .ok (.istore 5, 2) := by decide +kernel
theorem dX12_callOrEnd_174 : decode cX12_callOrEnd 174 = .ok (.iload 5, 2) := by decide +kernel
theorem dX12_callOrEnd_176 : decode cX12_callOrEnd 176 = .ok (.ifCond .lt 54, 3) := by decide +kernel
theorem dX12_callOrEnd_179 : decode cX12_callOrEnd 179 = .ok (.aload_n 0, 1) := by decide +kernel
theorem dX12_callOrEnd_180 : decode cX12_callOrEnd 180 = .ok (.getfield 19, 3) := by decide +kernel
theorem dX12_callOrEnd_183 : decode cX12_callOrEnd 183 = .ok (.bipush 8, 2) := by decide +kernel
theorem dX12_callOrEnd_185 : decode cX12_callOrEnd 185 = .ok (.iload_n 3, 1) := by decide +kernel
theorem dX12_callOrEnd_186 : decode cX12_callOrEnd 186 = .ok (.imul, 1) := by decide +kernel
theorem dX12_callOrEnd_187 : decode cX12_callOrEnd 187 = .ok (.iload 5, 2) := by decide +kernel
theorem dX12_callOrEnd_189 : decode cX12_callOrEnd 189 = .ok (.iadd, 1) := by decide +kernel
theorem dX12_callOrEnd_190 : decode cX12_callOrEnd 190 = .ok (.iaload, 1) := by decide +kernel
theorem dX12_callOrEnd_191 : decode cX12_callOrEnd 191 = .ok (.istore 6, 2) := by decide +kernel
theorem dX12_callOrEnd_193 : decode cX12_callOrEnd 193 = .ok (.iload 4, 2) := by decide +kernel
theorem dX12_callOrEnd_195 : decode cX12_callOrEnd 195 = .ok (.iload 6, 2) := by decide +kernel
theorem dX12_callOrEnd_197 : decode cX12_callOrEnd 197 = .ok (.invokestatic 166, 3) := by decide +kernel
theorem dX12_callOrEnd_200 : decode cX12_callOrEnd 200 = .ok (.isub, 1) := by decide +kernel
theorem dX12_callOrEnd_201 : decode cX12_callOrEnd 201 = .ok (.istore 4, 2) := by decide +kernel
theorem dX12_callOrEnd_203 : decode cX12_callOrEnd 203 = .ok (.aload_n 0, 1) := by decide +kernel
theorem dX12_callOrEnd_204 : decode cX12_callOrEnd 204 = .ok (.getfield 142, 3) := by decide +kernel
theorem dX12_callOrEnd_207 : decode cX12_callOrEnd 207 = .ok (.bipush 18, 2) := by decide +kernel
theorem dX12_callOrEnd_209 : decode cX12_callOrEnd 209 = .ok (.iload_n 1, 1) := by decide +kernel
theorem dX12_callOrEnd_210 : decode cX12_callOrEnd 210 = .ok (.iconst 1, 1) := by decide +kernel
theorem dX12_callOrEnd_211 : decode cX12_callOrEnd 211 = .ok (.iadd, 1) := by decide +kernel
theorem dX12_callOrEnd_212 : decode cX12_callOrEnd 212 = .ok (.imul, 1) := by decide +kernel
theorem dX12_callOrEnd_213 : decode cX12_callOrEnd 213 = .ok (.iload 4, 2) := by decide +kernel
theorem dX12_callOrEnd_215 : decode cX12_callOrEnd 215 = .ok (.iadd, 1) := by decide +kernel
theorem dX12_callOrEnd_216 : decode cX12_callOrEnd 216 = .ok (.aload_n 0, 1) := by decide +kernel
theorem dX12_callOrEnd_217 : decode cX12_callOrEnd 217 = .ok (.iload_n 1, 1) := by decide +kernel
theorem dX12_callOrEnd_218 : decode cX12_callOrEnd 218 = .ok (.iload 6, 2) := by decide +kernel
theorem dX12_callOrEnd_220 : decode cX12_callOrEnd 220 = .ok (.invokevirtual 280, 3) := by decide +kernel
theorem dX12_callOrEnd_223 : decode cX12_callOrEnd 223 = .ok (.lastore, 1) := by decide +kernel
theorem dX12_callOrEnd_224 : decode cX12_callOrEnd 224 = .ok (.iinc 5 (-1), 3) := by decide +kernel
theorem dX12_callOrEnd_227 : decode cX12_callOrEnd 227 = .ok (.goto (-53), 3) := by decide +kernel
theorem dX12_callOrEnd_230 : decode cX12_callOrEnd 230 = .ok (.return_, 1) := by decide +kernel
theorem dX12_begin_0 : decode cX12_begin 0 = .ok (.bipush 60, 2) := by decide +kernel
theorem dX12_begin_2 : decode cX12_begin 2 = .ok (.aload_n 0, 1) := by decide +kernel
theorem dX12_begin_3 : decode cX12_begin 3 = .ok (.getfield 130, 3) := by decide +kernel
theorem dX12_begin_6 : decode cX12_begin 6 = .ok (.iload_n 1, 1) := by decide +kernel
theorem dX12_begin_7 : decode cX12_begin 7 = .ok (.iaload, 1) := by decide +kernel
theorem dX12_begin_8 : decode cX12_begin 8 = .ok (.imul, 1) := by decide +kernel
theorem dX12_begin_9 : decode cX12_begin 9 = .ok (.aload_n 0, 1) := by decide +kernel
theorem dX12_begin_10 : decode cX12_begin 10 = .ok (.getfield 133, 3) := by decide +kernel
theorem dX12_begin_13 : decode cX12_begin 13 = .ok (.iload_n 1, 1) := by decide +kernel
theorem dX12_begin_14 : decode cX12_begin 14 = .ok (.iaload, 1) := by decide +kernel
theorem dX12_begin_15 : decode cX12_begin 15 = .ok (.iadd, 1) := by decide +kernel
theorem dX12_begin_16 : decode cX12_begin 16 = .ok (.istore_n 2, 1) := by decide +kernel
theorem dX12_begin_17 : decode cX12_begin 17 = .ok (.aload_n 0, 1) := by decide +kernel
theorem dX12_begin_18 : decode cX12_begin 18 = .ok (.getfield 25, 3) := by decide +kernel
theorem dX12_begin_21 : decode cX12_begin 21 = .ok (.iload_n 2, 1) := by decide +kernel
theorem dX12_begin_22 : decode cX12_begin 22 = .ok (.iaload, 1) := by decide +kernel
theorem dX12_begin_23 : decode cX12_begin 23 = .ok (.istore_n 3, 1) := by decide +kernel
theorem dX12_begin_24 : decode cX12_begin 24 = .ok (.aload_n 0, 1) := by decide +kernel
theorem dX12_begin_25 : decode cX12_begin 25 = .ok (.getfield 28, 3) := by decide +kernel
theorem dX12_begin_28 : decode cX12_begin 28 = .ok (.iload_n 2, 1) := by decide +kernel
theorem dX12_begin_29 : decode cX12_begin 29 = .ok (.iaload, 1) := by decide +kernel
theorem dX12_begin_30 : decode cX12_begin 30 = .ok (.istore 4, 2) := by decide +kernel
theorem dX12_begin_32 : decode cX12_begin 32 = .ok (.aload_n 0, 1) := by decide +kernel
theorem dX12_begin_33 : decode cX12_begin 33 = .ok (.getfield 31, 3) := by decide +kernel
theorem dX12_begin_36 : decode cX12_begin 36 = .ok (.iload_n 2, 1) := by decide +kernel
theorem dX12_begin_37 : decode cX12_begin 37 = .ok (.iaload, 1) := by decide +kernel
theorem dX12_begin_38 : decode cX12_begin 38 = .ok (.istore 5, 2) := by decide +kernel
theorem dX12_begin_40 : decode cX12_begin 40 = .ok (.iload_n 3, 1) := by decide +kernel
theorem dX12_begin_41 : decode cX12_begin 41 = .ok (.i2l, 1) := by decide +kernel
theorem dX12_begin_42 : decode cX12_begin 42 = .ok (.ldc2_w 193, 3) := by decide +kernel
theorem dX12_begin_45 : decode cX12_begin 45 = .ok (.ldc2_w 254, 3) := by decide +kernel
theorem dX12_begin_48 : decode cX12_begin 48 = .ok (.invokestatic 151, 3) := by decide +kernel
theorem dX12_begin_51 : decode cX12_begin 51 = .ok (.ifCond .eq 22, 3) := by decide +kernel
theorem dX12_begin_54 : decode cX12_begin 54 = .ok (.aload_n 0, 1) := by decide +kernel
theorem dX12_begin_55 : decode cX12_begin 55 = .ok (.iload_n 1, 1) := by decide +kernel
theorem dX12_begin_56 : decode cX12_begin 56 = .ok (.iload_n 3, 1) := by decide +kernel
theorem dX12_begin_57 : decode cX12_begin 57 = .ok (.invokevirtual 350, 3) := by decide +kernel
theorem dX12_begin_60 : decode cX12_begin 60 = .ok (.aload_n 0, 1) := by decide +kernel
theorem dX12_begin_61 : decode cX12_begin 61 = .ok (.getfield 133, 3) := by decide +kernel
theorem dX12_begin_64 : decode cX12_begin 64 = .ok (.iload_n 1, 1) := by decide +kernel
theorem dX12_begin_65 : decode cX12_begin 65 = .ok (.dup2, 1) := by decide +kernel
theorem dX12_begin_66 : decode cX12_begin 66 = .ok (.iaload, 1) := by decide +kernel
theorem dX12_begin_67 : decode cX12_begin 67 = .ok (.iconst 1, 1) := by decide +kernel
theorem dX12_begin_68 : decode cX12_begin 68 = .ok (.iadd, 1) := by decide +kernel
theorem dX12_begin_69 : decode cX12_begin 69 = .ok (.iastore, 1) := by decide +kernel
theorem dX12_begin_70 : decode cX12_begin 70 = .ok (.goto 165, 3) := by decide +kernel
theorem dX12_begin_73 : decode cX12_begin 73 = .ok (.iload_n 3, 1) := by decide +kernel
theorem dX12_begin_74 : decode cX12_begin 74 = .ok (.bipush 8, 2) := by decide +kernel
theorem dX12_begin_76 : decode cX12_begin 76 = .ok (.if_icmp .ge 26, 3) := by decide +kernel
theorem dX12_begin_79 : decode cX12_begin 79 = .ok (.aload_n 0, 1) := by decide +kernel
theorem dX12_begin_80 : decode cX12_begin 80 = .ok (.iload_n 1, 1) := by decide +kernel
theorem dX12_begin_81 : decode cX12_begin 81 = .ok (.iload_n 3, 1) := by decide +kernel
theorem dX12_begin_82 : decode cX12_begin 82 = .ok (.iload 4, 2) := by decide +kernel
theorem dX12_begin_84 : decode cX12_begin 84 = .ok (.iload 5, 2) := by decide +kernel
theorem dX12_begin_86 : decode cX12_begin 86 = .ok (.invokevirtual 353, 3) := by decide +kernel
theorem dX12_begin_89 : decode cX12_begin 89 = .ok (.aload_n 0, 1) := by decide +kernel
theorem dX12_begin_90 : decode cX12_begin 90 = .ok (.getfield 133, 3) := by decide +kernel
theorem dX12_begin_93 : decode cX12_begin 93 = .ok (.iload_n 1, 1) := by decide +kernel
theorem dX12_begin_94 : decode cX12_begin 94 = .ok (.dup2, 1) := by decide +kernel
theorem dX12_begin_95 : decode cX12_begin 95 = .ok (.iaload, 1) := by decide +kernel
theorem dX12_begin_96 : decode cX12_begin 96 = .ok (.iconst 1, 1) := by decide +kernel
theorem dX12_begin_97 : decode cX12_begin 97 = .ok (.iadd, 1) := by decide +kernel
theorem dX12_begin_98 : decode cX12_begin 98 = .ok (.iastore, 1) := by decide +kernel
theorem dX12_begin_99 : decode cX12_begin 99 = .ok (.goto 136, 3) := by decide +kernel
theorem dX12_begin_102 : decode cX12_begin 102 = .ok (.iload_n 3, 1) := by decide +kernel
theorem dX12_begin_103 : decode cX12_begin 103 = .ok (.bipush 20, 2) := by decide +kernel
theorem dX12_begin_105 : decode cX12_begin 105 = .ok (.if_icmp .ge 38, 3) := by decide +kernel
theorem dX12_begin_108 : decode cX12_begin 108 = .ok (.aload_n 0, 1) := by decide +kernel
theorem dX12_begin_109 : decode cX12_begin 109 = .ok (.iload_n 1, 1) := by decide +kernel
theorem dX12_begin_110 : decode cX12_begin 110 = .ok (.iload_n 3, 1) := by decide +kernel
theorem dX12_begin_111 : decode cX12_begin 111 = .ok (.iload 4, 2) := by decide +kernel
theorem dX12_begin_113 : decode cX12_begin 113 = .ok (.iload 5, 2) := by decide +kernel
theorem dX12_begin_115 : decode cX12_begin 115 = .ok (.invokevirtual 357, 3) := by decide +kernel
theorem dX12_begin_118 : decode cX12_begin 118 = .ok (.aload_n 0, 1) := by decide +kernel
theorem dX12_begin_119 : decode cX12_begin 119 = .ok (.getfield 133, 3) := by decide +kernel
theorem dX12_begin_122 : decode cX12_begin 122 = .ok (.iload_n 1, 1) := by decide +kernel
theorem dX12_begin_123 : decode cX12_begin 123 = .ok (.dup2, 1) := by decide +kernel
theorem dX12_begin_124 : decode cX12_begin 124 = .ok (.iaload, 1) := by decide +kernel
theorem dX12_begin_125 : decode cX12_begin 125 = .ok (.aload_n 0, 1) := by decide +kernel
theorem dX12_begin_126 : decode cX12_begin 126 = .ok (.getfield 330, 3) := by decide +kernel
theorem dX12_begin_129 : decode cX12_begin 129 = .ok (.iconst (-1), 1) := by decide +kernel
theorem dX12_begin_130 : decode cX12_begin 130 = .ok (.if_icmp .ne 7, 3) := by decide +kernel
theorem dX12_begin_133 : decode cX12_begin 133 = .ok (.iconst 1, 1) := by decide +kernel
theorem dX12_begin_134 : decode cX12_begin 134 = .ok (.goto 4, 3) := by decide +kernel
theorem dX12_begin_137 : decode cX12_begin 137 = .ok (.iconst 0, 1) := by decide +kernel
theorem dX12_begin_138 : decode cX12_begin 138 = .ok (.iadd, 1) := by decide +kernel
theorem dX12_begin_139 : decode cX12_begin 139 = .ok (.iastore, 1) := by decide +kernel
theorem dX12_begin_140 : decode cX12_begin 140 = .ok (.goto 95, 3) := by decide +kernel
theorem dX12_begin_143 : decode cX12_begin 143 = .ok (.iload_n 3, 1) := by decide +kernel
theorem dX12_begin_144 : decode cX12_begin 144 = .ok (.bipush 24, 2) := by decide +kernel
theorem dX12_begin_146 : decode cX12_begin 146 = .ok (.if_icmp .ge 40, 3) := by decide +kernel
theorem dX12_begin_149 : decode cX12_begin 149 = .ok (.aload_n 0, 1) := by decide +kernel
theorem dX12_begin_150 : decode cX12_begin 150 = .ok (.getfield 133, 3) := by decide +kernel
theorem dX12_begin_153 : decode cX12_begin 153 = .ok (.iload_n 1, 1) := by decide +kernel
theorem dX12_begin_154 : decode cX12_begin 154 = .ok (.aload_n 0, 1) := by decide +kernel
theorem dX12_begin_155 : decode cX12_begin 155 = .ok (.iload_n 1, 1) := by decide +kernel
theorem dX12_begin_156 : decode cX12_begin 156 = .ok (.iload_n 3, 1) := by decide +kernel
theorem dX12_begin_157 : decode cX12_begin 157 = .ok (.iload 4, 2) := by decide +kernel
theorem dX12_begin_159 : decode cX12_begin 159 = .ok (.iload 5, 2) := by decide +kernel
theorem dX12_begin_161 : decode cX12_begin 161 = .ok (.invokevirtual 360, 3) := by decide +kernel
theorem dX12_begin_164 : decode cX12_begin 164 = .ok (.ifCond .eq 10, 3) := by decide +kernel
theorem dX12_begin_167 : decode cX12_begin 167 = .ok (.aload_n 0, 1) := by decide +kernel
theorem dX12_begin_168 : decode cX12_begin 168 = .ok (.getfield 363, 3) := by decide +kernel
theorem dX12_begin_171 : decode cX12_begin 171 = .ok (.goto 11, 3) := by decide +kernel
theorem dX12_begin_174 : decode cX12_begin 174 = .ok (.aload_n 0, 1) := by decide +kernel
theorem dX12_begin_175 : decode cX12_begin 175 = .ok (.getfield 133, 3) := by decide +kernel
theorem dX12_begin_178 : decode cX12_begin 178 = .ok (.iload_n 1, 1) := by decide +kernel
theorem dX12_begin_179 : decode cX12_begin 179 = .ok (.iaload, 1) := by decide +kernel
theorem dX12_begin_180 : decode cX12_begin 180 = .ok (.iconst 1, 1) := by decide +kernel
theorem dX12_begin_181 : decode cX12_begin 181 = .ok (.iadd, 1) := by decide +kernel
theorem dX12_begin_182 : decode cX12_begin 182 = .ok (.iastore, 1) := by decide +kernel
theorem dX12_begin_183 : decode cX12_begin 183 = .ok (.goto 52, 3) := by decide +kernel
theorem dX12_begin_186 : decode cX12_begin 186 = .ok (.iload_n 3, 1) := by decide +kernel
theorem dX12_begin_187 : decode cX12_begin 187 = .ok (.bipush 34, 2) := by decide +kernel
theorem dX12_begin_189 : decode cX12_begin 189 = .ok (.if_icmp .ge 38, 3) := by decide +kernel
theorem dX12_begin_192 : decode cX12_begin 192 = .ok (.aload_n 0, 1) := by decide +kernel
theorem dX12_begin_193 : decode cX12_begin 193 = .ok (.iload_n 1, 1) := by decide +kernel
theorem dX12_begin_194 : decode cX12_begin 194 = .ok (.iload_n 3, 1) := by decide +kernel
theorem dX12_begin_195 : decode cX12_begin 195 = .ok (.iload 4, 2) := by decide +kernel
theorem dX12_begin_197 : decode cX12_begin 197 = .ok (.iload 5, 2) := by decide +kernel
theorem dX12_begin_199 : decode cX12_begin 199 = .ok (.invokevirtual 366, 3) := by decide +kernel
theorem dX12_begin_202 : decode cX12_begin 202 = .ok (.aload_n 0, 1) := by decide +kernel
theorem dX12_begin_203 : decode cX12_begin 203 = .ok (.getfield 133, 3) := by decide +kernel
theorem dX12_begin_206 : decode cX12_begin 206 = .ok (.iload_n 1, 1) := by decide +kernel
theorem dX12_begin_207 : decode cX12_begin 207 = .ok (.dup2, 1) := by decide +kernel
theorem dX12_begin_208 : decode cX12_begin 208 = .ok (.iaload, 1) := by decide +kernel
theorem dX12_begin_209 : decode cX12_begin 209 = .ok (.aload_n 0, 1) := by decide +kernel
theorem dX12_begin_210 : decode cX12_begin 210 = .ok (.getfield 330, 3) := by decide +kernel
theorem dX12_begin_213 : decode cX12_begin 213 = .ok (.iconst (-1), 1) := by decide +kernel
theorem dX12_begin_214 : decode cX12_begin 214 = .ok (.if_icmp .ne 7, 3) := by decide +kernel
theorem dX12_begin_217 : decode cX12_begin 217 = .ok (.iconst 1, 1) := by decide +kernel
theorem dX12_begin_218 : decode cX12_begin 218 = .ok (.goto 4, 3) := by decide +kernel
theorem dX12_begin_221 : decode cX12_begin 221 = .ok (.iconst 0, 1) := by decide +kernel
theorem dX12_begin_222 : decode cX12_begin 222 = .ok (.iadd, 1) := by decide +kernel
theorem dX12_begin_223 : decode cX12_begin 223 = .ok (.iastore, 1) := by decide +kernel
theorem dX12_begin_224 : decode cX12_begin 224 = .ok (.goto 11, 3) := by decide +kernel
theorem dX12_begin_227 : decode cX12_begin 227 = .ok (.aload_n 0, 1) := by decide +kernel
theorem dX12_begin_228 : decode cX12_begin 228 = .ok (.iload_n 1, 1) := by decide +kernel
theorem dX12_begin_229 : decode cX12_begin 229 = .ok (.iload_n 3, 1) := by decide +kernel
theorem dX12_begin_230 : decode cX12_begin 230 = .ok (.iload 4, 2) := by decide +kernel
theorem dX12_begin_232 : decode cX12_begin 232 = .ok (.invokevirtual 369, 3) := by decide +kernel
theorem dX12_begin_235 : decode cX12_begin 235 = .ok (.return_, 1) := by decide +kernel
theorem dX12_cell_0 : decode cX12_cell 0 = .ok (.iload_n 1, 1) := by decide +kernel
theorem dX12_cell_1 : decode cX12_cell 1 = .ok (.i2l, 1) := by decide +kernel
theorem dX12_cell_2 : decode cX12_cell 2 = .ok (.lconst 0, 1) := by decide +kernel
theorem dX12_cell_3 : decode cX12_cell 3 = .ok (.aload_n 0, 1) := by decide +kernel
theorem dX12_cell_4 : decode cX12_cell 4 = .ok (.getfield 296, 3) := by decide +kernel
theorem dX12_cell_7 : decode cX12_cell 7 = .ok (.iconst 1, 1) := by decide +kernel
theorem dX12_cell_8 : decode cX12_cell 8 = .ok (.isub, 1) := by decide +kernel
theorem dX12_cell_9 : decode cX12_cell 9 = .ok (.i2l, 1) := by decide +kernel
theorem dX12_cell_10 : decode cX12_cell 10 = .ok (.invokestatic 151, 3) := by decide +kernel
theorem dX12_cell_13 : decode cX12_cell 13 = .ok (.ifCond .eq 37, 3) := by decide +kernel
theorem dX12_cell_16 : decode cX12_cell 16 = .ok (.iload_n 2, 1) := by decide +kernel
theorem dX12_cell_17 : decode cX12_cell 17 = .ok (.i2l, 1) := by decide +kernel
theorem dX12_cell_18 : decode cX12_cell 18 = .ok (.lconst 0, 1) := by decide +kernel
theorem dX12_cell_19 : decode cX12_cell 19 = .ok (.aload_n 0, 1) := by decide +kernel
theorem dX12_cell_20 : decode cX12_cell 20 = .ok (.getfield 118, 3) := by decide +kernel
theorem dX12_cell_23 : decode cX12_cell 23 = .ok (.iload_n 1, 1) := by decide +kernel
theorem dX12_cell_24 : decode cX12_cell 24 = .ok (.iaload, 1) := by decide +kernel
theorem dX12_cell_25 : decode cX12_cell 25 = .ok (.iconst 1, 1) := by decide +kernel
theorem dX12_cell_26 : decode cX12_cell 26 = .ok (.isub, 1) := by decide +kernel
theorem dX12_cell_27 : decode cX12_cell 27 = .ok (.i2l, 1) := by decide +kernel
theorem dX12_cell_28 : decode cX12_cell 28 = .ok (.invokestatic 151, 3) := by decide +kernel
theorem dX12_cell_31 : decode cX12_cell 31 = .ok (.ifCond .eq 19, 3) := by decide +kernel
theorem dX12_cell_34 : decode cX12_cell 34 = .ok (.aload_n 0, 1) := by decide +kernel
theorem dX12_cell_35 : decode cX12_cell 35 = .ok (.getfield 127, 3) := by decide +kernel
theorem dX12_cell_38 : decode cX12_cell 38 = .ok (.aload_n 0, 1) := by decide +kernel
theorem dX12_cell_39 : decode cX12_cell 39 = .ok (.getfield 124, 3) := by decide +kernel
theorem dX12_cell_42 : decode cX12_cell 42 = .ok (.iload_n 1, 1) := by decide +kernel
theorem dX12_cell_43 : decode cX12_cell 43 = .ok (.iaload, 1) := by decide +kernel
theorem dX12_cell_44 : decode cX12_cell 44 = .ok (.iload_n 2, 1) := by decide +kernel
theorem dX12_cell_45 : decode cX12_cell 45 = .ok (.iadd, 1) := by decide +kernel
theorem dX12_cell_46 : decode cX12_cell 46 = .ok (.laload, 1) := by decide +kernel
theorem dX12_cell_47 : decode cX12_cell 47 = .ok (.goto 6, 3) := by decide +kernel
theorem dX12_cell_50 : decode cX12_cell 50 = .ok (.ldc2_w 425, 3) := by decide +kernel
theorem dX12_cell_53 : decode cX12_cell 53 = .ok (.lreturn, 1) := by decide +kernel
theorem dX12_come_0 : decode cX12_come 0 = .ok (.bipush 60, 2) := by decide +kernel
theorem dX12_come_2 : decode cX12_come 2 = .ok (.iload_n 1, 1) := by decide +kernel
theorem dX12_come_3 : decode cX12_come 3 = .ok (.imul, 1) := by decide +kernel
theorem dX12_come_4 : decode cX12_come 4 = .ok (.iload_n 2, 1) := by decide +kernel
theorem dX12_come_5 : decode cX12_come 5 = .ok (.iadd, 1) := by decide +kernel
theorem dX12_come_6 : decode cX12_come 6 = .ok (.istore_n 3, 1) := by decide +kernel
theorem dX12_come_7 : decode cX12_come 7 = .ok (.aload_n 0, 1) := by decide +kernel
theorem dX12_come_8 : decode cX12_come 8 = .ok (.getfield 75, 3) := by decide +kernel
theorem dX12_come_11 : decode cX12_come 11 = .ok (.iload_n 3, 1) := by decide +kernel
theorem dX12_come_12 : decode cX12_come 12 = .ok (.baload, 1) := by decide +kernel
theorem dX12_come_13 : decode cX12_come 13 = .ok (.ifCond .ne 101, 3) := by decide +kernel
theorem dX12_come_16 : decode cX12_come 16 = .ok (.aload_n 0, 1) := by decide +kernel
theorem dX12_come_17 : decode cX12_come 17 = .ok (.getfield 75, 3) := by decide +kernel
theorem dX12_come_20 : decode cX12_come 20 = .ok (.iload_n 3, 1) := by decide +kernel
theorem dX12_come_21 : decode cX12_come 21 = .ok (.iconst 1, 1) := by decide +kernel
theorem dX12_come_22 : decode cX12_come 22 = .ok (.bastore, 1) := by decide +kernel
theorem dX12_come_23 : decode cX12_come 23 = .ok (.aload_n 0, 1) := by decide +kernel
theorem dX12_come_24 : decode cX12_come 24 = .ok (.getfield 81, 3) := by decide +kernel
theorem dX12_come_27 : decode cX12_come 27 = .ok (.iload_n 3, 1) := by decide +kernel
theorem dX12_come_28 : decode cX12_come 28 = .ok (.aload_n 0, 1) := by decide +kernel
theorem dX12_come_29 : decode cX12_come 29 = .ok (.getfield 212, 3) := by decide +kernel
theorem dX12_come_32 : decode cX12_come 32 = .ok (.iastore, 1) := by decide +kernel
theorem dX12_come_33 : decode cX12_come 33 = .ok (.iconst 0, 1) := by decide +kernel
theorem dX12_come_34 : decode cX12_come 34 = .ok (.istore 4, 2) := by decide +kernel
theorem dX12_come_36 : decode cX12_come 36 = .ok (.iload 4, 2) := by decide +kernel
theorem dX12_come_38 : decode cX12_come 38 = .ok (.aload_n 0, 1) := by decide +kernel
theorem dX12_come_39 : decode cX12_come 39 = .ok (.getfield 212, 3) := by decide +kernel
theorem dX12_come_42 : decode cX12_come 42 = .ok (.if_icmp .ge 28, 3) := by decide +kernel
theorem dX12_come_45 : decode cX12_come 45 = .ok (.aload_n 0, 1) := by decide +kernel
theorem dX12_come_46 : decode cX12_come 46 = .ok (.getfield 84, 3) := by decide +kernel
theorem dX12_come_49 : decode cX12_come 49 = .ok (.bipush 12, 2) := by decide +kernel
theorem dX12_come_51 : decode cX12_come 51 = .ok (.iload_n 3, 1) := by decide +kernel
theorem dX12_come_52 : decode cX12_come 52 = .ok (.imul, 1) := by decide +kernel
theorem dX12_come_53 : decode cX12_come 53 = .ok (.iload 4, 2) := by decide +kernel
theorem dX12_come_55 : decode cX12_come 55 = .ok (.iadd, 1) := by decide +kernel
theorem dX12_come_56 : decode cX12_come 56 = .ok (.aload_n 0, 1) := by decide +kernel
theorem dX12_come_57 : decode cX12_come 57 = .ok (.getfield 90, 3) := by decide +kernel
theorem dX12_come_60 : decode cX12_come 60 = .ok (.iload 4, 2) := by decide +kernel
theorem dX12_come_62 : decode cX12_come 62 = .ok (.iaload, 1) := by decide +kernel
theorem dX12_come_63 : decode cX12_come 63 = .ok (.iastore, 1) := by decide +kernel
theorem dX12_come_64 : decode cX12_come 64 = .ok (.iinc 4 1, 3) := by decide +kernel
theorem dX12_come_67 : decode cX12_come 67 = .ok (.goto (-31), 3) := by decide +kernel
theorem dX12_come_70 : decode cX12_come 70 = .ok (.iconst 0, 1) := by decide +kernel
theorem dX12_come_71 : decode cX12_come 71 = .ok (.istore 4, 2) := by decide +kernel
theorem dX12_come_73 : decode cX12_come 73 = .ok (.iload 4, 2) := by decide +kernel
theorem dX12_come_75 : decode cX12_come 75 = .ok (.bipush 16, 2) := by decide +kernel
theorem dX12_come_77 : decode cX12_come 77 = .ok (.if_icmp .ge 28, 3) := by decide +kernel
theorem dX12_come_80 : decode cX12_come 80 = .ok (.aload_n 0, 1) := by decide +kernel
theorem dX12_come_81 : decode cX12_come 81 = .ok (.getfield 87, 3) := by decide +kernel
theorem dX12_come_84 : decode cX12_come 84 = .ok (.bipush 16, 2) := by decide +kernel
theorem dX12_come_86 : decode cX12_come 86 = .ok (.iload_n 3, 1) := by decide +kernel
theorem dX12_come_87 : decode cX12_come 87 = .ok (.imul, 1) := by decide +kernel
theorem dX12_come_88 : decode cX12_come 88 = .ok (.iload 4, 2) := by decide +kernel
theorem dX12_come_90 : decode cX12_come 90 = .ok (.iadd, 1) := by decide +kernel
theorem dX12_come_91 : decode cX12_come 91 = .ok (.aload_n 0, 1) := by decide +kernel
theorem dX12_come_92 : decode cX12_come 92 = .ok (.getfield 93, 3) := by decide +kernel
theorem dX12_come_95 : decode cX12_come 95 = .ok (.iload 4, 2) := by decide +kernel
theorem dX12_come_97 : decode cX12_come 97 = .ok (.iaload, 1) := by decide +kernel
theorem dX12_come_98 : decode cX12_come 98 = .ok (.iastore, 1) := by decide +kernel
theorem dX12_come_99 : decode cX12_come 99 = .ok (.iinc 4 1, 3) := by decide +kernel
theorem dX12_come_102 : decode cX12_come 102 = .ok (.goto (-29), 3) := by decide +kernel
theorem dX12_come_105 : decode cX12_come 105 = .ok (.aload_n 0, 1) := by decide +kernel
theorem dX12_come_106 : decode cX12_come 106 = .ok (.getfield 78, 3) := by decide +kernel
theorem dX12_come_109 : decode cX12_come 109 = .ok (.iload_n 2, 1) := by decide +kernel
theorem dX12_come_110 : decode cX12_come 110 = .ok (.iconst 1, 1) := by decide +kernel
theorem dX12_come_111 : decode cX12_come 111 = .ok (.bastore, 1) := by decide +kernel
theorem dX12_come_112 : decode cX12_come 112 = .ok (.iconst 0, 1) := by decide +kernel
theorem dX12_come_113 : decode cX12_come 113 = .ok (.ireturn, 1) := by decide +kernel
theorem dX12_come_114 : decode cX12_come 114 = .ok (.aload_n 0, 1) := by decide +kernel
theorem dX12_come_115 : decode cX12_come 115 = .ok (.getfield 81, 3) := by decide +kernel
theorem dX12_come_118 : decode cX12_come 118 = .ok (.iload_n 3, 1) := by decide +kernel
theorem dX12_come_119 : decode cX12_come 119 = .ok (.iaload, 1) := by decide +kernel
theorem dX12_come_120 : decode cX12_come 120 = .ok (.aload_n 0, 1) := by decide +kernel
theorem dX12_come_121 : decode cX12_come 121 = .ok (.getfield 212, 3) := by decide +kernel
theorem dX12_come_124 : decode cX12_come 124 = .ok (.if_icmp .ne 7, 3) := by decide +kernel
theorem dX12_come_127 : decode cX12_come 127 = .ok (.iconst 1, 1) := by decide +kernel
theorem dX12_come_128 : decode cX12_come 128 = .ok (.goto 4, 3) := by decide +kernel
theorem dX12_come_131 : decode cX12_come 131 = .ok (.iconst 0, 1) := by decide +kernel
theorem dX12_come_132 : decode cX12_come 132 = .ok (.istore 4, 2) := by decide +kernel
theorem dX12_come_134 : decode cX12_come 134 = .ok (.iconst 0, 1) := by decide +kernel
theorem dX12_come_135 : decode cX12_come 135 = .ok (.istore 5, 2) := by decide +kernel
theorem dX12_come_137 : decode cX12_come 137 = .ok (.iload 5, 2) := by decide +kernel
theorem dX12_come_139 : decode cX12_come 139 = .ok (.aload_n 0, 1) := by decide +kernel
theorem dX12_come_140 : decode cX12_come 140 = .ok (.getfield 212, 3) := by decide +kernel
theorem dX12_come_143 : decode cX12_come 143 = .ok (.if_icmp .ge 43, 3) := by decide +kernel
theorem dX12_come_146 : decode cX12_come 146 = .ok (.iload 4, 2) := by decide +kernel
theorem dX12_come_148 : decode cX12_come 148 = .ok (.ifCond .eq 38, 3) := by decide +kernel
theorem dX12_come_151 : decode cX12_come 151 = .ok (.aload_n 0, 1) := by decide +kernel
theorem dX12_come_152 : decode cX12_come 152 = .ok (.getfield 84, 3) := by decide +kernel
theorem dX12_come_155 : decode cX12_come 155 = .ok (.bipush 12, 2) := by decide +kernel
theorem dX12_come_157 : decode cX12_come 157 = .ok (.iload_n 3, 1) := by decide +kernel
theorem dX12_come_158 : decode cX12_come 158 = .ok (.imul, 1) := by decide +kernel
theorem dX12_come_159 : decode cX12_come 159 = .ok (.iload 5, 2) := by decide +kernel
theorem dX12_come_161 : decode cX12_come 161 = .ok (.iadd, 1) := by decide +kernel
theorem dX12_come_162 : decode cX12_come 162 = .ok (.iaload, 1) := by decide +kernel
theorem dX12_come_163 : decode cX12_come 163 = .ok (.aload_n 0, 1) := by decide +kernel
theorem dX12_come_164 : decode cX12_come 164 = .ok (.getfield 90, 3) := by decide +kernel
theorem dX12_come_167 : decode cX12_come 167 = .ok (.iload 5, 2) := by decide +kernel
theorem dX12_come_169 : decode cX12_come 169 = .ok (.iaload, 1) := by decide +kernel
theorem dX12_come_170 : decode cX12_come 170 = .ok (.if_icmp .ne 7, 3) := by decide +kernel
theorem dX12_come_173 : decode cX12_come 173 = .ok (.iconst 1, 1) := by decide +kernel
theorem dX12_come_174 : decode cX12_come 174 = .ok (.goto 4, 3) := by decide +kernel
theorem dX12_come_177 : decode cX12_come 177 = .ok (.iconst 0, 1) := by decide +kernel
theorem dX12_come_178 : decode cX12_come 178 = .ok (.istore 4, 2) := by decide +kernel
theorem dX12_come_180 : decode cX12_come 180 = .ok (.iinc 5 1, 3) := by decide +kernel
theorem dX12_come_183 : decode cX12_come 183 = .ok (.goto (-46), 3) := by decide +kernel
theorem dX12_come_186 : decode cX12_come 186 = .ok (.iload 4, 2) := by decide +kernel
theorem dX12_come_188 : decode cX12_come 188 = .ok (.ifCond .ne 6, 3) := by decide +kernel
theorem dX12_come_191 : decode cX12_come 191 = .ok (.bipush 6, 2) := by decide +kernel
theorem dX12_come_193 : decode cX12_come 193 = .ok (.ireturn, 1) := by decide +kernel
theorem dX12_come_194 : decode cX12_come 194 = .ok (.iconst 0, 1) := by decide +kernel
theorem dX12_come_195 : decode cX12_come 195 = .ok (.istore 5, 2) := by decide +kernel
theorem dX12_come_197 : decode cX12_come 197 = .ok (.iconst 0, 1) := by decide +kernel
theorem dX12_come_198 : decode cX12_come 198 = .ok (.istore 6, 2) := by decide +kernel
theorem dX12_come_200 : decode cX12_come 200 = .ok (.iload 6, 2) := by decide +kernel
theorem dX12_come_202 : decode cX12_come 202 = .ok (.bipush 16, 2) := by decide +kernel
theorem dX12_come_204 : decode cX12_come 204 = .ok (.if_icmp .ge 57, 3) := by decide +kernel
theorem dX12_come_207 : decode cX12_come 207 = .ok (.aload_n 0, 1) := by decide +kernel
theorem dX12_come_208 : decode cX12_come 208 = .ok (.getfield 87, 3) := by decide +kernel
theorem dX12_come_211 : decode cX12_come 211 = .ok (.bipush 16, 2) := by decide +kernel
theorem dX12_come_213 : decode cX12_come 213 = .ok (.iload_n 3, 1) := by decide +kernel
theorem dX12_come_214 : decode cX12_come 214 = .ok (.imul, 1) := by decide +kernel
theorem dX12_come_215 : decode cX12_come 215 = .ok (.iload 6, 2) := by decide +kernel
theorem dX12_come_217 : decode cX12_come 217 = .ok (.iadd, 1) := by decide +kernel
theorem dX12_come_218 : decode cX12_come 218 = .ok (.iaload, 1) := by decide +kernel
theorem dX12_come_219 : decode cX12_come 219 = .ok (.istore 7, 2) := by decide +kernel
theorem dX12_come_221 : decode cX12_come 221 = .ok (.iload 7, 2) := by decide +kernel
theorem dX12_come_223 : decode cX12_come 223 = .ok (.iconst 5, 1) := by decide +kernel
theorem dX12_come_224 : decode cX12_come 224 = .ok (.if_icmp .eq 31, 3) := by decide +kernel
theorem dX12_come_227 : decode cX12_come 227 = .ok (.iload 7, 2) := by decide +kernel
theorem dX12_come_229 : decode cX12_come 229 = .ok (.aload_n 0, 1) := by decide +kernel
theorem dX12_come_230 : decode cX12_come 230 = .ok (.getfield 93, 3) := by decide +kernel
theorem dX12_come_233 : decode cX12_come 233 = .ok (.iload 6, 2) := by decide +kernel
theorem dX12_come_235 : decode cX12_come 235 = .ok (.iaload, 1) := by decide +kernel
theorem dX12_come_236 : decode cX12_come 236 = .ok (.if_icmp .eq 19, 3) := by decide +kernel
theorem dX12_come_239 : decode cX12_come 239 = .ok (.aload_n 0, 1) := by decide +kernel
theorem dX12_come_240 : decode cX12_come 240 = .ok (.getfield 87, 3) := by decide +kernel
theorem dX12_come_243 : decode cX12_come 243 = .ok (.bipush 16, 2) := by decide +kernel
theorem dX12_come_245 : decode cX12_come 245 = .ok (.iload_n 3, 1) := by decide +kernel
theorem dX12_come_246 : decode cX12_come 246 = .ok (.imul, 1) := by decide +kernel
theorem dX12_come_247 : decode cX12_come 247 = .ok (.iload 6, 2) := by decide +kernel
theorem dX12_come_249 : decode cX12_come 249 = .ok (.iadd, 1) := by decide +kernel
theorem dX12_come_250 : decode cX12_come 250 = .ok (.iconst 5, 1) := by decide +kernel
theorem dX12_come_251 : decode cX12_come 251 = .ok (.iastore, 1) := by decide +kernel
theorem dX12_come_252 : decode cX12_come 252 = .ok (.iconst 1, 1) := by decide +kernel
theorem dX12_come_253 : decode cX12_come 253 = .ok (.istore 5, 2) := by decide +kernel
theorem dX12_come_255 : decode cX12_come 255 = .ok (.iinc 6 1, 3) := by decide +kernel
theorem dX12_come_258 : decode cX12_come 258 = .ok (.goto (-58), 3) := by decide +kernel
theorem dX12_come_261 : decode cX12_come 261 = .ok (.iconst 0, 1) := by decide +kernel
theorem dX12_come_262 : decode cX12_come 262 = .ok (.istore 6, 2) := by decide +kernel
theorem dX12_come_264 : decode cX12_come 264 = .ok (.iload 6, 2) := by decide +kernel
theorem dX12_come_266 : decode cX12_come 266 = .ok (.bipush 16, 2) := by decide +kernel
theorem dX12_come_268 : decode cX12_come 268 = .ok (.if_icmp .ge 155, 3) := by decide +kernel
theorem dX12_come_271 : decode cX12_come 271 = .ok (.aload_n 0, 1) := by decide +kernel
theorem dX12_come_272 : decode cX12_come 272 = .ok (.getfield 87, 3) := by decide +kernel
theorem dX12_come_275 : decode cX12_come 275 = .ok (.bipush 16, 2) := by decide +kernel
theorem dX12_come_277 : decode cX12_come 277 = .ok (.iload_n 3, 1) := by decide +kernel
theorem dX12_come_278 : decode cX12_come 278 = .ok (.imul, 1) := by decide +kernel
theorem dX12_come_279 : decode cX12_come 279 = .ok (.iload 6, 2) := by decide +kernel
theorem dX12_come_281 : decode cX12_come 281 = .ok (.iadd, 1) := by decide +kernel
theorem dX12_come_282 : decode cX12_come 282 = .ok (.iaload, 1) := by decide +kernel
theorem dX12_come_283 : decode cX12_come 283 = .ok (.istore 7, 2) := by decide +kernel
theorem dX12_come_285 : decode cX12_come 285 = .ok (.iload 6, 2) := by decide +kernel
theorem dX12_come_287 : decode cX12_come 287 = .ok (.bipush 15, 2) := by decide +kernel
theorem dX12_come_289 : decode cX12_come 289 = .ok (.if_icmp .ge 20, 3) := by decide +kernel
theorem dX12_come_292 : decode cX12_come 292 = .ok (.aload_n 0, 1) := by decide +kernel
theorem dX12_come_293 : decode cX12_come 293 = .ok (.getfield 87, 3) := by decide +kernel
theorem dX12_come_296 : decode cX12_come 296 = .ok (.bipush 16, 2) := by decide +kernel
theorem dX12_come_298 : decode cX12_come 298 = .ok (.iload_n 3, 1) := by decide +kernel
theorem dX12_come_299 : decode cX12_come 299 = .ok (.imul, 1) := by decide +kernel
theorem dX12_come_300 : decode cX12_come 300 = .ok (.iload 6, 2) := by decide +kernel
theorem dX12_come_302 : decode cX12_come 302 = .ok (.iadd, 1) := by decide +kernel
theorem dX12_come_303 : decode cX12_come 303 = .ok (.iconst 1, 1) := by decide +kernel
theorem dX12_come_304 : decode cX12_come 304 = .ok (.iadd, 1) := by decide +kernel
theorem dX12_come_305 : decode cX12_come 305 = .ok (.iaload, 1) := by decide +kernel
theorem dX12_come_306 : decode cX12_come 306 = .ok (.goto 4, 3) := by decide +kernel
theorem dX12_come_309 : decode cX12_come 309 = .ok (.iconst 5, 1) := by decide +kernel
theorem dX12_come_310 : decode cX12_come 310 = .ok (.istore 8, 2) := by decide +kernel
theorem dX12_come_312 : decode cX12_come 312 = .ok (.iload 6, 2) := by decide +kernel
theorem dX12_come_314 : decode cX12_come 314 = .ok (.ifCond .le 20, 3) := by decide +kernel
theorem dX12_come_317 : decode cX12_come 317 = .ok (.aload_n 0, 1) := by decide +kernel
theorem dX12_come_318 : decode cX12_come 318 = .ok (.getfield 87, 3) := by decide +kernel
theorem dX12_come_321 : decode cX12_come 321 = .ok (.bipush 16, 2) := by decide +kernel
theorem dX12_come_323 : decode cX12_come 323 = .ok (.iload_n 3, 1) := by decide +kernel
theorem dX12_come_324 : decode cX12_come 324 = .ok (.imul, 1) := by decide +kernel
theorem dX12_come_325 : decode cX12_come 325 = .ok (.iload 6, 2) := by decide +kernel
theorem dX12_come_327 : decode cX12_come 327 = .ok (.iadd, 1) := by decide +kernel
theorem dX12_come_328 : decode cX12_come 328 = .ok (.iconst 1, 1) := by decide +kernel
theorem dX12_come_329 : decode cX12_come 329 = .ok (.isub, 1) := by decide +kernel
theorem dX12_come_330 : decode cX12_come 330 = .ok (.iaload, 1) := by decide +kernel
theorem dX12_come_331 : decode cX12_come 331 = .ok (.goto 4, 3) := by decide +kernel
theorem dX12_come_334 : decode cX12_come 334 = .ok (.iconst 5, 1) := by decide +kernel
theorem dX12_come_335 : decode cX12_come 335 = .ok (.istore 9, 2) := by decide +kernel
theorem dX12_come_337 : decode cX12_come 337 = .ok (.iload 7, 2) := by decide +kernel
theorem dX12_come_339 : decode cX12_come 339 = .ok (.iconst 1, 1) := by decide +kernel
theorem dX12_come_340 : decode cX12_come 340 = .ok (.if_icmp .ne 10, 3) := by decide +kernel
theorem dX12_come_343 : decode cX12_come 343 = .ok (.iload 8, 2) := by decide +kernel
theorem dX12_come_345 : decode cX12_come 345 = .ok (.bipush 6, 2) := by decide +kernel
theorem dX12_come_347 : decode cX12_come 347 = .ok (.if_icmp .ne 42, 3) := by decide +kernel
theorem dX12_come_350 : decode cX12_come 350 = .ok (.iload 7, 2) := by decide +kernel
theorem dX12_come_352 : decode cX12_come 352 = .ok (.iconst 3, 1) := by decide +kernel
theorem dX12_come_353 : decode cX12_come 353 = .ok (.if_icmp .ne 10, 3) := by decide +kernel
theorem dX12_come_356 : decode cX12_come 356 = .ok (.iload 8, 2) := by decide +kernel
theorem dX12_come_358 : decode cX12_come 358 = .ok (.bipush 7, 2) := by decide +kernel
theorem dX12_come_360 : decode cX12_come 360 = .ok (.if_icmp .ne 29, 3) := by decide +kernel
theorem dX12_come_363 : decode cX12_come 363 = .ok (.iload 7, 2) := by decide +kernel
theorem dX12_come_365 : decode cX12_come 365 = .ok (.bipush 6, 2) := by decide +kernel
theorem dX12_come_367 : decode cX12_come 367 = .ok (.if_icmp .ne 9, 3) := by decide +kernel
theorem dX12_come_370 : decode cX12_come 370 = .ok (.iload 9, 2) := by decide +kernel
theorem dX12_come_372 : decode cX12_come 372 = .ok (.iconst 1, 1) := by decide +kernel
theorem dX12_come_373 : decode cX12_come 373 = .ok (.if_icmp .ne 16, 3) := by decide +kernel
theorem dX12_come_376 : decode cX12_come 376 = .ok (.iload 7, 2) := by decide +kernel
theorem dX12_come_378 : decode cX12_come 378 = .ok (.bipush 7, 2) := by decide +kernel
theorem dX12_come_380 : decode cX12_come 380 = .ok (.if_icmp .ne 13, 3) := by decide +kernel
theorem dX12_come_383 : decode cX12_come 383 = .ok (.iload 9, 2) := by decide +kernel
theorem dX12_come_385 : decode cX12_come 385 = .ok (.iconst 3, 1) := by decide +kernel
theorem dX12_come_386 : decode cX12_come 386 = .ok (.if_icmp .eq 7, 3) := by decide +kernel
theorem dX12_come_389 : decode cX12_come 389 = .ok (.iconst 1, 1) := by decide +kernel
theorem dX12_come_390 : decode cX12_come 390 = .ok (.goto 4, 3) := by decide +kernel
theorem dX12_come_393 : decode cX12_come 393 = .ok (.iconst 0, 1) := by decide +kernel
theorem dX12_come_394 : decode cX12_come 394 = .ok (.istore 10, 2) := by decide +kernel
theorem dX12_come_396 : decode cX12_come 396 = .ok (.iload 10, 2) := by decide +kernel
theorem dX12_come_398 : decode cX12_come 398 = .ok (.ifCond .eq 19, 3) := by decide +kernel
theorem dX12_come_401 : decode cX12_come 401 = .ok (.aload_n 0, 1) := by decide +kernel
theorem dX12_come_402 : decode cX12_come 402 = .ok (.getfield 87, 3) := by decide +kernel
theorem dX12_come_405 : decode cX12_come 405 = .ok (.bipush 16, 2) := by decide +kernel
theorem dX12_come_407 : decode cX12_come 407 = .ok (.iload_n 3, 1) := by decide +kernel
theorem dX12_come_408 : decode cX12_come 408 = .ok (.imul, 1) := by decide +kernel
theorem dX12_come_409 : decode cX12_come 409 = .ok (.iload 6, 2) := by decide +kernel
theorem dX12_come_411 : decode cX12_come 411 = .ok (.iadd, 1) := by decide +kernel
theorem dX12_come_412 : decode cX12_come 412 = .ok (.iconst 5, 1) := by decide +kernel
theorem dX12_come_413 : decode cX12_come 413 = .ok (.iastore, 1) := by decide +kernel
theorem dX12_come_414 : decode cX12_come 414 = .ok (.iconst 1, 1) := by decide +kernel
theorem dX12_come_415 : decode cX12_come 415 = .ok (.istore 5, 2) := by decide +kernel
theorem dX12_come_417 : decode cX12_come 417 = .ok (.iinc 6 1, 3) := by decide +kernel
theorem dX12_come_420 : decode cX12_come 420 = .ok (.goto (-156), 3) := by decide +kernel
theorem dX12_come_423 : decode cX12_come 423 = .ok (.aload_n 0, 1) := by decide +kernel
theorem dX12_come_424 : decode cX12_come 424 = .ok (.getfield 78, 3) := by decide +kernel
theorem dX12_come_427 : decode cX12_come 427 = .ok (.iload_n 2, 1) := by decide +kernel
theorem dX12_come_428 : decode cX12_come 428 = .ok (.aload_n 0, 1) := by decide +kernel
theorem dX12_come_429 : decode cX12_come 429 = .ok (.getfield 78, 3) := by decide +kernel
theorem dX12_come_432 : decode cX12_come 432 = .ok (.iload_n 2, 1) := by decide +kernel
theorem dX12_come_433 : decode cX12_come 433 = .ok (.baload, 1) := by decide +kernel
theorem dX12_come_434 : decode cX12_come 434 = .ok (.ifCond .ne 8, 3) := by decide +kernel
theorem dX12_come_437 : decode cX12_come 437 = .ok (.iload 5, 2) := by decide +kernel
theorem dX12_come_439 : decode cX12_come 439 = .ok (.ifCond .eq 7, 3) := by decide +kernel
theorem dX12_come_442 : decode cX12_come 442 = .ok (.iconst 1, 1) := by decide +kernel
theorem dX12_come_443 : decode cX12_come 443 = .ok (.goto 4, 3) := by decide +kernel
theorem dX12_come_446 : decode cX12_come 446 = .ok (.iconst 0, 1) := by decide +kernel
theorem dX12_come_447 : decode cX12_come 447 = .ok (.bastore, 1) := by decide +kernel
theorem dX12_come_448 : decode cX12_come 448 = .ok (.iconst 0, 1) := by decide +kernel
theorem dX12_come_449 : decode cX12_come 449 = .ok (.ireturn, 1) := by decide +kernel
theorem dX12_constant_0 : decode cX12_constant 0 = .ok (.aload_n 0, 1) := by decide +kernel
theorem dX12_constant_1 : decode cX12_constant 1 = .ok (.getfield 184, 3) := by decide +kernel
theorem dX12_constant_4 : decode cX12_constant 4 = .ok (.bipush 40, 2) := by decide +kernel
theorem dX12_constant_6 : decode cX12_constant 6 = .ok (.if_icmp .ne 6, 3) := by decide +kernel
theorem dX12_constant_9 : decode cX12_constant 9 = .ok (.bipush (-4), 2) := by decide +kernel
theorem dX12_constant_11 : decode cX12_constant 11 = .ok (.ireturn, 1) := by decide +kernel
theorem dX12_constant_12 : decode cX12_constant 12 = .ok (.aload_n 0, 1) := by decide +kernel
theorem dX12_constant_13 : decode cX12_constant 13 = .ok (.invokevirtual 157, 3) := by decide +kernel
theorem dX12_constant_16 : decode cX12_constant 16 = .ok (.aload_n 0, 1) := by decide +kernel
theorem dX12_constant_17 : decode cX12_constant 17 = .ok (.getfield 53, 3) := by decide +kernel
theorem dX12_constant_20 : decode cX12_constant 20 = .ok (.aload_n 0, 1) := by decide +kernel
theorem dX12_constant_21 : decode cX12_constant 21 = .ok (.getfield 184, 3) := by decide +kernel
theorem dX12_constant_24 : decode cX12_constant 24 = .ok (.lload_n 1, 1) := by decide +kernel
theorem dX12_constant_25 : decode cX12_constant 25 = .ok (.lastore, 1) := by decide +kernel
theorem dX12_constant_26 : decode cX12_constant 26 = .ok (.aload_n 0, 1) := by decide +kernel
theorem dX12_constant_27 : decode cX12_constant 27 = .ok (.dup, 1) := by decide +kernel
theorem dX12_constant_28 : decode cX12_constant 28 = .ok (.getfield 184, 3) := by decide +kernel
theorem dX12_constant_31 : decode cX12_constant 31 = .ok (.iconst 1, 1) := by decide +kernel
theorem dX12_constant_32 : decode cX12_constant 32 = .ok (.iadd, 1) := by decide +kernel
theorem dX12_constant_33 : decode cX12_constant 33 = .ok (.putfield 184, 3) := by decide +kernel
theorem dX12_constant_36 : decode cX12_constant 36 = .ok (.aload_n 0, 1) := by decide +kernel
theorem dX12_constant_37 : decode cX12_constant 37 = .ok (.getfield 184, 3) := by decide +kernel
theorem dX12_constant_40 : decode cX12_constant 40 = .ok (.iconst 1, 1) := by decide +kernel
theorem dX12_constant_41 : decode cX12_constant 41 = .ok (.isub, 1) := by decide +kernel
theorem dX12_constant_42 : decode cX12_constant 42 = .ok (.ireturn, 1) := by decide +kernel
theorem dX12_isWhole_0 : decode cX12_isWhole 0 = .ok (.aload_n 0, 1) := by decide +kernel
theorem dX12_isWhole_1 : decode cX12_isWhole 1 = .ok (.getfield 212, 3) := by decide +kernel
theorem dX12_isWhole_4 : decode cX12_isWhole 4 = .ok (.iload_n 1, 1) := by decide +kernel
theorem dX12_isWhole_5 : decode cX12_isWhole 5 = .ok (.if_icmp .lt 23, 3) := by decide +kernel
theorem dX12_isWhole_8 : decode cX12_isWhole 8 = .ok (.aload_n 0, 1) := by decide +kernel
theorem dX12_isWhole_9 : decode cX12_isWhole 9 = .ok (.getfield 90, 3) := by decide +kernel
theorem dX12_isWhole_12 : decode cX12_isWhole 12 = .ok (.aload_n 0, 1) := by decide +kernel
theorem dX12_isWhole_13 : decode cX12_isWhole 13 = .ok (.getfield 212, 3) := by decide +kernel
theorem dX12_isWhole_16 : decode cX12_isWhole 16 = .ok (.iload_n 1, 1) := by decide +kernel
theorem dX12_isWhole_17 : decode cX12_isWhole 17 = .ok (.isub, 1) := by decide +kernel
theorem dX12_isWhole_18 : decode cX12_isWhole 18 = .ok (.iaload, 1) := by decide +kernel
theorem dX12_isWhole_19 : decode cX12_isWhole 19 = .ok (.bipush 6, 2) := by decide +kernel
theorem dX12_isWhole_21 : decode cX12_isWhole 21 = .ok (.if_icmp .ge 7, 3) := by decide +kernel
theorem dX12_isWhole_24 : decode cX12_isWhole 24 = .ok (.iconst 1, 1) := by decide +kernel
theorem dX12_isWhole_25 : decode cX12_isWhole 25 = .ok (.goto 4, 3) := by decide +kernel
theorem dX12_isWhole_28 : decode cX12_isWhole 28 = .ok (.iconst 0, 1) := by decide +kernel
theorem dX12_isWhole_29 : decode cX12_isWhole 29 = .ok (.ireturn, 1) := by decide +kernel
theorem dX12_copies_0 : decode cX12_copies 0 = .ok (.aload_n 0, 1) := by decide +kernel
theorem dX12_copies_1 : decode cX12_copies 1 = .ok (.iload_n 1, 1) := by decide +kernel
theorem dX12_copies_2 : decode cX12_copies 2 = .ok (.invokevirtual 215, 3) := by decide +kernel
theorem dX12_copies_5 : decode cX12_copies 5 = .ok (.ifCond .eq 13, 3) := by decide +kernel
theorem dX12_copies_8 : decode cX12_copies 8 = .ok (.aload_n 0, 1) := by decide +kernel
theorem dX12_copies_9 : decode cX12_copies 9 = .ok (.iload_n 1, 1) := by decide +kernel
theorem dX12_copies_10 : decode cX12_copies 10 = .ok (.iload_n 2, 1) := by decide +kernel
theorem dX12_copies_11 : decode cX12_copies 11 = .ok (.iadd, 1) := by decide +kernel
theorem dX12_copies_12 : decode cX12_copies 12 = .ok (.invokevirtual 215, 3) := by decide +kernel
theorem dX12_copies_15 : decode cX12_copies 15 = .ok (.ifCond .ne 5, 3) := by decide +kernel
theorem dX12_copies_18 : decode cX12_copies 18 = .ok (.iconst 0, 1) := by decide +kernel
theorem dX12_copies_19 : decode cX12_copies 19 = .ok (.ireturn, 1) := by decide +kernel
theorem dX12_copies_20 : decode cX12_copies 20 = .ok (.iconst 0, 1) := by decide +kernel
theorem dX12_copies_21 : decode cX12_copies 21 = .ok (.istore_n 3, 1) := by decide +kernel
theorem dX12_copies_22 : decode cX12_copies 22 = .ok (.iload_n 3, 1) := by decide +kernel
theorem dX12_copies_23 : decode cX12_copies 23 = .ok (.iload_n 1, 1) := by decide +kernel
theorem dX12_copies_24 : decode cX12_copies 24 = .ok (.if_icmp .ge 33, 3) := by decide +kernel
theorem dX12_copies_27 : decode cX12_copies 27 = .ok (.aload_n 0, 1) := by decide +kernel
theorem dX12_copies_28 : decode cX12_copies 28 = .ok (.getfield 90, 3) := by decide +kernel
theorem dX12_copies_31 : decode cX12_copies 31 = .ok (.aload_n 0, 1) := by decide +kernel
theorem dX12_copies_32 : decode cX12_copies 32 = .ok (.getfield 212, 3) := by decide +kernel
theorem dX12_copies_35 : decode cX12_copies 35 = .ok (.iload_n 3, 1) := by decide +kernel
theorem dX12_copies_36 : decode cX12_copies 36 = .ok (.iadd, 1) := by decide +kernel
theorem dX12_copies_37 : decode cX12_copies 37 = .ok (.aload_n 0, 1) := by decide +kernel
theorem dX12_copies_38 : decode cX12_copies 38 = .ok (.getfield 90, 3) := by decide +kernel
theorem dX12_copies_41 : decode cX12_copies 41 = .ok (.aload_n 0, 1) := by decide +kernel
theorem dX12_copies_42 : decode cX12_copies 42 = .ok (.getfield 212, 3) := by decide +kernel
theorem dX12_copies_45 : decode cX12_copies 45 = .ok (.iload_n 1, 1) := by decide +kernel
theorem dX12_copies_46 : decode cX12_copies 46 = .ok (.isub, 1) := by decide +kernel
theorem dX12_copies_47 : decode cX12_copies 47 = .ok (.iload_n 3, 1) := by decide +kernel
theorem dX12_copies_48 : decode cX12_copies 48 = .ok (.iadd, 1) := by decide +kernel
theorem dX12_copies_49 : decode cX12_copies 49 = .ok (.iaload, 1) := by decide +kernel
theorem dX12_copies_50 : decode cX12_copies 50 = .ok (.iastore, 1) := by decide +kernel
theorem dX12_copies_51 : decode cX12_copies 51 = .ok (.iinc 3 1, 3) := by decide +kernel
theorem dX12_copies_54 : decode cX12_copies 54 = .ok (.goto (-32), 3) := by decide +kernel
theorem dX12_copies_57 : decode cX12_copies 57 = .ok (.iconst 0, 1) := by decide +kernel
theorem dX12_copies_58 : decode cX12_copies 58 = .ok (.istore_n 3, 1) := by decide +kernel
theorem dX12_copies_59 : decode cX12_copies 59 = .ok (.iload_n 3, 1) := by decide +kernel
theorem dX12_copies_60 : decode cX12_copies 60 = .ok (.iload_n 2, 1) := by decide +kernel
theorem dX12_copies_61 : decode cX12_copies 61 = .ok (.if_icmp .ge 37, 3) := by decide +kernel
theorem dX12_copies_64 : decode cX12_copies 64 = .ok (.aload_n 0, 1) := by decide +kernel
theorem dX12_copies_65 : decode cX12_copies 65 = .ok (.getfield 90, 3) := by decide +kernel
theorem dX12_copies_68 : decode cX12_copies 68 = .ok (.aload_n 0, 1) := by decide +kernel
theorem dX12_copies_69 : decode cX12_copies 69 = .ok (.getfield 212, 3) := by decide +kernel
theorem dX12_copies_72 : decode cX12_copies 72 = .ok (.iconst 1, 1) := by decide +kernel
theorem dX12_copies_73 : decode cX12_copies 73 = .ok (.isub, 1) := by decide +kernel
theorem dX12_copies_74 : decode cX12_copies 74 = .ok (.iload_n 3, 1) := by decide +kernel
theorem dX12_copies_75 : decode cX12_copies 75 = .ok (.isub, 1) := by decide +kernel
theorem dX12_copies_76 : decode cX12_copies 76 = .ok (.aload_n 0, 1) := by decide +kernel
theorem dX12_copies_77 : decode cX12_copies 77 = .ok (.getfield 90, 3) := by decide +kernel
theorem dX12_copies_80 : decode cX12_copies 80 = .ok (.aload_n 0, 1) := by decide +kernel
theorem dX12_copies_81 : decode cX12_copies 81 = .ok (.getfield 212, 3) := by decide +kernel
theorem dX12_copies_84 : decode cX12_copies 84 = .ok (.iconst 1, 1) := by decide +kernel
theorem dX12_copies_85 : decode cX12_copies 85 = .ok (.isub, 1) := by decide +kernel
theorem dX12_copies_86 : decode cX12_copies 86 = .ok (.iload_n 1, 1) := by decide +kernel
theorem dX12_copies_87 : decode cX12_copies 87 = .ok (.isub, 1) := by decide +kernel
theorem dX12_copies_88 : decode cX12_copies 88 = .ok (.iload_n 3, 1) := by decide +kernel
theorem dX12_copies_89 : decode cX12_copies 89 = .ok (.isub, 1) := by decide +kernel
theorem dX12_copies_90 : decode cX12_copies 90 = .ok (.iaload, 1) := by decide +kernel
theorem dX12_copies_91 : decode cX12_copies 91 = .ok (.iastore, 1) := by decide +kernel
theorem dX12_copies_92 : decode cX12_copies 92 = .ok (.iinc 3 1, 3) := by decide +kernel
theorem dX12_copies_95 : decode cX12_copies 95 = .ok (.goto (-36), 3) := by decide +kernel
theorem dX12_copies_98 : decode cX12_copies 98 = .ok (.iconst 0, 1) := by decide +kernel
theorem dX12_copies_99 : decode cX12_copies 99 = .ok (.istore_n 3, 1) := by decide +kernel
theorem dX12_copies_100 : decode cX12_copies 100 = .ok (.iload_n 3, 1) := by decide +kernel
theorem dX12_copies_101 : decode cX12_copies 101 = .ok (.iload_n 1, 1) := by decide +kernel
theorem dX12_copies_102 : decode cX12_copies 102 = .ok (.if_icmp .ge 35, 3) := by decide +kernel
theorem dX12_copies_105 : decode cX12_copies 105 = .ok (.aload_n 0, 1) := by decide +kernel
theorem dX12_copies_106 : decode cX12_copies 106 = .ok (.getfield 90, 3) := by decide +kernel
theorem dX12_copies_109 : decode cX12_copies 109 = .ok (.aload_n 0, 1) := by decide +kernel
theorem dX12_copies_110 : decode cX12_copies 110 = .ok (.getfield 212, 3) := by decide +kernel
theorem dX12_copies_113 : decode cX12_copies 113 = .ok (.iload_n 1, 1) := by decide +kernel
theorem dX12_copies_114 : decode cX12_copies 114 = .ok (.isub, 1) := by decide +kernel
theorem dX12_copies_115 : decode cX12_copies 115 = .ok (.iload_n 2, 1) := by decide +kernel
theorem dX12_copies_116 : decode cX12_copies 116 = .ok (.isub, 1) := by decide +kernel
theorem dX12_copies_117 : decode cX12_copies 117 = .ok (.iload_n 3, 1) := by decide +kernel
theorem dX12_copies_118 : decode cX12_copies 118 = .ok (.iadd, 1) := by decide +kernel
theorem dX12_copies_119 : decode cX12_copies 119 = .ok (.aload_n 0, 1) := by decide +kernel
theorem dX12_copies_120 : decode cX12_copies 120 = .ok (.getfield 90, 3) := by decide +kernel
theorem dX12_copies_123 : decode cX12_copies 123 = .ok (.aload_n 0, 1) := by decide +kernel
theorem dX12_copies_124 : decode cX12_copies 124 = .ok (.getfield 212, 3) := by decide +kernel
theorem dX12_copies_127 : decode cX12_copies 127 = .ok (.iload_n 3, 1) := by decide +kernel
theorem dX12_copies_128 : decode cX12_copies 128 = .ok (.iadd, 1) := by decide +kernel
theorem dX12_copies_129 : decode cX12_copies 129 = .ok (.iaload, 1) := by decide +kernel
theorem dX12_copies_130 : decode cX12_copies 130 = .ok (.iastore, 1) := by decide +kernel
theorem dX12_copies_131 : decode cX12_copies 131 = .ok (.iinc 3 1, 3) := by decide +kernel
theorem dX12_copies_134 : decode cX12_copies 134 = .ok (.goto (-34), 3) := by decide +kernel
theorem dX12_copies_137 : decode cX12_copies 137 = .ok (.aload_n 0, 1) := by decide +kernel
theorem dX12_copies_138 : decode cX12_copies 138 = .ok (.dup, 1) := by decide +kernel
theorem dX12_copies_139 : decode cX12_copies 139 = .ok (.getfield 212, 3) := by decide +kernel
theorem dX12_copies_142 : decode cX12_copies 142 = .ok (.iload_n 1, 1) := by decide +kernel
theorem dX12_copies_143 : decode cX12_copies 143 = .ok (.iadd, 1) := by decide +kernel
theorem dX12_copies_144 : decode cX12_copies 144 = .ok (.putfield 212, 3) := by decide +kernel
theorem dX12_copies_147 : decode cX12_copies 147 = .ok (.iconst 1, 1) := by decide +kernel
theorem dX12_copies_148 : decode cX12_copies 148 = .ok (.ireturn, 1) := by decide +kernel
