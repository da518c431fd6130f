theorem dX12_sendOn_0 : decode cX12_sendOn 0 = .ok (.iconst 0, 1) := by decide +kernel
theorem dX12_sendOn_1 : decode cX12_sendOn 1 = .ok (.istore 6, 2) := by decide +kernel
theorem dX12_sendOn_3 : decode cX12_sendOn 3 = .ok (.iload 6, 2) := by decide +kernel
theorem dX12_sendOn_5 : decode cX12_sendOn 5 = .ok (.bipush 16, 2) := by decide +kernel
theorem dX12_sendOn_7 : decode cX12_sendOn 7 = .ok (.if_icmp .ge 33, 3) := by decide +kernel
theorem dX12_sendOn_10 : decode cX12_sendOn 10 = .ok (.aload_n 0, 1) := by decide +kernel
theorem dX12_sendOn_11 : decode cX12_sendOn 11 = .ok (.getfield 106, 3) := by decide +kernel
theorem dX12_sendOn_14 : decode cX12_sendOn 14 = .ok (.iload 6, 2) := by decide +kernel
theorem dX12_sendOn_16 : decode cX12_sendOn 16 = .ok (.aload_n 0, 1) := by decide +kernel
theorem dX12_sendOn_17 : decode cX12_sendOn 17 = .ok (.getfield 87, 3) := by decide +kernel
theorem dX12_sendOn_20 : decode cX12_sendOn 20 = .ok (.bipush 16, 2) := by decide +kernel
theorem dX12_sendOn_22 : decode cX12_sendOn 22 = .ok (.bipush 60, 2) := by decide +kernel
theorem dX12_sendOn_24 : decode cX12_sendOn 24 = .ok (.iload_n 1, 1) := by decide +kernel
theorem dX12_sendOn_25 : decode cX12_sendOn 25 = .ok (.imul, 1) := by decide +kernel
theorem dX12_sendOn_26 : decode cX12_sendOn 26 = .ok (.iload_n 2, 1) := by decide +kernel
theorem dX12_sendOn_27 : decode cX12_sendOn 27 = .ok (.iadd, 1) := by decide +kernel
theorem dX12_sendOn_28 : decode cX12_sendOn 28 = .ok (.imul, 1) := by decide +kernel
theorem dX12_sendOn_29 : decode cX12_sendOn 29 = .ok (.iload 6, 2) := by decide +kernel
theorem dX12_sendOn_31 : decode cX12_sendOn 31 = .ok (.iadd, 1) := by decide +kernel
theorem dX12_sendOn_32 : decode cX12_sendOn 32 = .ok (.iaload, 1) := by decide +kernel
theorem dX12_sendOn_33 : decode cX12_sendOn 33 = .ok (.iastore, 1) := by decide +kernel
theorem dX12_sendOn_34 : decode cX12_sendOn 34 = .ok (.iinc 6 1, 3) := by decide +kernel
theorem dX12_sendOn_37 : decode cX12_sendOn 37 = .ok (.goto (-34), 3) := by decide +kernel
theorem dX12_sendOn_40 : decode cX12_sendOn 40 = .ok (.bipush 6, 2) := by decide +kernel
theorem dX12_sendOn_42 : decode cX12_sendOn 42 = .ok (.iload_n 1, 1) := by decide +kernel
theorem dX12_sendOn_43 : decode cX12_sendOn 43 = .ok (.imul, 1) := by decide +kernel
theorem dX12_sendOn_44 : decode cX12_sendOn 44 = .ok (.istore 6, 2) := by decide +kernel
theorem dX12_sendOn_46 : decode cX12_sendOn 46 = .ok (.iload 6, 2) := by decide +kernel
theorem dX12_sendOn_48 : decode cX12_sendOn 48 = .ok (.bipush 6, 2) := by decide +kernel
theorem dX12_sendOn_50 : decode cX12_sendOn 50 = .ok (.iload_n 1, 1) := by decide +kernel
theorem dX12_sendOn_51 : decode cX12_sendOn 51 = .ok (.imul, 1) := by decide +kernel
theorem dX12_sendOn_52 : decode cX12_sendOn 52 = .ok (.aload_n 0, 1) := by decide +kernel
theorem dX12_sendOn_53 : decode cX12_sendOn 53 = .ok (.getfield 34, 3) := by decide +kernel
theorem dX12_sendOn_56 : decode cX12_sendOn 56 = .ok (.iload_n 1, 1) := by decide +kernel
theorem dX12_sendOn_57 : decode cX12_sendOn 57 = .ok (.iaload, 1) := by decide +kernel
theorem dX12_sendOn_58 : decode cX12_sendOn 58 = .ok (.iadd, 1) := by decide +kernel
theorem dX12_sendOn_59 : decode cX12_sendOn 59 = .ok (.if_icmp .ge 91, 3) := by decide +kernel
theorem dX12_sendOn_62 : decode cX12_sendOn 62 = .ok (.aload_n 0, 1) := by decide +kernel
theorem dX12_sendOn_63 : decode cX12_sendOn 63 = .ok (.iload 6, 2) := by decide +kernel
theorem dX12_sendOn_65 : decode cX12_sendOn 65 = .ok (.iload_n 2, 1) := by decide +kernel
theorem dX12_sendOn_66 : decode cX12_sendOn 66 = .ok (.invokevirtual 208, 3) := by decide +kernel
theorem dX12_sendOn_69 : decode cX12_sendOn 69 = .ok (.ifCond .eq 75, 3) := by decide +kernel
theorem dX12_sendOn_72 : decode cX12_sendOn 72 = .ok (.aload_n 0, 1) := by decide +kernel
theorem dX12_sendOn_73 : decode cX12_sendOn 73 = .ok (.iconst 1, 1) := by decide +kernel
theorem dX12_sendOn_74 : decode cX12_sendOn 74 = .ok (.putfield 212, 3) := by decide +kernel
theorem dX12_sendOn_77 : decode cX12_sendOn 77 = .ok (.aload_n 0, 1) := by decide +kernel
theorem dX12_sendOn_78 : decode cX12_sendOn 78 = .ok (.getfield 90, 3) := by decide +kernel
theorem dX12_sendOn_81 : decode cX12_sendOn 81 = .ok (.iconst 0, 1) := by decide +kernel
theorem dX12_sendOn_82 : decode cX12_sendOn 82 = .ok (.iconst 4, 1) := by decide +kernel
theorem dX12_sendOn_83 : decode cX12_sendOn 83 = .ok (.iastore, 1) := by decide +kernel
theorem dX12_sendOn_84 : decode cX12_sendOn 84 = .ok (.iconst 0, 1) := by decide +kernel
theorem dX12_sendOn_85 : decode cX12_sendOn 85 = .ok (.istore 7, 2) := by decide +kernel
theorem dX12_sendOn_87 : decode cX12_sendOn 87 = .ok (.iload 7, 2) := by decide +kernel
theorem dX12_sendOn_89 : decode cX12_sendOn 89 = .ok (.bipush 16, 2) := by decide +kernel
theorem dX12_sendOn_91 : decode cX12_sendOn 91 = .ok (.if_icmp .ge 23, 3) := by decide +kernel
theorem dX12_sendOn_94 : decode cX12_sendOn 94 = .ok (.aload_n 0, 1) := by decide +kernel
theorem dX12_sendOn_95 : decode cX12_sendOn 95 = .ok (.getfield 93, 3) := by decide +kernel
theorem dX12_sendOn_98 : decode cX12_sendOn 98 = .ok (.iload 7, 2) := by decide +kernel
theorem dX12_sendOn_100 : decode cX12_sendOn 100 = .ok (.aload_n 0, 1) := by decide +kernel
theorem dX12_sendOn_101 : decode cX12_sendOn 101 = .ok (.getfield 106, 3) := by decide +kernel
theorem dX12_sendOn_104 : decode cX12_sendOn 104 = .ok (.iload 7, 2) := by decide +kernel
theorem dX12_sendOn_106 : decode cX12_sendOn 106 = .ok (.iaload, 1) := by decide +kernel
theorem dX12_sendOn_107 : decode cX12_sendOn 107 = .ok (.iastore, 1) := by decide +kernel
theorem dX12_sendOn_108 : decode cX12_sendOn 108 = .ok (.iinc 7 1, 3) := by decide +kernel
theorem dX12_sendOn_111 : decode cX12_sendOn 111 = .ok (.goto (-24), 3) := by decide +kernel
theorem dX12_sendOn_114 : decode cX12_sendOn 114 = .ok (.aload_n 0, 1) := by decide +kernel
theorem dX12_sendOn_115 : decode cX12_sendOn 115 = .ok (.iload_n 1, 1) := by decide +kernel
theorem dX12_sendOn_116 : decode cX12_sendOn 116 = .ok (.aload_n 0, 1) := by decide +kernel
theorem dX12_sendOn_117 : decode cX12_sendOn 117 = .ok (.getfield 43, 3) := by decide +kernel
theorem dX12_sendOn_120 : decode cX12_sendOn 120 = .ok (.iload 6, 2) := by decide +kernel
theorem dX12_sendOn_122 : decode cX12_sendOn 122 = .ok (.iaload, 1) := by decide +kernel
theorem dX12_sendOn_123 : decode cX12_sendOn 123 = .ok (.invokevirtual 236, 3) := by decide +kernel
theorem dX12_sendOn_126 : decode cX12_sendOn 126 = .ok (.ifCond .eq 18, 3) := by decide +kernel
theorem dX12_sendOn_129 : decode cX12_sendOn 129 = .ok (.aload_n 0, 1) := by decide +kernel
theorem dX12_sendOn_130 : decode cX12_sendOn 130 = .ok (.iload_n 1, 1) := by decide +kernel
theorem dX12_sendOn_131 : decode cX12_sendOn 131 = .ok (.aload_n 0, 1) := by decide +kernel
theorem dX12_sendOn_132 : decode cX12_sendOn 132 = .ok (.getfield 43, 3) := by decide +kernel
theorem dX12_sendOn_135 : decode cX12_sendOn 135 = .ok (.iload 6, 2) := by decide +kernel
theorem dX12_sendOn_137 : decode cX12_sendOn 137 = .ok (.iaload, 1) := by decide +kernel
theorem dX12_sendOn_138 : decode cX12_sendOn 138 = .ok (.bipush 6, 2) := by decide +kernel
theorem dX12_sendOn_140 : decode cX12_sendOn 140 = .ok (.invokevirtual 228, 3) := by decide +kernel
theorem dX12_sendOn_143 : decode cX12_sendOn 143 = .ok (.ireturn, 1) := by decide +kernel
theorem dX12_sendOn_144 : decode cX12_sendOn 144 = .ok (.iinc 6 1, 3) := by decide +kernel
theorem dX12_sendOn_147 : decode cX12_sendOn 147 = .ok (.goto (-101), 3) := by decide +kernel
theorem dX12_sendOn_150 : decode cX12_sendOn 150 = .ok (.iload_n 3, 1) := by decide +kernel
theorem dX12_sendOn_151 : decode cX12_sendOn 151 = .ok (.i2l, 1) := by decide +kernel
theorem dX12_sendOn_152 : decode cX12_sendOn 152 = .ok (.ldc2_w 204, 3) := by decide +kernel
theorem dX12_sendOn_155 : decode cX12_sendOn 155 = .ok (.ldc2_w 206, 3) := by decide +kernel
theorem dX12_sendOn_158 : decode cX12_sendOn 158 = .ok (.invokestatic 151, 3) := by decide +kernel
theorem dX12_sendOn_161 : decode cX12_sendOn 161 = .ok (.ifCond .eq 13, 3) := by decide +kernel
theorem dX12_sendOn_164 : decode cX12_sendOn 164 = .ok (.aload_n 0, 1) := by decide +kernel
theorem dX12_sendOn_165 : decode cX12_sendOn 165 = .ok (.iload_n 1, 1) := by decide +kernel
theorem dX12_sendOn_166 : decode cX12_sendOn 166 = .ok (.iload 4, 2) := by decide +kernel
theorem dX12_sendOn_168 : decode cX12_sendOn 168 = .ok (.invokevirtual 275, 3) := by decide +kernel
theorem dX12_sendOn_171 : decode cX12_sendOn 171 = .ok (.goto 4, 3) := by decide +kernel
theorem dX12_sendOn_174 : decode cX12_sendOn 174 = .ok (.iconst 0, 1) := by decide +kernel
theorem dX12_sendOn_175 : decode cX12_sendOn 175 = .ok (.istore 6, 2) := by decide +kernel
theorem dX12_sendOn_177 : decode cX12_sendOn 177 = .ok (.iload_n 3, 1) := by decide +kernel
theorem dX12_sendOn_178 : decode cX12_sendOn 178 = .ok (.bipush 23, 2) := by decide +kernel
theorem dX12_sendOn_180 : decode cX12_sendOn 180 = .ok (.if_icmp .ne 73, 3) := by decide +kernel
theorem dX12_sendOn_183 : decode cX12_sendOn 183 = .ok (.iconst 0, 1) := by decide +kernel
theorem dX12_sendOn_184 : decode cX12_sendOn 184 = .ok (.istore 7, 2) := by decide +kernel
theorem dX12_sendOn_186 : decode cX12_sendOn 186 = .ok (.iload 7, 2) := by decide +kernel
theorem dX12_sendOn_188 : decode cX12_sendOn 188 = .ok (.aload_n 0, 1) := by decide +kernel
theorem dX12_sendOn_189 : decode cX12_sendOn 189 = .ok (.getfield 66, 3) := by decide +kernel
theorem dX12_sendOn_192 : decode cX12_sendOn 192 = .ok (.iload 4, 2) := by decide +kernel
theorem dX12_sendOn_194 : decode cX12_sendOn 194 = .ok (.iaload, 1) := by decide +kernel
theorem dX12_sendOn_195 : decode cX12_sendOn 195 = .ok (.if_icmp .ge 34, 3) := by decide +kernel
theorem dX12_sendOn_198 : decode cX12_sendOn 198 = .ok (.iload 6, 2) := by decide +kernel
theorem dX12_sendOn_200 : decode cX12_sendOn 200 = .ok (.ifCond .ne 29, 3) := by decide +kernel
theorem dX12_sendOn_203 : decode cX12_sendOn 203 = .ok (.aload_n 0, 1) := by decide +kernel
theorem dX12_sendOn_204 : decode cX12_sendOn 204 = .ok (.iload_n 1, 1) := by decide +kernel
theorem dX12_sendOn_205 : decode cX12_sendOn 205 = .ok (.aload_n 0, 1) := by decide +kernel
theorem dX12_sendOn_206 : decode cX12_sendOn 206 = .ok (.getfield 72, 3) := by decide +kernel
theorem dX12_sendOn_209 : decode cX12_sendOn 209 = .ok (.bipush 8, 2) := by decide +kernel
theorem dX12_sendOn_211 : decode cX12_sendOn 211 = .ok (.iload 4, 2) := by decide +kernel
theorem dX12_sendOn_213 : decode cX12_sendOn 213 = .ok (.imul, 1) := by decide +kernel
theorem dX12_sendOn_214 : decode cX12_sendOn 214 = .ok (.iload 7, 2) := by decide +kernel
theorem dX12_sendOn_216 : decode cX12_sendOn 216 = .ok (.iadd, 1) := by decide +kernel
theorem dX12_sendOn_217 : decode cX12_sendOn 217 = .ok (.iaload, 1) := by decide +kernel
theorem dX12_sendOn_218 : decode cX12_sendOn 218 = .ok (.invokevirtual 275, 3) := by decide +kernel
theorem dX12_sendOn_221 : decode cX12_sendOn 221 = .ok (.istore 6, 2) := by decide +kernel
theorem dX12_sendOn_223 : decode cX12_sendOn 223 = .ok (.iinc 7 1, 3) := by decide +kernel
theorem dX12_sendOn_226 : decode cX12_sendOn 226 = .ok (.goto (-40), 3) := by decide +kernel
theorem dX12_sendOn_229 : decode cX12_sendOn 229 = .ok (.iload 6, 2) := by decide +kernel
theorem dX12_sendOn_231 : decode cX12_sendOn 231 = .ok (.ifCond .ne 18, 3) := by decide +kernel
theorem dX12_sendOn_234 : decode cX12_sendOn 234 = .ok (.aload_n 0, 1) := by decide +kernel
theorem dX12_sendOn_235 : decode cX12_sendOn 235 = .ok (.iload_n 1, 1) := by decide +kernel
theorem dX12_sendOn_236 : decode cX12_sendOn 236 = .ok (.aload_n 0, 1) := by decide +kernel
theorem dX12_sendOn_237 : decode cX12_sendOn 237 = .ok (.getfield 63, 3) := by decide +kernel
theorem dX12_sendOn_240 : decode cX12_sendOn 240 = .ok (.iload 4, 2) := by decide +kernel
theorem dX12_sendOn_242 : decode cX12_sendOn 242 = .ok (.iaload, 1) := by decide +kernel
theorem dX12_sendOn_243 : decode cX12_sendOn 243 = .ok (.invokevirtual 275, 3) := by decide +kernel
theorem dX12_sendOn_246 : decode cX12_sendOn 246 = .ok (.goto 5, 3) := by decide +kernel
theorem dX12_sendOn_249 : decode cX12_sendOn 249 = .ok (.iload 6, 2) := by decide +kernel
theorem dX12_sendOn_251 : decode cX12_sendOn 251 = .ok (.istore 6, 2) := by decide +kernel
theorem dX12_sendOn_253 : decode cX12_sendOn 253 = .ok (.iload 6, 2) := by decide +kernel
theorem dX12_sendOn_255 : decode cX12_sendOn 255 = .ok (.ifCond .ne 19, 3) := by decide +kernel
theorem dX12_sendOn_258 : decode cX12_sendOn 258 = .ok (.iload 5, 2) := by decide +kernel
theorem dX12_sendOn_260 : decode cX12_sendOn 260 = .ok (.ifCond .eq 14, 3) := by decide +kernel
theorem dX12_sendOn_263 : decode cX12_sendOn 263 = .ok (.aload_n 0, 1) := by decide +kernel
theorem dX12_sendOn_264 : decode cX12_sendOn 264 = .ok (.iload_n 1, 1) := by decide +kernel
theorem dX12_sendOn_265 : decode cX12_sendOn 265 = .ok (.iload_n 2, 1) := by decide +kernel
theorem dX12_sendOn_266 : decode cX12_sendOn 266 = .ok (.iconst 1, 1) := by decide +kernel
theorem dX12_sendOn_267 : decode cX12_sendOn 267 = .ok (.iadd, 1) := by decide +kernel
theorem dX12_sendOn_268 : decode cX12_sendOn 268 = .ok (.invokevirtual 275, 3) := by decide +kernel
theorem dX12_sendOn_271 : decode cX12_sendOn 271 = .ok (.goto 5, 3) := by decide +kernel
theorem dX12_sendOn_274 : decode cX12_sendOn 274 = .ok (.iload 6, 2) := by decide +kernel
theorem dX12_sendOn_276 : decode cX12_sendOn 276 = .ok (.ireturn, 1) := by decide +kernel
theorem dX12_pop_0 : decode cX12_pop 0 = .ok (.iload_n 1, 1) := by decide +kernel
theorem dX12_pop_1 : decode cX12_pop 1 = .ok (.invokestatic 166, 3) := by decide +kernel
theorem dX12_pop_4 : decode cX12_pop 4 = .ok (.iconst 2, 1) := by decide +kernel
theorem dX12_pop_5 : decode cX12_pop 5 = .ok (.if_icmp .ne 7, 3) := by decide +kernel
theorem dX12_pop_8 : decode cX12_pop 8 = .ok (.iconst 1, 1) := by decide +kernel
theorem dX12_pop_9 : decode cX12_pop 9 = .ok (.goto 4, 3) := by decide +kernel
theorem dX12_pop_12 : decode cX12_pop 12 = .ok (.iconst 0, 1) := by decide +kernel
theorem dX12_pop_13 : decode cX12_pop 13 = .ok (.istore_n 2, 1) := by decide +kernel
theorem dX12_pop_14 : decode cX12_pop 14 = .ok (.iload_n 1, 1) := by decide +kernel
theorem dX12_pop_15 : decode cX12_pop 15 = .ok (.iconst 1, 1) := by decide +kernel
theorem dX12_pop_16 : decode cX12_pop 16 = .ok (.if_icmp .ne 8, 3) := by decide +kernel
theorem dX12_pop_19 : decode cX12_pop 19 = .ok (.bipush 6, 2) := by decide +kernel
theorem dX12_pop_21 : decode cX12_pop 21 = .ok (.goto 5, 3) := by decide +kernel
theorem dX12_pop_24 : decode cX12_pop 24 = .ok (.bipush 7, 2) := by decide +kernel
theorem dX12_pop_26 : decode cX12_pop 26 = .ok (.istore_n 3, 1) := by decide +kernel
theorem dX12_pop_27 : decode cX12_pop 27 = .ok (.aload_n 0, 1) := by decide +kernel
theorem dX12_pop_28 : decode cX12_pop 28 = .ok (.getfield 212, 3) := by decide +kernel
theorem dX12_pop_31 : decode cX12_pop 31 = .ok (.iload_n 1, 1) := by decide +kernel
theorem dX12_pop_32 : decode cX12_pop 32 = .ok (.invokestatic 166, 3) := by decide +kernel
theorem dX12_pop_35 : decode cX12_pop 35 = .ok (.if_icmp .ge 5, 3) := by decide +kernel
theorem dX12_pop_38 : decode cX12_pop 38 = .ok (.iconst 0, 1) := by decide +kernel
theorem dX12_pop_39 : decode cX12_pop 39 = .ok (.ireturn, 1) := by decide +kernel
theorem dX12_pop_40 : decode cX12_pop 40 = .ok (.iload_n 2, 1) := by decide +kernel
theorem dX12_pop_41 : decode cX12_pop 41 = .ok (.ifCond .eq 41, 3) := by decide +kernel
theorem dX12_pop_44 : decode cX12_pop 44 = .ok (.aload_n 0, 1) := by decide +kernel
theorem dX12_pop_45 : decode cX12_pop 45 = .ok (.getfield 90, 3) := by decide +kernel
theorem dX12_pop_48 : decode cX12_pop 48 = .ok (.aload_n 0, 1) := by decide +kernel
theorem dX12_pop_49 : decode cX12_pop 49 = .ok (.getfield 212, 3) := by decide +kernel
theorem dX12_pop_52 : decode cX12_pop 52 = .ok (.iconst 1, 1) := by decide +kernel
theorem dX12_pop_53 : decode cX12_pop 53 = .ok (.isub, 1) := by decide +kernel
theorem dX12_pop_54 : decode cX12_pop 54 = .ok (.iaload, 1) := by decide +kernel
theorem dX12_pop_55 : decode cX12_pop 55 = .ok (.iload_n 3, 1) := by decide +kernel
theorem dX12_pop_56 : decode cX12_pop 56 = .ok (.if_icmp .ne 22, 3) := by decide +kernel
theorem dX12_pop_59 : decode cX12_pop 59 = .ok (.aload_n 0, 1) := by decide +kernel
theorem dX12_pop_60 : decode cX12_pop 60 = .ok (.getfield 90, 3) := by decide +kernel
theorem dX12_pop_63 : decode cX12_pop 63 = .ok (.aload_n 0, 1) := by decide +kernel
theorem dX12_pop_64 : decode cX12_pop 64 = .ok (.getfield 212, 3) := by decide +kernel
theorem dX12_pop_67 : decode cX12_pop 67 = .ok (.iconst 2, 1) := by decide +kernel
theorem dX12_pop_68 : decode cX12_pop 68 = .ok (.isub, 1) := by decide +kernel
theorem dX12_pop_69 : decode cX12_pop 69 = .ok (.iaload, 1) := by decide +kernel
theorem dX12_pop_70 : decode cX12_pop 70 = .ok (.iload_n 1, 1) := by decide +kernel
theorem dX12_pop_71 : decode cX12_pop 71 = .ok (.if_icmp .ne 7, 3) := by decide +kernel
theorem dX12_pop_74 : decode cX12_pop 74 = .ok (.iconst 1, 1) := by decide +kernel
theorem dX12_pop_75 : decode cX12_pop 75 = .ok (.goto 27, 3) := by decide +kernel
theorem dX12_pop_78 : decode cX12_pop 78 = .ok (.iconst 0, 1) := by decide +kernel
theorem dX12_pop_79 : decode cX12_pop 79 = .ok (.goto 23, 3) := by decide +kernel
theorem dX12_pop_82 : decode cX12_pop 82 = .ok (.aload_n 0, 1) := by decide +kernel
theorem dX12_pop_83 : decode cX12_pop 83 = .ok (.getfield 90, 3) := by decide +kernel
theorem dX12_pop_86 : decode cX12_pop 86 = .ok (.aload_n 0, 1) := by decide +kernel
theorem dX12_pop_87 : decode cX12_pop 87 = .ok (.getfield 212, 3) := by decide +kernel
theorem dX12_pop_90 : decode cX12_pop 90 = .ok (.iconst 1, 1) := by decide +kernel
theorem dX12_pop_91 : decode cX12_pop 91 = .ok (.isub, 1) := by decide +kernel
theorem dX12_pop_92 : decode cX12_pop 92 = .ok (.iaload, 1) := by decide +kernel
theorem dX12_pop_93 : decode cX12_pop 93 = .ok (.iload_n 1, 1) := by decide +kernel
theorem dX12_pop_94 : decode cX12_pop 94 = .ok (.if_icmp .ne 7, 3) := by decide +kernel
theorem dX12_pop_97 : decode cX12_pop 97 = .ok (.iconst 1, 1) := by decide +kernel
theorem dX12_pop_98 : decode cX12_pop 98 = .ok (.goto 4, 3) := by decide +kernel
theorem dX12_pop_101 : decode cX12_pop 101 = .ok (.iconst 0, 1) := by decide +kernel
theorem dX12_pop_102 : decode cX12_pop 102 = .ok (.istore 4, 2) := by decide +kernel
theorem dX12_pop_104 : decode cX12_pop 104 = .ok (.aload_n 0, 1) := by decide +kernel
theorem dX12_pop_105 : decode cX12_pop 105 = .ok (.dup, 1) := by decide +kernel
theorem dX12_pop_106 : decode cX12_pop 106 = .ok (.getfield 212, 3) := by decide +kernel
theorem dX12_pop_109 : decode cX12_pop 109 = .ok (.iload_n 1, 1) := by decide +kernel
theorem dX12_pop_110 : decode cX12_pop 110 = .ok (.invokestatic 166, 3) := by decide +kernel
theorem dX12_pop_113 : decode cX12_pop 113 = .ok (.isub, 1) := by decide +kernel
theorem dX12_pop_114 : decode cX12_pop 114 = .ok (.putfield 212, 3) := by decide +kernel
theorem dX12_pop_117 : decode cX12_pop 117 = .ok (.iload 4, 2) := by decide +kernel
theorem dX12_pop_119 : decode cX12_pop 119 = .ok (.ireturn, 1) := by decide +kernel
theorem dX12_push_0 : decode cX12_push 0 = .ok (.aload_n 0, 1) := by decide +kernel
theorem dX12_push_1 : decode cX12_push 1 = .ok (.getfield 90, 3) := by decide +kernel
theorem dX12_push_4 : decode cX12_push 4 = .ok (.aload_n 0, 1) := by decide +kernel
theorem dX12_push_5 : decode cX12_push 5 = .ok (.getfield 212, 3) := by decide +kernel
theorem dX12_push_8 : decode cX12_push 8 = .ok (.iload_n 1, 1) := by decide +kernel
theorem dX12_push_9 : decode cX12_push 9 = .ok (.iastore, 1) := by decide +kernel
theorem dX12_push_10 : decode cX12_push 10 = .ok (.aload_n 0, 1) := by decide +kernel
theorem dX12_push_11 : decode cX12_push 11 = .ok (.dup, 1) := by decide +kernel
theorem dX12_push_12 : decode cX12_push 12 = .ok (.getfield 212, 3) := by decide +kernel
theorem dX12_push_15 : decode cX12_push 15 = .ok (.iconst 1, 1) := by decide +kernel
theorem dX12_push_16 : decode cX12_push 16 = .ok (.iadd, 1) := by decide +kernel
theorem dX12_push_17 : decode cX12_push 17 = .ok (.putfield 212, 3) := by decide +kernel
theorem dX12_push_20 : decode cX12_push 20 = .ok (.iload_n 1, 1) := by decide +kernel
theorem dX12_push_21 : decode cX12_push 21 = .ok (.invokestatic 166, 3) := by decide +kernel
theorem dX12_push_24 : decode cX12_push 24 = .ok (.iconst 2, 1) := by decide +kernel
theorem dX12_push_25 : decode cX12_push 25 = .ok (.if_icmp .ne 34, 3) := by decide +kernel
theorem dX12_push_28 : decode cX12_push 28 = .ok (.aload_n 0, 1) := by decide +kernel
theorem dX12_push_29 : decode cX12_push 29 = .ok (.getfield 90, 3) := by decide +kernel
theorem dX12_push_32 : decode cX12_push 32 = .ok (.aload_n 0, 1) := by decide +kernel
theorem dX12_push_33 : decode cX12_push 33 = .ok (.getfield 212, 3) := by decide +kernel
theorem dX12_push_36 : decode cX12_push 36 = .ok (.iload_n 1, 1) := by decide +kernel
theorem dX12_push_37 : decode cX12_push 37 = .ok (.iconst 1, 1) := by decide +kernel
theorem dX12_push_38 : decode cX12_push 38 = .ok (.if_icmp .ne 8, 3) := by decide +kernel
theorem dX12_push_41 : decode cX12_push 41 = .ok (.bipush 6, 2) := by decide +kernel
theorem dX12_push_43 : decode cX12_push 43 = .ok (.goto 5, 3) := by decide +kernel
theorem dX12_push_46 : decode cX12_push 46 = .ok (.bipush 7, 2) := by decide +kernel
theorem dX12_push_48 : decode cX12_push 48 = .ok (.iastore, 1) := by decide +kernel
theorem dX12_push_49 : decode cX12_push 49 = .ok (.aload_n 0, 1) := by decide +kernel
theorem dX12_push_50 : decode cX12_push 50 = .ok (.dup, 1) := by decide +kernel
theorem dX12_push_51 : decode cX12_push 51 = .ok (.getfield 212, 3) := by decide +kernel
theorem dX12_push_54 : decode cX12_push 54 = .ok (.iconst 1, 1) := by decide +kernel
theorem dX12_push_55 : decode cX12_push 55 = .ok (.iadd, 1) := by decide +kernel
theorem dX12_push_56 : decode cX12_push 56 = .ok (.putfield 212, 3) := by decide +kernel
theorem dX12_push_59 : decode cX12_push 59 = .ok (.return_, 1) := by decide +kernel
theorem dX12_works_0 : decode cX12_works 0 = .ok (.iconst 1, 1) := by decide +kernel
theorem dX12_works_1 : decode cX12_works 1 = .ok (.istore 5, 2) := by decide +kernel
theorem dX12_works_3 : decode cX12_works 3 = .ok (.iload 4, 2) := by decide +kernel
theorem dX12_works_5 : decode cX12_works 5 = .ok (.iconst 5, 1) := by decide +kernel
theorem dX12_works_6 : decode cX12_works 6 = .ok (.if_icmp .lt 7, 3) := by decide +kernel
theorem dX12_works_9 : decode cX12_works 9 = .ok (.iconst 0, 1) := by decide +kernel
theorem dX12_works_10 : decode cX12_works 10 = .ok (.goto 5, 3) := by decide +kernel
theorem dX12_works_13 : decode cX12_works 13 = .ok (.iload 4, 2) := by decide +kernel
theorem dX12_works_15 : decode cX12_works 15 = .ok (.istore 6, 2) := by decide +kernel
theorem dX12_works_17 : decode cX12_works 17 = .ok (.iload_n 2, 1) := by decide +kernel
theorem dX12_works_18 : decode cX12_works 18 = .ok (.tableswitch 562 0 35 #[158, 158, 158, 158, 158, 165, 173, 562, 562, 562, 562, 562, 562, 562, 562, 562, 562, 180, 242, 275, 562, 328, 334, 328, 340, 376, 408, 439, 439, 454, 469, 334, 334, 334, 476, 495], 158) := by decide +kernel
theorem dX12_works_176 : decode cX12_works 176 = .ok (.aload_n 0, 1) := by decide +kernel
theorem dX12_works_177 : decode cX12_works 177 = .ok (.iload_n 2, 1) := by decide +kernel
theorem dX12_works_178 : decode cX12_works 178 = .ok (.invokevirtual 221, 3) := by decide +kernel
theorem dX12_works_181 : decode cX12_works 181 = .ok (.iconst 1, 1) := by decide +kernel
theorem dX12_works_182 : decode cX12_works 182 = .ok (.ireturn, 1) := by decide +kernel
theorem dX12_works_183 : decode cX12_works 183 = .ok (.aload_n 0, 1) := by decide +kernel
theorem dX12_works_184 : decode cX12_works 184 = .ok (.iload 4, 2) := by decide +kernel
theorem dX12_works_186 : decode cX12_works 186 = .ok (.invokevirtual 221, 3) := by decide +kernel
theorem dX12_works_189 : decode cX12_works 189 = .ok (.iconst 1, 1) := by decide +kernel
theorem dX12_works_190 : decode cX12_works 190 = .ok (.ireturn, 1) := by decide +kernel
theorem dX12_works_191 : decode cX12_works 191 = .ok (.aload_n 0, 1) := by decide +kernel
theorem dX12_works_192 : decode cX12_works 192 = .ok (.iload 4, 2) := by decide +kernel
theorem dX12_works_194 : decode cX12_works 194 = .ok (.invokevirtual 225, 3) := by decide +kernel
theorem dX12_works_197 : decode cX12_works 197 = .ok (.ireturn, 1) := by decide +kernel
theorem dX12_works_198 : decode cX12_works 198 = .ok (.iload_n 3, 1) := by decide +kernel
theorem dX12_works_199 : decode cX12_works 199 = .ok (.bipush 11, 2) := by decide +kernel
theorem dX12_works_201 : decode cX12_works 201 = .ok (.if_icmp .eq 22, 3) := by decide +kernel
theorem dX12_works_204 : decode cX12_works 204 = .ok (.aload_n 0, 1) := by decide +kernel
theorem dX12_works_205 : decode cX12_works 205 = .ok (.iload_n 3, 1) := by decide +kernel
theorem dX12_works_206 : decode cX12_works 206 = .ok (.bipush 8, 2) := by decide +kernel
theorem dX12_works_208 : decode cX12_works 208 = .ok (.if_icmp .ge 8, 3) := by decide +kernel
theorem dX12_works_211 : decode cX12_works 211 = .ok (.iload 4, 2) := by decide +kernel
theorem dX12_works_213 : decode cX12_works 213 = .ok (.goto 4, 3) := by decide +kernel
theorem dX12_works_216 : decode cX12_works 216 = .ok (.iconst 0, 1) := by decide +kernel
theorem dX12_works_217 : decode cX12_works 217 = .ok (.invokevirtual 225, 3) := by decide +kernel
theorem dX12_works_220 : decode cX12_works 220 = .ok (.ifCond .eq 7, 3) := by decide +kernel
theorem dX12_works_223 : decode cX12_works 223 = .ok (.iconst 1, 1) := by decide +kernel
theorem dX12_works_224 : decode cX12_works 224 = .ok (.goto 4, 3) := by decide +kernel
theorem dX12_works_227 : decode cX12_works 227 = .ok (.iconst 0, 1) := by decide +kernel
theorem dX12_works_228 : decode cX12_works 228 = .ok (.istore 5, 2) := by decide +kernel
theorem dX12_works_230 : decode cX12_works 230 = .ok (.iload 5, 2) := by decide +kernel
theorem dX12_works_232 : decode cX12_works 232 = .ok (.ifCond .eq 16, 3) := by decide +kernel
theorem dX12_works_235 : decode cX12_works 235 = .ok (.aload_n 0, 1) := by decide +kernel
theorem dX12_works_236 : decode cX12_works 236 = .ok (.iload 4, 2) := by decide +kernel
theorem dX12_works_238 : decode cX12_works 238 = .ok (.invokevirtual 225, 3) := by decide +kernel
theorem dX12_works_241 : decode cX12_works 241 = .ok (.ifCond .eq 7, 3) := by decide +kernel
theorem dX12_works_244 : decode cX12_works 244 = .ok (.iconst 1, 1) := by decide +kernel
theorem dX12_works_245 : decode cX12_works 245 = .ok (.goto 4, 3) := by decide +kernel
theorem dX12_works_248 : decode cX12_works 248 = .ok (.iconst 0, 1) := by decide +kernel
theorem dX12_works_249 : decode cX12_works 249 = .ok (.istore 5, 2) := by decide +kernel
theorem dX12_works_251 : decode cX12_works 251 = .ok (.aload_n 0, 1) := by decide +kernel
theorem dX12_works_252 : decode cX12_works 252 = .ok (.iload 4, 2) := by decide +kernel
theorem dX12_works_254 : decode cX12_works 254 = .ok (.invokevirtual 221, 3) := by decide +kernel
theorem dX12_works_257 : decode cX12_works 257 = .ok (.iload 5, 2) := by decide +kernel
theorem dX12_works_259 : decode cX12_works 259 = .ok (.ireturn, 1) := by decide +kernel
theorem dX12_works_260 : decode cX12_works 260 = .ok (.aload_n 0, 1) := by decide +kernel
theorem dX12_works_261 : decode cX12_works 261 = .ok (.iload_n 3, 1) := by decide +kernel
theorem dX12_works_262 : decode cX12_works 262 = .ok (.iconst 3, 1) := by decide +kernel
theorem dX12_works_263 : decode cX12_works 263 = .ok (.if_icmp .ne 7, 3) := by decide +kernel
theorem dX12_works_266 : decode cX12_works 266 = .ok (.iconst 1, 1) := by decide +kernel
theorem dX12_works_267 : decode cX12_works 267 = .ok (.goto 4, 3) := by decide +kernel
theorem dX12_works_270 : decode cX12_works 270 = .ok (.iconst 0, 1) := by decide +kernel
theorem dX12_works_271 : decode cX12_works 271 = .ok (.invokevirtual 225, 3) := by decide +kernel
theorem dX12_works_274 : decode cX12_works 274 = .ok (.istore 5, 2) := by decide +kernel
theorem dX12_works_276 : decode cX12_works 276 = .ok (.aload_n 0, 1) := by decide +kernel
theorem dX12_works_277 : decode cX12_works 277 = .ok (.iload_n 3, 1) := by decide +kernel
theorem dX12_works_278 : decode cX12_works 278 = .ok (.iconst 4, 1) := by decide +kernel
theorem dX12_works_279 : decode cX12_works 279 = .ok (.if_icmp .ne 7, 3) := by decide +kernel
theorem dX12_works_282 : decode cX12_works 282 = .ok (.iconst 1, 1) := by decide +kernel
theorem dX12_works_283 : decode cX12_works 283 = .ok (.goto 4, 3) := by decide +kernel
theorem dX12_works_286 : decode cX12_works 286 = .ok (.iconst 0, 1) := by decide +kernel
theorem dX12_works_287 : decode cX12_works 287 = .ok (.invokevirtual 221, 3) := by decide +kernel
theorem dX12_works_290 : decode cX12_works 290 = .ok (.iload 5, 2) := by decide +kernel
theorem dX12_works_292 : decode cX12_works 292 = .ok (.ireturn, 1) := by decide +kernel
theorem dX12_works_293 : decode cX12_works 293 = .ok (.iload_n 3, 1) := by decide +kernel
theorem dX12_works_294 : decode cX12_works 294 = .ok (.ifCond .ne 7, 3) := by decide +kernel
theorem dX12_works_297 : decode cX12_works 297 = .ok (.iconst 1, 1) := by decide +kernel
theorem dX12_works_298 : decode cX12_works 298 = .ok (.goto 13, 3) := by decide +kernel
theorem dX12_works_301 : decode cX12_works 301 = .ok (.iload_n 3, 1) := by decide +kernel
theorem dX12_works_302 : decode cX12_works 302 = .ok (.iconst 3, 1) := by decide +kernel
theorem dX12_works_303 : decode cX12_works 303 = .ok (.if_icmp .ge 7, 3) := by decide +kernel
theorem dX12_works_306 : decode cX12_works 306 = .ok (.iconst 2, 1) := by decide +kernel
theorem dX12_works_307 : decode cX12_works 307 = .ok (.goto 4, 3) := by decide +kernel
theorem dX12_works_310 : decode cX12_works 310 = .ok (.iconst 3, 1) := by decide +kernel
theorem dX12_works_311 : decode cX12_works 311 = .ok (.istore 7, 2) := by decide +kernel
theorem dX12_works_313 : decode cX12_works 313 = .ok (.aload_n 0, 1) := by decide +kernel
theorem dX12_works_314 : decode cX12_works 314 = .ok (.iload 7, 2) := by decide +kernel
theorem dX12_works_316 : decode cX12_works 316 = .ok (.invokevirtual 225, 3) := by decide +kernel
theorem dX12_works_319 : decode cX12_works 319 = .ok (.ifCond .eq 16, 3) := by decide +kernel
theorem dX12_works_322 : decode cX12_works 322 = .ok (.aload_n 0, 1) := by decide +kernel
theorem dX12_works_323 : decode cX12_works 323 = .ok (.iload 7, 2) := by decide +kernel
theorem dX12_works_325 : decode cX12_works 325 = .ok (.invokevirtual 225, 3) := by decide +kernel
theorem dX12_works_328 : decode cX12_works 328 = .ok (.ifCond .eq 7, 3) := by decide +kernel
theorem dX12_works_331 : decode cX12_works 331 = .ok (.iconst 1, 1) := by decide +kernel
theorem dX12_works_332 : decode cX12_works 332 = .ok (.goto 4, 3) := by decide +kernel
theorem dX12_works_335 : decode cX12_works 335 = .ok (.iconst 0, 1) := by decide +kernel
theorem dX12_works_336 : decode cX12_works 336 = .ok (.istore 5, 2) := by decide +kernel
theorem dX12_works_338 : decode cX12_works 338 = .ok (.aload_n 0, 1) := by decide +kernel
theorem dX12_works_339 : decode cX12_works 339 = .ok (.iconst 0, 1) := by decide +kernel
theorem dX12_works_340 : decode cX12_works 340 = .ok (.invokevirtual 221, 3) := by decide +kernel
theorem dX12_works_343 : decode cX12_works 343 = .ok (.iload 5, 2) := by decide +kernel
theorem dX12_works_345 : decode cX12_works 345 = .ok (.ireturn, 1) := by decide +kernel
theorem dX12_works_346 : decode cX12_works 346 = .ok (.aload_n 0, 1) := by decide +kernel
theorem dX12_works_347 : decode cX12_works 347 = .ok (.iconst 0, 1) := by decide +kernel
theorem dX12_works_348 : decode cX12_works 348 = .ok (.invokevirtual 225, 3) := by decide +kernel
theorem dX12_works_351 : decode cX12_works 351 = .ok (.ireturn, 1) := by decide +kernel
theorem dX12_works_352 : decode cX12_works 352 = .ok (.aload_n 0, 1) := by decide +kernel
theorem dX12_works_353 : decode cX12_works 353 = .ok (.iconst 4, 1) := by decide +kernel
theorem dX12_works_354 : decode cX12_works 354 = .ok (.invokevirtual 225, 3) := by decide +kernel
theorem dX12_works_357 : decode cX12_works 357 = .ok (.ireturn, 1) := by decide +kernel
theorem dX12_works_358 : decode cX12_works 358 = .ok (.iconst 0, 1) := by decide +kernel
theorem dX12_works_359 : decode cX12_works 359 = .ok (.istore 8, 2) := by decide +kernel
theorem dX12_works_361 : decode cX12_works 361 = .ok (.iload 8, 2) := by decide +kernel
theorem dX12_works_363 : decode cX12_works 363 = .ok (.iload 4, 2) := by decide +kernel
theorem dX12_works_365 : decode cX12_works 365 = .ok (.if_icmp .ge 21, 3) := by decide +kernel
theorem dX12_works_368 : decode cX12_works 368 = .ok (.iload 5, 2) := by decide +kernel
theorem dX12_works_370 : decode cX12_works 370 = .ok (.ifCond .eq 16, 3) := by decide +kernel
theorem dX12_works_373 : decode cX12_works 373 = .ok (.aload_n 0, 1) := by decide +kernel
theorem dX12_works_374 : decode cX12_works 374 = .ok (.iconst 0, 1) := by decide +kernel
theorem dX12_works_375 : decode cX12_works 375 = .ok (.invokevirtual 225, 3) := by decide +kernel
theorem dX12_works_378 : decode cX12_works 378 = .ok (.istore 5, 2) := by decide +kernel
theorem dX12_works_380 : decode cX12_works 380 = .ok (.iinc 8 1, 3) := by decide +kernel
theorem dX12_works_383 : decode cX12_works 383 = .ok (.goto (-22), 3) := by decide +kernel
theorem dX12_works_386 : decode cX12_works 386 = .ok (.aload_n 0, 1) := by decide +kernel
theorem dX12_works_387 : decode cX12_works 387 = .ok (.iconst 4, 1) := by decide +kernel
theorem dX12_works_388 : decode cX12_works 388 = .ok (.invokevirtual 221, 3) := by decide +kernel
theorem dX12_works_391 : decode cX12_works 391 = .ok (.iload 5, 2) := by decide +kernel
theorem dX12_works_393 : decode cX12_works 393 = .ok (.ireturn, 1) := by decide +kernel
theorem dX12_works_394 : decode cX12_works 394 = .ok (.aload_n 0, 1) := by decide +kernel
theorem dX12_works_395 : decode cX12_works 395 = .ok (.iconst 0, 1) := by decide +kernel
theorem dX12_works_396 : decode cX12_works 396 = .ok (.invokevirtual 225, 3) := by decide +kernel
theorem dX12_works_399 : decode cX12_works 399 = .ok (.ifCond .eq 15, 3) := by decide +kernel
theorem dX12_works_402 : decode cX12_works 402 = .ok (.aload_n 0, 1) := by decide +kernel
theorem dX12_works_403 : decode cX12_works 403 = .ok (.iconst 4, 1) := by decide +kernel
theorem dX12_works_404 : decode cX12_works 404 = .ok (.invokevirtual 225, 3) := by decide +kernel
theorem dX12_works_407 : decode cX12_works 407 = .ok (.ifCond .eq 7, 3) := by decide +kernel
theorem dX12_works_410 : decode cX12_works 410 = .ok (.iconst 1, 1) := by decide +kernel
theorem dX12_works_411 : decode cX12_works 411 = .ok (.goto 4, 3) := by decide +kernel
theorem dX12_works_414 : decode cX12_works 414 = .ok (.iconst 0, 1) := by decide +kernel
theorem dX12_works_415 : decode cX12_works 415 = .ok (.istore 5, 2) := by decide +kernel
theorem dX12_works_417 : decode cX12_works 417 = .ok (.aload_n 0, 1) := by decide +kernel
theorem dX12_works_418 : decode cX12_works 418 = .ok (.iload 6, 2) := by decide +kernel
theorem dX12_works_420 : decode cX12_works 420 = .ok (.invokevirtual 221, 3) := by decide +kernel
theorem dX12_works_423 : decode cX12_works 423 = .ok (.iload 5, 2) := by decide +kernel
theorem dX12_works_425 : decode cX12_works 425 = .ok (.ireturn, 1) := by decide +kernel
theorem dX12_works_426 : decode cX12_works 426 = .ok (.aload_n 0, 1) := by decide +kernel
theorem dX12_works_427 : decode cX12_works 427 = .ok (.iload 6, 2) := by decide +kernel
theorem dX12_works_429 : decode cX12_works 429 = .ok (.invokevirtual 225, 3) := by decide +kernel
theorem dX12_works_432 : decode cX12_works 432 = .ok (.ifCond .eq 23, 3) := by decide +kernel
theorem dX12_works_435 : decode cX12_works 435 = .ok (.aload_n 0, 1) := by decide +kernel
theorem dX12_works_436 : decode cX12_works 436 = .ok (.iconst 0, 1) := by decide +kernel
theorem dX12_works_437 : decode cX12_works 437 = .ok (.invokevirtual 225, 3) := by decide +kernel
theorem dX12_works_440 : decode cX12_works 440 = .ok (.ifCond .eq 15, 3) := by decide +kernel
theorem dX12_works_443 : decode cX12_works 443 = .ok (.aload_n 0, 1) := by decide +kernel
theorem dX12_works_444 : decode cX12_works 444 = .ok (.iconst 4, 1) := by decide +kernel
theorem dX12_works_445 : decode cX12_works 445 = .ok (.invokevirtual 225, 3) := by decide +kernel
theorem dX12_works_448 : decode cX12_works 448 = .ok (.ifCond .eq 7, 3) := by decide +kernel
theorem dX12_works_451 : decode cX12_works 451 = .ok (.iconst 1, 1) := by decide +kernel
theorem dX12_works_452 : decode cX12_works 452 = .ok (.goto 4, 3) := by decide +kernel
theorem dX12_works_455 : decode cX12_works 455 = .ok (.iconst 0, 1) := by decide +kernel
theorem dX12_works_456 : decode cX12_works 456 = .ok (.ireturn, 1) := by decide +kernel
theorem dX12_works_457 : decode cX12_works 457 = .ok (.aload_n 0, 1) := by decide +kernel
theorem dX12_works_458 : decode cX12_works 458 = .ok (.iconst 4, 1) := by decide +kernel
theorem dX12_works_459 : decode cX12_works 459 = .ok (.invokevirtual 225, 3) := by decide +kernel
theorem dX12_works_462 : decode cX12_works 462 = .ok (.istore 5, 2) := by decide +kernel
theorem dX12_works_464 : decode cX12_works 464 = .ok (.aload_n 0, 1) := by decide +kernel
theorem dX12_works_465 : decode cX12_works 465 = .ok (.iconst 0, 1) := by decide +kernel
theorem dX12_works_466 : decode cX12_works 466 = .ok (.invokevirtual 221, 3) := by decide +kernel
theorem dX12_works_469 : decode cX12_works 469 = .ok (.iload 5, 2) := by decide +kernel
theorem dX12_works_471 : decode cX12_works 471 = .ok (.ireturn, 1) := by decide +kernel
theorem dX12_works_472 : decode cX12_works 472 = .ok (.aload_n 0, 1) := by decide +kernel
theorem dX12_works_473 : decode cX12_works 473 = .ok (.iconst 4, 1) := by decide +kernel
theorem dX12_works_474 : decode cX12_works 474 = .ok (.invokevirtual 225, 3) := by decide +kernel
theorem dX12_works_477 : decode cX12_works 477 = .ok (.istore 5, 2) := by decide +kernel
theorem dX12_works_479 : decode cX12_works 479 = .ok (.aload_n 0, 1) := by decide +kernel
theorem dX12_works_480 : decode cX12_works 480 = .ok (.iconst 4, 1) := by decide +kernel
theorem dX12_works_481 : decode cX12_works 481 = .ok (.invokevirtual 221, 3) := by decide +kernel
theorem dX12_works_484 : decode cX12_works 484 = .ok (.iload 5, 2) := by decide +kernel
theorem dX12_works_486 : decode cX12_works 486 = .ok (.ireturn, 1) := by decide +kernel
theorem dX12_works_487 : decode cX12_works 487 = .ok (.aload_n 0, 1) := by decide +kernel
theorem dX12_works_488 : decode cX12_works 488 = .ok (.iconst 4, 1) := by decide +kernel
theorem dX12_works_489 : decode cX12_works 489 = .ok (.invokevirtual 221, 3) := by decide +kernel
theorem dX12_works_492 : decode cX12_works 492 = .ok (.iconst 1, 1) := by decide +kernel
theorem dX12_works_493 : decode cX12_works 493 = .ok (.ireturn, 1) := by decide +kernel
theorem dX12_works_494 : decode cX12_works 494 = .ok (.iload_n 3, 1) := by decide +kernel
theorem dX12_works_495 : decode cX12_works 495 = .ok (.iconst 5, 1) := by decide +kernel
theorem dX12_works_496 : decode cX12_works 496 = .ok (.if_icmp .eq 11, 3) := by decide +kernel
theorem dX12_works_499 : decode cX12_works 499 = .ok (.aload_n 0, 1) := by decide +kernel
theorem dX12_works_500 : decode cX12_works 500 = .ok (.iload_n 3, 1) := by decide +kernel
theorem dX12_works_501 : decode cX12_works 501 = .ok (.invokevirtual 225, 3) := by decide +kernel
theorem dX12_works_504 : decode cX12_works 504 = .ok (.ifCond .eq 7, 3) := by decide +kernel
theorem dX12_works_507 : decode cX12_works 507 = .ok (.iconst 1, 1) := by decide +kernel
theorem dX12_works_508 : decode cX12_works 508 = .ok (.goto 4, 3) := by decide +kernel
theorem dX12_works_511 : decode cX12_works 511 = .ok (.iconst 0, 1) := by decide +kernel
theorem dX12_works_512 : decode cX12_works 512 = .ok (.ireturn, 1) := by decide +kernel
theorem dX12_works_513 : decode cX12_works 513 = .ok (.aload_n 0, 1) := by decide +kernel
theorem dX12_works_514 : decode cX12_works 514 = .ok (.getfield 13, 3) := by decide +kernel
theorem dX12_works_517 : decode cX12_works 517 = .ok (.iload_n 3, 1) := by decide +kernel
theorem dX12_works_518 : decode cX12_works 518 = .ok (.iaload, 1) := by decide +kernel
theorem dX12_works_519 : decode cX12_works 519 = .ok (.iconst 1, 1) := by decide +kernel
theorem dX12_works_520 : decode cX12_works 520 = .ok (.isub, 1) := by decide +kernel
theorem dX12_works_521 : decode cX12_works 521 = .ok (.istore 8, 2) := by decide +kernel
theorem dX12_works_523 : decode cX12_works 523 = .ok (.iload 8, 2) := by decide +kernel
theorem dX12_works_525 : decode cX12_works 525 = .ok (.ifCond .lt 32, 3) := by decide +kernel
theorem dX12_works_528 : decode cX12_works 528 = .ok (.iload 5, 2) := by decide +kernel
theorem dX12_works_530 : decode cX12_works 530 = .ok (.ifCond .eq 27, 3) := by decide +kernel
theorem dX12_works_533 : decode cX12_works 533 = .ok (.aload_n 0, 1) := by decide +kernel
theorem dX12_works_534 : decode cX12_works 534 = .ok (.aload_n 0, 1) := by decide +kernel
theorem dX12_works_535 : decode cX12_works 535 = .ok (.getfield 19, 3) := by decide +kernel
theorem dX12_works_538 : decode cX12_works 538 = .ok (.bipush 8, 2) := by decide +kernel
theorem dX12_works_540 : decode cX12_works 540 = .ok (.iload_n 3, 1) := by decide +kernel
theorem dX12_works_541 : decode cX12_works 541 = .ok (.imul, 1) := by decide +kernel
theorem dX12_works_542 : decode cX12_works 542 = .ok (.iload 8, 2) := by decide +kernel
theorem dX12_works_544 : decode cX12_works 544 = .ok (.iadd, 1) := by decide +kernel
theorem dX12_works_545 : decode cX12_works 545 = .ok (.iaload, 1) := by decide +kernel
theorem dX12_works_546 : decode cX12_works 546 = .ok (.invokevirtual 225, 3) := by decide +kernel
theorem dX12_works_549 : decode cX12_works 549 = .ok (.istore 5, 2) := by decide +kernel
theorem dX12_works_551 : decode cX12_works 551 = .ok (.iinc 8 (-1), 3) := by decide +kernel
theorem dX12_works_554 : decode cX12_works 554 = .ok (.goto (-31), 3) := by decide +kernel
theorem dX12_works_557 : decode cX12_works 557 = .ok (.aload_n 0, 1) := by decide +kernel
theorem dX12_works_558 : decode cX12_works 558 = .ok (.getfield 7, 3) := by decide +kernel
theorem dX12_works_561 : decode cX12_works 561 = .ok (.iload_n 3, 1) := by decide +kernel
theorem dX12_works_562 : decode cX12_works 562 = .ok (.iaload, 1) := by decide +kernel
theorem dX12_works_563 : decode cX12_works 563 = .ok (.iconst 5, 1) := by decide +kernel
theorem dX12_works_564 : decode cX12_works 564 = .ok (.if_icmp .ge 13, 3) := by decide +kernel
theorem dX12_works_567 : decode cX12_works 567 = .ok (.aload_n 0, 1) := by decide +kernel
theorem dX12_works_568 : decode cX12_works 568 = .ok (.aload_n 0, 1) := by decide +kernel
theorem dX12_works_569 : decode cX12_works 569 = .ok (.getfield 7, 3) := by decide +kernel
theorem dX12_works_572 : decode cX12_works 572 = .ok (.iload_n 3, 1) := by decide +kernel
theorem dX12_works_573 : decode cX12_works 573 = .ok (.iaload, 1) := by decide +kernel
theorem dX12_works_574 : decode cX12_works 574 = .ok (.invokevirtual 221, 3) := by decide +kernel
theorem dX12_works_577 : decode cX12_works 577 = .ok (.iload 5, 2) := by decide +kernel
theorem dX12_works_579 : decode cX12_works 579 = .ok (.ireturn, 1) := by decide +kernel
theorem dX12_works_580 : decode cX12_works 580 = .ok (.iconst 1, 1) := by decide +kernel
theorem dX12_works_581 : decode cX12_works 581 = .ok (.ireturn, 1) := by decide +kernel
theorem dX12_done_0 : decode cX12_done 0 = .ok (.bipush 60, 2) := by decide +kernel
theorem dX12_done_2 : decode cX12_done 2 = .ok (.iload_n 1, 1) := by decide +kernel
theorem dX12_done_3 : decode cX12_done 3 = .ok (.imul, 1) := by decide +kernel
theorem dX12_done_4 : decode cX12_done 4 = .ok (.iload_n 2, 1) := by decide +kernel
theorem dX12_done_5 : decode cX12_done 5 = .ok (.iadd, 1) := by decide +kernel
theorem dX12_done_6 : decode cX12_done 6 = .ok (.istore_n 3, 1) := by decide +kernel
theorem dX12_done_7 : decode cX12_done 7 = .ok (.aload_n 0, 1) := by decide +kernel
theorem dX12_done_8 : decode cX12_done 8 = .ok (.getfield 25, 3) := by decide +kernel
theorem dX12_done_11 : decode cX12_done 11 = .ok (.iload_n 3, 1) := by decide +kernel
theorem dX12_done_12 : decode cX12_done 12 = .ok (.iaload, 1) := by decide +kernel
theorem dX12_done_13 : decode cX12_done 13 = .ok (.istore 4, 2) := by decide +kernel
theorem dX12_done_15 : decode cX12_done 15 = .ok (.aload_n 0, 1) := by decide +kernel
theorem dX12_done_16 : decode cX12_done 16 = .ok (.getfield 28, 3) := by decide +kernel
theorem dX12_done_19 : decode cX12_done 19 = .ok (.iload_n 3, 1) := by decide +kernel
theorem dX12_done_20 : decode cX12_done 20 = .ok (.iaload, 1) := by decide +kernel
theorem dX12_done_21 : decode cX12_done 21 = .ok (.istore 5, 2) := by decide +kernel
theorem dX12_done_23 : decode cX12_done 23 = .ok (.aload_n 0, 1) := by decide +kernel
theorem dX12_done_24 : decode cX12_done 24 = .ok (.getfield 31, 3) := by decide +kernel
theorem dX12_done_27 : decode cX12_done 27 = .ok (.iload_n 3, 1) := by decide +kernel
theorem dX12_done_28 : decode cX12_done 28 = .ok (.iaload, 1) := by decide +kernel
theorem dX12_done_29 : decode cX12_done 29 = .ok (.istore 6, 2) := by decide +kernel
theorem dX12_done_31 : decode cX12_done 31 = .ok (.aload_n 0, 1) := by decide +kernel
theorem dX12_done_32 : decode cX12_done 32 = .ok (.iload_n 1, 1) := by decide +kernel
theorem dX12_done_33 : decode cX12_done 33 = .ok (.iload_n 2, 1) := by decide +kernel
theorem dX12_done_34 : decode cX12_done 34 = .ok (.invokevirtual 243, 3) := by decide +kernel
theorem dX12_done_37 : decode cX12_done 37 = .ok (.aload_n 0, 1) := by decide +kernel
theorem dX12_done_38 : decode cX12_done 38 = .ok (.iload 4, 2) := by decide +kernel
theorem dX12_done_40 : decode cX12_done 40 = .ok (.iload 5, 2) := by decide +kernel
theorem dX12_done_42 : decode cX12_done 42 = .ok (.iload 6, 2) := by decide +kernel
theorem dX12_done_44 : decode cX12_done 44 = .ok (.invokevirtual 246, 3) := by decide +kernel
theorem dX12_done_47 : decode cX12_done 47 = .ok (.ifCond .eq 12, 3) := by decide +kernel
theorem dX12_done_50 : decode cX12_done 50 = .ok (.aload_n 0, 1) := by decide +kernel
theorem dX12_done_51 : decode cX12_done 51 = .ok (.iload_n 1, 1) := by decide +kernel
theorem dX12_done_52 : decode cX12_done 52 = .ok (.iload_n 2, 1) := by decide +kernel
theorem dX12_done_53 : decode cX12_done 53 = .ok (.bipush 7, 2) := by decide +kernel
theorem dX12_done_55 : decode cX12_done 55 = .ok (.invokevirtual 228, 3) := by decide +kernel
theorem dX12_done_58 : decode cX12_done 58 = .ok (.ireturn, 1) := by decide +kernel
theorem dX12_done_59 : decode cX12_done 59 = .ok (.aload_n 0, 1) := by decide +kernel
theorem dX12_done_60 : decode cX12_done 60 = .ok (.iload_n 1, 1) := by decide +kernel
theorem dX12_done_61 : decode cX12_done 61 = .ok (.iload_n 2, 1) := by decide +kernel
theorem dX12_done_62 : decode cX12_done 62 = .ok (.iload 4, 2) := by decide +kernel
theorem dX12_done_64 : decode cX12_done 64 = .ok (.iload 5, 2) := by decide +kernel
theorem dX12_done_66 : decode cX12_done 66 = .ok (.invokevirtual 250, 3) := by decide +kernel
theorem dX12_done_69 : decode cX12_done 69 = .ok (.ifCond .eq 11, 3) := by decide +kernel
theorem dX12_done_72 : decode cX12_done 72 = .ok (.aload_n 0, 1) := by decide +kernel
theorem dX12_done_73 : decode cX12_done 73 = .ok (.iload_n 1, 1) := by decide +kernel
theorem dX12_done_74 : decode cX12_done 74 = .ok (.iload_n 2, 1) := by decide +kernel
theorem dX12_done_75 : decode cX12_done 75 = .ok (.iconst 2, 1) := by decide +kernel
theorem dX12_done_76 : decode cX12_done 76 = .ok (.invokevirtual 228, 3) := by decide +kernel
theorem dX12_done_79 : decode cX12_done 79 = .ok (.ireturn, 1) := by decide +kernel
theorem dX12_done_80 : decode cX12_done 80 = .ok (.iload 4, 2) := by decide +kernel
theorem dX12_done_82 : decode cX12_done 82 = .ok (.i2l, 1) := by decide +kernel
theorem dX12_done_83 : decode cX12_done 83 = .ok (.ldc2_w 193, 3) := by decide +kernel
theorem dX12_done_86 : decode cX12_done 86 = .ok (.ldc2_w 254, 3) := by decide +kernel
theorem dX12_done_89 : decode cX12_done 89 = .ok (.invokestatic 151, 3) := by decide +kernel
theorem dX12_done_92 : decode cX12_done 92 = .ok (.ifCond .eq 15, 3) := by decide +kernel
theorem dX12_done_95 : decode cX12_done 95 = .ok (.aload_n 0, 1) := by decide +kernel
theorem dX12_done_96 : decode cX12_done 96 = .ok (.iload 4, 2) := by decide +kernel
theorem dX12_done_98 : decode cX12_done 98 = .ok (.invokevirtual 256, 3) := by decide +kernel
theorem dX12_done_101 : decode cX12_done 101 = .ok (.ifCond .eq 20, 3) := by decide +kernel
theorem dX12_done_104 : decode cX12_done 104 = .ok (.goto 25, 3) := by decide +kernel
theorem dX12_done_107 : decode cX12_done 107 = .ok (.aload_n 0, 1) := by decide +kernel
theorem dX12_done_108 : decode cX12_done 108 = .ok (.iload_n 1, 1) := by decide +kernel
theorem dX12_done_109 : decode cX12_done 109 = .ok (.iload 4, 2) := by decide +kernel
theorem dX12_done_111 : decode cX12_done 111 = .ok (.iload 5, 2) := by decide +kernel
theorem dX12_done_113 : decode cX12_done 113 = .ok (.iload 6, 2) := by decide +kernel
theorem dX12_done_115 : decode cX12_done 115 = .ok (.invokevirtual 259, 3) := by decide +kernel
theorem dX12_done_118 : decode cX12_done 118 = .ok (.ifCond .ne 11, 3) := by decide +kernel
theorem dX12_done_121 : decode cX12_done 121 = .ok (.aload_n 0, 1) := by decide +kernel
theorem dX12_done_122 : decode cX12_done 122 = .ok (.iload_n 1, 1) := by decide +kernel
theorem dX12_done_123 : decode cX12_done 123 = .ok (.iload_n 2, 1) := by decide +kernel
theorem dX12_done_124 : decode cX12_done 124 = .ok (.iconst 3, 1) := by decide +kernel
theorem dX12_done_125 : decode cX12_done 125 = .ok (.invokevirtual 228, 3) := by decide +kernel
theorem dX12_done_128 : decode cX12_done 128 = .ok (.ireturn, 1) := by decide +kernel
theorem dX12_done_129 : decode cX12_done 129 = .ok (.iload 4, 2) := by decide +kernel
theorem dX12_done_131 : decode cX12_done 131 = .ok (.iconst 5, 1) := by decide +kernel
theorem dX12_done_132 : decode cX12_done 132 = .ok (.if_icmp .ne 14, 3) := by decide +kernel
theorem dX12_done_135 : decode cX12_done 135 = .ok (.aload_n 0, 1) := by decide +kernel
theorem dX12_done_136 : decode cX12_done 136 = .ok (.iload 5, 2) := by decide +kernel
theorem dX12_done_138 : decode cX12_done 138 = .ok (.iload 6, 2) := by decide +kernel
theorem dX12_done_140 : decode cX12_done 140 = .ok (.invokevirtual 262, 3) := by decide +kernel
theorem dX12_done_143 : decode cX12_done 143 = .ok (.ifCond .eq 20, 3) := by decide +kernel
theorem dX12_done_146 : decode cX12_done 146 = .ok (.iload 4, 2) := by decide +kernel
theorem dX12_done_148 : decode cX12_done 148 = .ok (.bipush 7, 2) := by decide +kernel
theorem dX12_done_150 : decode cX12_done 150 = .ok (.if_icmp .ne 21, 3) := by decide +kernel
theorem dX12_done_153 : decode cX12_done 153 = .ok (.aload_n 0, 1) := by decide +kernel
theorem dX12_done_154 : decode cX12_done 154 = .ok (.getfield 93, 3) := by decide +kernel
theorem dX12_done_157 : decode cX12_done 157 = .ok (.iload 5, 2) := by decide +kernel
theorem dX12_done_159 : decode cX12_done 159 = .ok (.iaload, 1) := by decide +kernel
theorem dX12_done_160 : decode cX12_done 160 = .ok (.ifCond .eq 11, 3) := by decide +kernel
theorem dX12_done_163 : decode cX12_done 163 = .ok (.aload_n 0, 1) := by decide +kernel
theorem dX12_done_164 : decode cX12_done 164 = .ok (.iload_n 1, 1) := by decide +kernel
theorem dX12_done_165 : decode cX12_done 165 = .ok (.iload_n 2, 1) := by decide +kernel
theorem dX12_done_166 : decode cX12_done 166 = .ok (.iconst 5, 1) := by decide +kernel
theorem dX12_done_167 : decode cX12_done 167 = .ok (.invokevirtual 228, 3) := by decide +kernel
theorem dX12_done_170 : decode cX12_done 170 = .ok (.ireturn, 1) := by decide +kernel
theorem dX12_done_171 : decode cX12_done 171 = .ok (.iload 4, 2) := by decide +kernel
theorem dX12_done_173 : decode cX12_done 173 = .ok (.bipush 34, 2) := by decide +kernel
theorem dX12_done_175 : decode cX12_done 175 = .ok (.if_icmp .ne 23, 3) := by decide +kernel
theorem dX12_done_178 : decode cX12_done 178 = .ok (.aload_n 0, 1) := by decide +kernel
theorem dX12_done_179 : decode cX12_done 179 = .ok (.getfield 7, 3) := by decide +kernel
theorem dX12_done_182 : decode cX12_done 182 = .ok (.iload_n 1, 1) := by decide +kernel
theorem dX12_done_183 : decode cX12_done 183 = .ok (.iaload, 1) := by decide +kernel
theorem dX12_done_184 : decode cX12_done 184 = .ok (.iload 5, 2) := by decide +kernel
theorem dX12_done_186 : decode cX12_done 186 = .ok (.if_icmp .eq 12, 3) := by decide +kernel
theorem dX12_done_189 : decode cX12_done 189 = .ok (.aload_n 0, 1) := by decide +kernel
theorem dX12_done_190 : decode cX12_done 190 = .ok (.iload_n 1, 1) := by decide +kernel
theorem dX12_done_191 : decode cX12_done 191 = .ok (.iload_n 2, 1) := by decide +kernel
theorem dX12_done_192 : decode cX12_done 192 = .ok (.bipush 8, 2) := by decide +kernel
theorem dX12_done_194 : decode cX12_done 194 = .ok (.invokevirtual 228, 3) := by decide +kernel
theorem dX12_done_197 : decode cX12_done 197 = .ok (.ireturn, 1) := by decide +kernel
theorem dX12_done_198 : decode cX12_done 198 = .ok (.aload_n 0, 1) := by decide +kernel
theorem dX12_done_199 : decode cX12_done 199 = .ok (.getfield 212, 3) := by decide +kernel
theorem dX12_done_202 : decode cX12_done 202 = .ok (.bipush 12, 2) := by decide +kernel
theorem dX12_done_204 : decode cX12_done 204 = .ok (.if_icmp .le 11, 3) := by decide +kernel
theorem dX12_done_207 : decode cX12_done 207 = .ok (.aload_n 0, 1) := by decide +kernel
theorem dX12_done_208 : decode cX12_done 208 = .ok (.iload_n 1, 1) := by decide +kernel
theorem dX12_done_209 : decode cX12_done 209 = .ok (.iload_n 2, 1) := by decide +kernel
theorem dX12_done_210 : decode cX12_done 210 = .ok (.iconst 4, 1) := by decide +kernel
theorem dX12_done_211 : decode cX12_done 211 = .ok (.invokevirtual 228, 3) := by decide +kernel
theorem dX12_done_214 : decode cX12_done 214 = .ok (.ireturn, 1) := by decide +kernel
theorem dX12_done_215 : decode cX12_done 215 = .ok (.iload 4, 2) := by decide +kernel
theorem dX12_done_217 : decode cX12_done 217 = .ok (.bipush 20, 2) := by decide +kernel
theorem dX12_done_219 : decode cX12_done 219 = .ok (.if_icmp .eq 28, 3) := by decide +kernel
theorem dX12_done_222 : decode cX12_done 222 = .ok (.iload 4, 2) := by decide +kernel
theorem dX12_done_224 : decode cX12_done 224 = .ok (.bipush 23, 2) := by decide +kernel
theorem dX12_done_226 : decode cX12_done 226 = .ok (.if_icmp .eq 21, 3) := by decide +kernel
theorem dX12_done_229 : decode cX12_done 229 = .ok (.iload 4, 2) := by decide +kernel
theorem dX12_done_231 : decode cX12_done 231 = .ok (.bipush 31, 2) := by decide +kernel
theorem dX12_done_233 : decode cX12_done 233 = .ok (.if_icmp .eq 14, 3) := by decide +kernel
theorem dX12_done_236 : decode cX12_done 236 = .ok (.iload 4, 2) := by decide +kernel
theorem dX12_done_238 : decode cX12_done 238 = .ok (.bipush 34, 2) := by decide +kernel
theorem dX12_done_240 : decode cX12_done 240 = .ok (.if_icmp .eq 7, 3) := by decide +kernel
theorem dX12_done_243 : decode cX12_done 243 = .ok (.iconst 1, 1) := by decide +kernel
theorem dX12_done_244 : decode cX12_done 244 = .ok (.goto 4, 3) := by decide +kernel
theorem dX12_done_247 : decode cX12_done 247 = .ok (.iconst 0, 1) := by decide +kernel
theorem dX12_done_248 : decode cX12_done 248 = .ok (.istore 7, 2) := by decide +kernel
theorem dX12_done_250 : decode cX12_done 250 = .ok (.iload 7, 2) := by decide +kernel
theorem dX12_done_252 : decode cX12_done 252 = .ok (.ifCond .eq 23, 3) := by decide +kernel
theorem dX12_done_255 : decode cX12_done 255 = .ok (.iload_n 2, 1) := by decide +kernel
theorem dX12_done_256 : decode cX12_done 256 = .ok (.iconst 1, 1) := by decide +kernel
theorem dX12_done_257 : decode cX12_done 257 = .ok (.iadd, 1) := by decide +kernel
theorem dX12_done_258 : decode cX12_done 258 = .ok (.aload_n 0, 1) := by decide +kernel
theorem dX12_done_259 : decode cX12_done 259 = .ok (.getfield 22, 3) := by decide +kernel
theorem dX12_done_262 : decode cX12_done 262 = .ok (.iload_n 1, 1) := by decide +kernel
theorem dX12_done_263 : decode cX12_done 263 = .ok (.iaload, 1) := by decide +kernel
theorem dX12_done_264 : decode cX12_done 264 = .ok (.if_icmp .ne 11, 3) := by decide +kernel
theorem dX12_done_267 : decode cX12_done 267 = .ok (.aload_n 0, 1) := by decide +kernel
theorem dX12_done_268 : decode cX12_done 268 = .ok (.iload_n 1, 1) := by decide +kernel
theorem dX12_done_269 : decode cX12_done 269 = .ok (.iload_n 2, 1) := by decide +kernel
theorem dX12_done_270 : decode cX12_done 270 = .ok (.iconst 1, 1) := by decide +kernel
theorem dX12_done_271 : decode cX12_done 271 = .ok (.invokevirtual 228, 3) := by decide +kernel
theorem dX12_done_274 : decode cX12_done 274 = .ok (.ireturn, 1) := by decide +kernel
theorem dX12_done_275 : decode cX12_done 275 = .ok (.iload 4, 2) := by decide +kernel
theorem dX12_done_277 : decode cX12_done 277 = .ok (.bipush 6, 2) := by decide +kernel
theorem dX12_done_279 : decode cX12_done 279 = .ok (.if_icmp .ne 11, 3) := by decide +kernel
theorem dX12_done_282 : decode cX12_done 282 = .ok (.aload_n 0, 1) := by decide +kernel
theorem dX12_done_283 : decode cX12_done 283 = .ok (.iload 5, 2) := by decide +kernel
theorem dX12_done_285 : decode cX12_done 285 = .ok (.iload 6, 2) := by decide +kernel
theorem dX12_done_287 : decode cX12_done 287 = .ok (.invokevirtual 232, 3) := by decide +kernel
theorem dX12_done_290 : decode cX12_done 290 = .ok (.aload_n 0, 1) := by decide +kernel
theorem dX12_done_291 : decode cX12_done 291 = .ok (.invokevirtual 265, 3) := by decide +kernel
theorem dX12_done_294 : decode cX12_done 294 = .ok (.aload_n 0, 1) := by decide +kernel
theorem dX12_done_295 : decode cX12_done 295 = .ok (.iload_n 1, 1) := by decide +kernel
theorem dX12_done_296 : decode cX12_done 296 = .ok (.iload_n 2, 1) := by decide +kernel
theorem dX12_done_297 : decode cX12_done 297 = .ok (.iload 4, 2) := by decide +kernel
theorem dX12_done_299 : decode cX12_done 299 = .ok (.iload 5, 2) := by decide +kernel
theorem dX12_done_301 : decode cX12_done 301 = .ok (.iload 7, 2) := by decide +kernel
theorem dX12_done_303 : decode cX12_done 303 = .ok (.invokevirtual 268, 3) := by decide +kernel
theorem dX12_done_306 : decode cX12_done 306 = .ok (.ireturn, 1) := by decide +kernel
