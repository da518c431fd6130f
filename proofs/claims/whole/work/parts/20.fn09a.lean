theorem dX12_newArray_0 : decode cX12_newArray 0 = .ok (.iload_n 3, 1) := by decide +kernel
theorem dX12_newArray_1 : decode cX12_newArray 1 = .ok (.iconst 2, 1) := by decide +kernel
theorem dX12_newArray_2 : decode cX12_newArray 2 = .ok (.if_icmp .le 12, 3) := by decide +kernel
theorem dX12_newArray_5 : decode cX12_newArray 5 = .ok (.aload_n 0, 1) := by decide +kernel
theorem dX12_newArray_6 : decode cX12_newArray 6 = .ok (.iload_n 1, 1) := by decide +kernel
theorem dX12_newArray_7 : decode cX12_newArray 7 = .ok (.invokevirtual 409, 3) := by decide +kernel
theorem dX12_newArray_10 : decode cX12_newArray 10 = .ok (.i2l, 1) := by decide +kernel
theorem dX12_newArray_11 : decode cX12_newArray 11 = .ok (.goto 4, 3) := by decide +kernel
theorem dX12_newArray_14 : decode cX12_newArray 14 = .ok (.lconst 0, 1) := by decide +kernel
theorem dX12_newArray_15 : decode cX12_newArray 15 = .ok (.lstore 4, 2) := by decide +kernel
theorem dX12_newArray_17 : decode cX12_newArray 17 = .ok (.iload_n 3, 1) := by decide +kernel
theorem dX12_newArray_18 : decode cX12_newArray 18 = .ok (.iconst 1, 1) := by decide +kernel
theorem dX12_newArray_19 : decode cX12_newArray 19 = .ok (.if_icmp .le 12, 3) := by decide +kernel
theorem dX12_newArray_22 : decode cX12_newArray 22 = .ok (.aload_n 0, 1) := by decide +kernel
theorem dX12_newArray_23 : decode cX12_newArray 23 = .ok (.iload_n 1, 1) := by decide +kernel
theorem dX12_newArray_24 : decode cX12_newArray 24 = .ok (.invokevirtual 409, 3) := by decide +kernel
theorem dX12_newArray_27 : decode cX12_newArray 27 = .ok (.i2l, 1) := by decide +kernel
theorem dX12_newArray_28 : decode cX12_newArray 28 = .ok (.goto 4, 3) := by decide +kernel
theorem dX12_newArray_31 : decode cX12_newArray 31 = .ok (.lconst 0, 1) := by decide +kernel
theorem dX12_newArray_32 : decode cX12_newArray 32 = .ok (.lstore 6, 2) := by decide +kernel
theorem dX12_newArray_34 : decode cX12_newArray 34 = .ok (.aload_n 0, 1) := by decide +kernel
theorem dX12_newArray_35 : decode cX12_newArray 35 = .ok (.iload_n 1, 1) := by decide +kernel
theorem dX12_newArray_36 : decode cX12_newArray 36 = .ok (.invokevirtual 409, 3) := by decide +kernel
theorem dX12_newArray_39 : decode cX12_newArray 39 = .ok (.i2l, 1) := by decide +kernel
theorem dX12_newArray_40 : decode cX12_newArray 40 = .ok (.lstore 8, 2) := by decide +kernel
theorem dX12_newArray_42 : decode cX12_newArray 42 = .ok (.lload 8, 2) := by decide +kernel
theorem dX12_newArray_44 : decode cX12_newArray 44 = .ok (.lconst 0, 1) := by decide +kernel
theorem dX12_newArray_45 : decode cX12_newArray 45 = .ok (.lcmp, 1) := by decide +kernel
theorem dX12_newArray_46 : decode cX12_newArray 46 = .ok (.ifCond .lt 17, 3) := by decide +kernel
theorem dX12_newArray_49 : decode cX12_newArray 49 = .ok (.lload 6, 2) := by decide +kernel
theorem dX12_newArray_51 : decode cX12_newArray 51 = .ok (.lconst 0, 1) := by decide +kernel
theorem dX12_newArray_52 : decode cX12_newArray 52 = .ok (.lcmp, 1) := by decide +kernel
theorem dX12_newArray_53 : decode cX12_newArray 53 = .ok (.ifCond .lt 10, 3) := by decide +kernel
theorem dX12_newArray_56 : decode cX12_newArray 56 = .ok (.lload 4, 2) := by decide +kernel
theorem dX12_newArray_58 : decode cX12_newArray 58 = .ok (.lconst 0, 1) := by decide +kernel
theorem dX12_newArray_59 : decode cX12_newArray 59 = .ok (.lcmp, 1) := by decide +kernel
theorem dX12_newArray_60 : decode cX12_newArray 60 = .ok (.ifCond .ge 9, 3) := by decide +kernel
theorem dX12_newArray_63 : decode cX12_newArray 63 = .ok (.aload_n 0, 1) := by decide +kernel
theorem dX12_newArray_64 : decode cX12_newArray 64 = .ok (.iconst 4, 1) := by decide +kernel
theorem dX12_newArray_65 : decode cX12_newArray 65 = .ok (.invokevirtual 373, 3) := by decide +kernel
theorem dX12_newArray_68 : decode cX12_newArray 68 = .ok (.return_, 1) := by decide +kernel
theorem dX12_newArray_69 : decode cX12_newArray 69 = .ok (.iload_n 3, 1) := by decide +kernel
theorem dX12_newArray_70 : decode cX12_newArray 70 = .ok (.iconst 1, 1) := by decide +kernel
theorem dX12_newArray_71 : decode cX12_newArray 71 = .ok (.if_icmp .le 8, 3) := by decide +kernel
theorem dX12_newArray_74 : decode cX12_newArray 74 = .ok (.lload 8, 2) := by decide +kernel
theorem dX12_newArray_76 : decode cX12_newArray 76 = .ok (.goto 4, 3) := by decide +kernel
theorem dX12_newArray_79 : decode cX12_newArray 79 = .ok (.lconst 0, 1) := by decide +kernel
theorem dX12_newArray_80 : decode cX12_newArray 80 = .ok (.lstore 10, 2) := by decide +kernel
theorem dX12_newArray_82 : decode cX12_newArray 82 = .ok (.lload 8, 2) := by decide +kernel
theorem dX12_newArray_84 : decode cX12_newArray 84 = .ok (.ldc2_w 421, 3) := by decide +kernel
theorem dX12_newArray_87 : decode cX12_newArray 87 = .ok (.lcmp, 1) := by decide +kernel
theorem dX12_newArray_88 : decode cX12_newArray 88 = .ok (.ifCond .gt 47, 3) := by decide +kernel
theorem dX12_newArray_91 : decode cX12_newArray 91 = .ok (.lload 10, 2) := by decide +kernel
theorem dX12_newArray_93 : decode cX12_newArray 93 = .ok (.lconst 0, 1) := by decide +kernel
theorem dX12_newArray_94 : decode cX12_newArray 94 = .ok (.lcmp, 1) := by decide +kernel
theorem dX12_newArray_95 : decode cX12_newArray 95 = .ok (.ifCond .le 12, 3) := by decide +kernel
theorem dX12_newArray_98 : decode cX12_newArray 98 = .ok (.lload 6, 2) := by decide +kernel
theorem dX12_newArray_100 : decode cX12_newArray 100 = .ok (.ldc2_w 421, 3) := by decide +kernel
theorem dX12_newArray_103 : decode cX12_newArray 103 = .ok (.lcmp, 1) := by decide +kernel
theorem dX12_newArray_104 : decode cX12_newArray 104 = .ok (.ifCond .gt 31, 3) := by decide +kernel
theorem dX12_newArray_107 : decode cX12_newArray 107 = .ok (.iload_n 3, 1) := by decide +kernel
theorem dX12_newArray_108 : decode cX12_newArray 108 = .ok (.iconst 2, 1) := by decide +kernel
theorem dX12_newArray_109 : decode cX12_newArray 109 = .ok (.if_icmp .le 30, 3) := by decide +kernel
theorem dX12_newArray_112 : decode cX12_newArray 112 = .ok (.lload 10, 2) := by decide +kernel
theorem dX12_newArray_114 : decode cX12_newArray 114 = .ok (.lconst 0, 1) := by decide +kernel
theorem dX12_newArray_115 : decode cX12_newArray 115 = .ok (.lcmp, 1) := by decide +kernel
theorem dX12_newArray_116 : decode cX12_newArray 116 = .ok (.ifCond .le 23, 3) := by decide +kernel
theorem dX12_newArray_119 : decode cX12_newArray 119 = .ok (.lload 6, 2) := by decide +kernel
theorem dX12_newArray_121 : decode cX12_newArray 121 = .ok (.lconst 0, 1) := by decide +kernel
theorem dX12_newArray_122 : decode cX12_newArray 122 = .ok (.lcmp, 1) := by decide +kernel
theorem dX12_newArray_123 : decode cX12_newArray 123 = .ok (.ifCond .le 16, 3) := by decide +kernel
theorem dX12_newArray_126 : decode cX12_newArray 126 = .ok (.lload 4, 2) := by decide +kernel
theorem dX12_newArray_128 : decode cX12_newArray 128 = .ok (.ldc2_w 421, 3) := by decide +kernel
theorem dX12_newArray_131 : decode cX12_newArray 131 = .ok (.lcmp, 1) := by decide +kernel
theorem dX12_newArray_132 : decode cX12_newArray 132 = .ok (.ifCond .le 7, 3) := by decide +kernel
theorem dX12_newArray_135 : decode cX12_newArray 135 = .ok (.iconst 1, 1) := by decide +kernel
theorem dX12_newArray_136 : decode cX12_newArray 136 = .ok (.goto 4, 3) := by decide +kernel
theorem dX12_newArray_139 : decode cX12_newArray 139 = .ok (.iconst 0, 1) := by decide +kernel
theorem dX12_newArray_140 : decode cX12_newArray 140 = .ok (.istore 12, 2) := by decide +kernel
theorem dX12_newArray_142 : decode cX12_newArray 142 = .ok (.lconst 1, 1) := by decide +kernel
theorem dX12_newArray_143 : decode cX12_newArray 143 = .ok (.lload 10, 2) := by decide +kernel
theorem dX12_newArray_145 : decode cX12_newArray 145 = .ok (.ladd, 1) := by decide +kernel
theorem dX12_newArray_146 : decode cX12_newArray 146 = .ok (.iload_n 3, 1) := by decide +kernel
theorem dX12_newArray_147 : decode cX12_newArray 147 = .ok (.iconst 2, 1) := by decide +kernel
theorem dX12_newArray_148 : decode cX12_newArray 148 = .ok (.if_icmp .le 16, 3) := by decide +kernel
theorem dX12_newArray_151 : decode cX12_newArray 151 = .ok (.iload 12, 2) := by decide +kernel
theorem dX12_newArray_153 : decode cX12_newArray 153 = .ok (.ifCond .ne 11, 3) := by decide +kernel
theorem dX12_newArray_156 : decode cX12_newArray 156 = .ok (.lload 10, 2) := by decide +kernel
theorem dX12_newArray_158 : decode cX12_newArray 158 = .ok (.lload 6, 2) := by decide +kernel
theorem dX12_newArray_160 : decode cX12_newArray 160 = .ok (.lmul, 1) := by decide +kernel
theorem dX12_newArray_161 : decode cX12_newArray 161 = .ok (.goto 4, 3) := by decide +kernel
theorem dX12_newArray_164 : decode cX12_newArray 164 = .ok (.lconst 0, 1) := by decide +kernel
theorem dX12_newArray_165 : decode cX12_newArray 165 = .ok (.ladd, 1) := by decide +kernel
theorem dX12_newArray_166 : decode cX12_newArray 166 = .ok (.lstore 13, 2) := by decide +kernel
theorem dX12_newArray_168 : decode cX12_newArray 168 = .ok (.iload 12, 2) := by decide +kernel
theorem dX12_newArray_170 : decode cX12_newArray 170 = .ok (.ifCond .ne 18, 3) := by decide +kernel
theorem dX12_newArray_173 : decode cX12_newArray 173 = .ok (.aload_n 0, 1) := by decide +kernel
theorem dX12_newArray_174 : decode cX12_newArray 174 = .ok (.getfield 296, 3) := by decide +kernel
theorem dX12_newArray_177 : decode cX12_newArray 177 = .ok (.i2l, 1) := by decide +kernel
theorem dX12_newArray_178 : decode cX12_newArray 178 = .ok (.lload 13, 2) := by decide +kernel
theorem dX12_newArray_180 : decode cX12_newArray 180 = .ok (.ladd, 1) := by decide +kernel
theorem dX12_newArray_181 : decode cX12_newArray 181 = .ok (.ldc2_w 176, 3) := by decide +kernel
theorem dX12_newArray_184 : decode cX12_newArray 184 = .ok (.lcmp, 1) := by decide +kernel
theorem dX12_newArray_185 : decode cX12_newArray 185 = .ok (.ifCond .le 10, 3) := by decide +kernel
theorem dX12_newArray_188 : decode cX12_newArray 188 = .ok (.aload_n 0, 1) := by decide +kernel
theorem dX12_newArray_189 : decode cX12_newArray 189 = .ok (.bipush 7, 2) := by decide +kernel
theorem dX12_newArray_191 : decode cX12_newArray 191 = .ok (.invokevirtual 373, 3) := by decide +kernel
theorem dX12_newArray_194 : decode cX12_newArray 194 = .ok (.return_, 1) := by decide +kernel
theorem dX12_newArray_195 : decode cX12_newArray 195 = .ok (.aload_n 0, 1) := by decide +kernel
theorem dX12_newArray_196 : decode cX12_newArray 196 = .ok (.iload_n 2, 1) := by decide +kernel
theorem dX12_newArray_197 : decode cX12_newArray 197 = .ok (.lload 8, 2) := by decide +kernel
theorem dX12_newArray_199 : decode cX12_newArray 199 = .ok (.l2i, 1) := by decide +kernel
theorem dX12_newArray_200 : decode cX12_newArray 200 = .ok (.invokevirtual 343, 3) := by decide +kernel
theorem dX12_newArray_203 : decode cX12_newArray 203 = .ok (.istore 15, 2) := by decide +kernel
theorem dX12_newArray_205 : decode cX12_newArray 205 = .ok (.iconst 0, 1) := by decide +kernel
theorem dX12_newArray_206 : decode cX12_newArray 206 = .ok (.istore 16, 2) := by decide +kernel
theorem dX12_newArray_208 : decode cX12_newArray 208 = .ok (.iload 16, 2) := by decide +kernel
theorem dX12_newArray_210 : decode cX12_newArray 210 = .ok (.i2l, 1) := by decide +kernel
theorem dX12_newArray_211 : decode cX12_newArray 211 = .ok (.lload 10, 2) := by decide +kernel
theorem dX12_newArray_213 : decode cX12_newArray 213 = .ok (.lcmp, 1) := by decide +kernel
theorem dX12_newArray_214 : decode cX12_newArray 214 = .ok (.ifCond .ge 90, 3) := by decide +kernel
theorem dX12_newArray_217 : decode cX12_newArray 217 = .ok (.aload_n 0, 1) := by decide +kernel
theorem dX12_newArray_218 : decode cX12_newArray 218 = .ok (.iload_n 2, 1) := by decide +kernel
theorem dX12_newArray_219 : decode cX12_newArray 219 = .ok (.bipush 8, 2) := by decide +kernel
theorem dX12_newArray_221 : decode cX12_newArray 221 = .ok (.isub, 1) := by decide +kernel
theorem dX12_newArray_222 : decode cX12_newArray 222 = .ok (.lload 6, 2) := by decide +kernel
theorem dX12_newArray_224 : decode cX12_newArray 224 = .ok (.l2i, 1) := by decide +kernel
theorem dX12_newArray_225 : decode cX12_newArray 225 = .ok (.invokevirtual 343, 3) := by decide +kernel
theorem dX12_newArray_228 : decode cX12_newArray 228 = .ok (.istore 17, 2) := by decide +kernel
theorem dX12_newArray_230 : decode cX12_newArray 230 = .ok (.aload_n 0, 1) := by decide +kernel
theorem dX12_newArray_231 : decode cX12_newArray 231 = .ok (.getfield 127, 3) := by decide +kernel
theorem dX12_newArray_234 : decode cX12_newArray 234 = .ok (.aload_n 0, 1) := by decide +kernel
theorem dX12_newArray_235 : decode cX12_newArray 235 = .ok (.getfield 124, 3) := by decide +kernel
theorem dX12_newArray_238 : decode cX12_newArray 238 = .ok (.iload 15, 2) := by decide +kernel
theorem dX12_newArray_240 : decode cX12_newArray 240 = .ok (.iaload, 1) := by decide +kernel
theorem dX12_newArray_241 : decode cX12_newArray 241 = .ok (.iload 16, 2) := by decide +kernel
theorem dX12_newArray_243 : decode cX12_newArray 243 = .ok (.iadd, 1) := by decide +kernel
theorem dX12_newArray_244 : decode cX12_newArray 244 = .ok (.iload 17, 2) := by decide +kernel
theorem dX12_newArray_246 : decode cX12_newArray 246 = .ok (.i2l, 1) := by decide +kernel
theorem dX12_newArray_247 : decode cX12_newArray 247 = .ok (.lastore, 1) := by decide +kernel
theorem dX12_newArray_248 : decode cX12_newArray 248 = .ok (.iconst 0, 1) := by decide +kernel
theorem dX12_newArray_249 : decode cX12_newArray 249 = .ok (.istore 18, 2) := by decide +kernel
theorem dX12_newArray_251 : decode cX12_newArray 251 = .ok (.iload 18, 2) := by decide +kernel
theorem dX12_newArray_253 : decode cX12_newArray 253 = .ok (.i2l, 1) := by decide +kernel
theorem dX12_newArray_254 : decode cX12_newArray 254 = .ok (.lload 6, 2) := by decide +kernel
theorem dX12_newArray_256 : decode cX12_newArray 256 = .ok (.lcmp, 1) := by decide +kernel
theorem dX12_newArray_257 : decode cX12_newArray 257 = .ok (.ifCond .ge 41, 3) := by decide +kernel
theorem dX12_newArray_260 : decode cX12_newArray 260 = .ok (.iload_n 3, 1) := by decide +kernel
theorem dX12_newArray_261 : decode cX12_newArray 261 = .ok (.iconst 2, 1) := by decide +kernel
theorem dX12_newArray_262 : decode cX12_newArray 262 = .ok (.if_icmp .le 36, 3) := by decide +kernel
theorem dX12_newArray_265 : decode cX12_newArray 265 = .ok (.aload_n 0, 1) := by decide +kernel
theorem dX12_newArray_266 : decode cX12_newArray 266 = .ok (.getfield 127, 3) := by decide +kernel
theorem dX12_newArray_269 : decode cX12_newArray 269 = .ok (.aload_n 0, 1) := by decide +kernel
theorem dX12_newArray_270 : decode cX12_newArray 270 = .ok (.getfield 124, 3) := by decide +kernel
theorem dX12_newArray_273 : decode cX12_newArray 273 = .ok (.iload 17, 2) := by decide +kernel
theorem dX12_newArray_275 : decode cX12_newArray 275 = .ok (.iaload, 1) := by decide +kernel
theorem dX12_newArray_276 : decode cX12_newArray 276 = .ok (.iload 18, 2) := by decide +kernel
theorem dX12_newArray_278 : decode cX12_newArray 278 = .ok (.iadd, 1) := by decide +kernel
theorem dX12_newArray_279 : decode cX12_newArray 279 = .ok (.aload_n 0, 1) := by decide +kernel
theorem dX12_newArray_280 : decode cX12_newArray 280 = .ok (.iload_n 2, 1) := by decide +kernel
theorem dX12_newArray_281 : decode cX12_newArray 281 = .ok (.bipush 16, 2) := by decide +kernel
theorem dX12_newArray_283 : decode cX12_newArray 283 = .ok (.isub, 1) := by decide +kernel
theorem dX12_newArray_284 : decode cX12_newArray 284 = .ok (.lload 4, 2) := by decide +kernel
theorem dX12_newArray_286 : decode cX12_newArray 286 = .ok (.l2i, 1) := by decide +kernel
theorem dX12_newArray_287 : decode cX12_newArray 287 = .ok (.invokevirtual 343, 3) := by decide +kernel
theorem dX12_newArray_290 : decode cX12_newArray 290 = .ok (.i2l, 1) := by decide +kernel
theorem dX12_newArray_291 : decode cX12_newArray 291 = .ok (.lastore, 1) := by decide +kernel
theorem dX12_newArray_292 : decode cX12_newArray 292 = .ok (.iinc 18 1, 3) := by decide +kernel
theorem dX12_newArray_295 : decode cX12_newArray 295 = .ok (.goto (-44), 3) := by decide +kernel
theorem dX12_newArray_298 : decode cX12_newArray 298 = .ok (.iinc 16 1, 3) := by decide +kernel
theorem dX12_newArray_301 : decode cX12_newArray 301 = .ok (.goto (-93), 3) := by decide +kernel
theorem dX12_newArray_304 : decode cX12_newArray 304 = .ok (.aload_n 0, 1) := by decide +kernel
theorem dX12_newArray_305 : decode cX12_newArray 305 = .ok (.iload_n 1, 1) := by decide +kernel
theorem dX12_newArray_306 : decode cX12_newArray 306 = .ok (.iconst 4, 1) := by decide +kernel
theorem dX12_newArray_307 : decode cX12_newArray 307 = .ok (.iload 15, 2) := by decide +kernel
theorem dX12_newArray_309 : decode cX12_newArray 309 = .ok (.i2l, 1) := by decide +kernel
theorem dX12_newArray_310 : decode cX12_newArray 310 = .ok (.invokevirtual 346, 3) := by decide +kernel
theorem dX12_newArray_313 : decode cX12_newArray 313 = .ok (.return_, 1) := by decide +kernel
theorem dX12_isArray_0 : decode cX12_isArray 0 = .ok (.aload_n 0, 1) := by decide +kernel
theorem dX12_isArray_1 : decode cX12_isArray 1 = .ok (.getfield 115, 3) := by decide +kernel
theorem dX12_isArray_4 : decode cX12_isArray 4 = .ok (.iload_n 1, 1) := by decide +kernel
theorem dX12_isArray_5 : decode cX12_isArray 5 = .ok (.iaload, 1) := by decide +kernel
theorem dX12_isArray_6 : decode cX12_isArray 6 = .ok (.bipush 8, 2) := by decide +kernel
theorem dX12_isArray_8 : decode cX12_isArray 8 = .ok (.if_icmp .lt 7, 3) := by decide +kernel
theorem dX12_isArray_11 : decode cX12_isArray 11 = .ok (.iconst 1, 1) := by decide +kernel
theorem dX12_isArray_12 : decode cX12_isArray 12 = .ok (.goto 4, 3) := by decide +kernel
theorem dX12_isArray_15 : decode cX12_isArray 15 = .ok (.iconst 0, 1) := by decide +kernel
theorem dX12_isArray_16 : decode cX12_isArray 16 = .ok (.ireturn, 1) := by decide +kernel
theorem dX12_cellOf_0 : decode cX12_cellOf 0 = .ok (.iload_n 3, 1) := by decide +kernel
theorem dX12_cellOf_1 : decode cX12_cellOf 1 = .ok (.iconst 5, 1) := by decide +kernel
theorem dX12_cellOf_2 : decode cX12_cellOf 2 = .ok (.if_icmp .lt 7, 3) := by decide +kernel
theorem dX12_cellOf_5 : decode cX12_cellOf 5 = .ok (.iconst 0, 1) := by decide +kernel
theorem dX12_cellOf_6 : decode cX12_cellOf 6 = .ok (.goto 4, 3) := by decide +kernel
theorem dX12_cellOf_9 : decode cX12_cellOf 9 = .ok (.iload_n 3, 1) := by decide +kernel
theorem dX12_cellOf_10 : decode cX12_cellOf 10 = .ok (.istore 4, 2) := by decide +kernel
theorem dX12_cellOf_12 : decode cX12_cellOf 12 = .ok (.iload_n 2, 1) := by decide +kernel
theorem dX12_cellOf_13 : decode cX12_cellOf 13 = .ok (.bipush 26, 2) := by decide +kernel
theorem dX12_cellOf_15 : decode cX12_cellOf 15 = .ok (.if_icmp .ne 13, 3) := by decide +kernel
theorem dX12_cellOf_18 : decode cX12_cellOf 18 = .ok (.aload_n 0, 1) := by decide +kernel
theorem dX12_cellOf_19 : decode cX12_cellOf 19 = .ok (.iload_n 1, 1) := by decide +kernel
theorem dX12_cellOf_20 : decode cX12_cellOf 20 = .ok (.iload 4, 2) := by decide +kernel
theorem dX12_cellOf_22 : decode cX12_cellOf 22 = .ok (.invokevirtual 280, 3) := by decide +kernel
theorem dX12_cellOf_25 : decode cX12_cellOf 25 = .ok (.goto 4, 3) := by decide +kernel
theorem dX12_cellOf_28 : decode cX12_cellOf 28 = .ok (.lconst 0, 1) := by decide +kernel
theorem dX12_cellOf_29 : decode cX12_cellOf 29 = .ok (.lstore 5, 2) := by decide +kernel
theorem dX12_cellOf_31 : decode cX12_cellOf 31 = .ok (.aload_n 0, 1) := by decide +kernel
theorem dX12_cellOf_32 : decode cX12_cellOf 32 = .ok (.iload_n 1, 1) := by decide +kernel
theorem dX12_cellOf_33 : decode cX12_cellOf 33 = .ok (.invokevirtual 409, 3) := by decide +kernel
theorem dX12_cellOf_36 : decode cX12_cellOf 36 = .ok (.istore 7, 2) := by decide +kernel
theorem dX12_cellOf_38 : decode cX12_cellOf 38 = .ok (.aload_n 0, 1) := by decide +kernel
theorem dX12_cellOf_39 : decode cX12_cellOf 39 = .ok (.iload_n 1, 1) := by decide +kernel
theorem dX12_cellOf_40 : decode cX12_cellOf 40 = .ok (.iconst 4, 1) := by decide +kernel
theorem dX12_cellOf_41 : decode cX12_cellOf 41 = .ok (.invokevirtual 280, 3) := by decide +kernel
theorem dX12_cellOf_44 : decode cX12_cellOf 44 = .ok (.l2i, 1) := by decide +kernel
theorem dX12_cellOf_45 : decode cX12_cellOf 45 = .ok (.istore 8, 2) := by decide +kernel
theorem dX12_cellOf_47 : decode cX12_cellOf 47 = .ok (.iload 8, 2) := by decide +kernel
theorem dX12_cellOf_49 : decode cX12_cellOf 49 = .ok (.iconst (-1), 1) := by decide +kernel
theorem dX12_cellOf_50 : decode cX12_cellOf 50 = .ok (.if_icmp .ne 9, 3) := by decide +kernel
theorem dX12_cellOf_53 : decode cX12_cellOf 53 = .ok (.aload_n 0, 1) := by decide +kernel
theorem dX12_cellOf_54 : decode cX12_cellOf 54 = .ok (.iconst 1, 1) := by decide +kernel
theorem dX12_cellOf_55 : decode cX12_cellOf 55 = .ok (.invokevirtual 373, 3) := by decide +kernel
theorem dX12_cellOf_58 : decode cX12_cellOf 58 = .ok (.return_, 1) := by decide +kernel
theorem dX12_cellOf_59 : decode cX12_cellOf 59 = .ok (.aload_n 0, 1) := by decide +kernel
theorem dX12_cellOf_60 : decode cX12_cellOf 60 = .ok (.iload 8, 2) := by decide +kernel
theorem dX12_cellOf_62 : decode cX12_cellOf 62 = .ok (.invokevirtual 418, 3) := by decide +kernel
theorem dX12_cellOf_65 : decode cX12_cellOf 65 = .ok (.ifCond .ne 7, 3) := by decide +kernel
theorem dX12_cellOf_68 : decode cX12_cellOf 68 = .ok (.iconst (-1), 1) := by decide +kernel
theorem dX12_cellOf_69 : decode cX12_cellOf 69 = .ok (.goto 29, 3) := by decide +kernel
theorem dX12_cellOf_72 : decode cX12_cellOf 72 = .ok (.aload_n 0, 1) := by decide +kernel
theorem dX12_cellOf_73 : decode cX12_cellOf 73 = .ok (.getfield 115, 3) := by decide +kernel
theorem dX12_cellOf_76 : decode cX12_cellOf 76 = .ok (.iload 8, 2) := by decide +kernel
theorem dX12_cellOf_78 : decode cX12_cellOf 78 = .ok (.iaload, 1) := by decide +kernel
theorem dX12_cellOf_79 : decode cX12_cellOf 79 = .ok (.bipush 16, 2) := by decide +kernel
theorem dX12_cellOf_81 : decode cX12_cellOf 81 = .ok (.if_icmp .lt 7, 3) := by decide +kernel
theorem dX12_cellOf_84 : decode cX12_cellOf 84 = .ok (.iconst 4, 1) := by decide +kernel
theorem dX12_cellOf_85 : decode cX12_cellOf 85 = .ok (.goto 13, 3) := by decide +kernel
theorem dX12_cellOf_88 : decode cX12_cellOf 88 = .ok (.aload_n 0, 1) := by decide +kernel
theorem dX12_cellOf_89 : decode cX12_cellOf 89 = .ok (.getfield 115, 3) := by decide +kernel
theorem dX12_cellOf_92 : decode cX12_cellOf 92 = .ok (.iload 8, 2) := by decide +kernel
theorem dX12_cellOf_94 : decode cX12_cellOf 94 = .ok (.iaload, 1) := by decide +kernel
theorem dX12_cellOf_95 : decode cX12_cellOf 95 = .ok (.bipush 8, 2) := by decide +kernel
theorem dX12_cellOf_97 : decode cX12_cellOf 97 = .ok (.irem, 1) := by decide +kernel
theorem dX12_cellOf_98 : decode cX12_cellOf 98 = .ok (.istore 9, 2) := by decide +kernel
theorem dX12_cellOf_100 : decode cX12_cellOf 100 = .ok (.iload 9, 2) := by decide +kernel
theorem dX12_cellOf_102 : decode cX12_cellOf 102 = .ok (.iload_n 3, 1) := by decide +kernel
theorem dX12_cellOf_103 : decode cX12_cellOf 103 = .ok (.if_icmp .eq 9, 3) := by decide +kernel
theorem dX12_cellOf_106 : decode cX12_cellOf 106 = .ok (.aload_n 0, 1) := by decide +kernel
theorem dX12_cellOf_107 : decode cX12_cellOf 107 = .ok (.iconst 5, 1) := by decide +kernel
theorem dX12_cellOf_108 : decode cX12_cellOf 108 = .ok (.invokevirtual 373, 3) := by decide +kernel
theorem dX12_cellOf_111 : decode cX12_cellOf 111 = .ok (.return_, 1) := by decide +kernel
theorem dX12_cellOf_112 : decode cX12_cellOf 112 = .ok (.iload 7, 2) := by decide +kernel
theorem dX12_cellOf_114 : decode cX12_cellOf 114 = .ok (.i2l, 1) := by decide +kernel
theorem dX12_cellOf_115 : decode cX12_cellOf 115 = .ok (.lconst 0, 1) := by decide +kernel
theorem dX12_cellOf_116 : decode cX12_cellOf 116 = .ok (.aload_n 0, 1) := by decide +kernel
theorem dX12_cellOf_117 : decode cX12_cellOf 117 = .ok (.getfield 118, 3) := by decide +kernel
theorem dX12_cellOf_120 : decode cX12_cellOf 120 = .ok (.iload 8, 2) := by decide +kernel
theorem dX12_cellOf_122 : decode cX12_cellOf 122 = .ok (.iaload, 1) := by decide +kernel
theorem dX12_cellOf_123 : decode cX12_cellOf 123 = .ok (.iconst 1, 1) := by decide +kernel
theorem dX12_cellOf_124 : decode cX12_cellOf 124 = .ok (.isub, 1) := by decide +kernel
theorem dX12_cellOf_125 : decode cX12_cellOf 125 = .ok (.i2l, 1) := by decide +kernel
theorem dX12_cellOf_126 : decode cX12_cellOf 126 = .ok (.invokestatic 151, 3) := by decide +kernel
theorem dX12_cellOf_129 : decode cX12_cellOf 129 = .ok (.ifCond .ne 9, 3) := by decide +kernel
theorem dX12_cellOf_132 : decode cX12_cellOf 132 = .ok (.aload_n 0, 1) := by decide +kernel
theorem dX12_cellOf_133 : decode cX12_cellOf 133 = .ok (.iconst 2, 1) := by decide +kernel
theorem dX12_cellOf_134 : decode cX12_cellOf 134 = .ok (.invokevirtual 373, 3) := by decide +kernel
theorem dX12_cellOf_137 : decode cX12_cellOf 137 = .ok (.return_, 1) := by decide +kernel
theorem dX12_cellOf_138 : decode cX12_cellOf 138 = .ok (.aload_n 0, 1) := by decide +kernel
theorem dX12_cellOf_139 : decode cX12_cellOf 139 = .ok (.getfield 124, 3) := by decide +kernel
theorem dX12_cellOf_142 : decode cX12_cellOf 142 = .ok (.iload 8, 2) := by decide +kernel
theorem dX12_cellOf_144 : decode cX12_cellOf 144 = .ok (.iaload, 1) := by decide +kernel
theorem dX12_cellOf_145 : decode cX12_cellOf 145 = .ok (.iload 7, 2) := by decide +kernel
theorem dX12_cellOf_147 : decode cX12_cellOf 147 = .ok (.iadd, 1) := by decide +kernel
theorem dX12_cellOf_148 : decode cX12_cellOf 148 = .ok (.istore 10, 2) := by decide +kernel
theorem dX12_cellOf_150 : decode cX12_cellOf 150 = .ok (.iload_n 2, 1) := by decide +kernel
theorem dX12_cellOf_151 : decode cX12_cellOf 151 = .ok (.bipush 25, 2) := by decide +kernel
theorem dX12_cellOf_153 : decode cX12_cellOf 153 = .ok (.if_icmp .ne 18, 3) := by decide +kernel
theorem dX12_cellOf_156 : decode cX12_cellOf 156 = .ok (.aload_n 0, 1) := by decide +kernel
theorem dX12_cellOf_157 : decode cX12_cellOf 157 = .ok (.iload_n 1, 1) := by decide +kernel
theorem dX12_cellOf_158 : decode cX12_cellOf 158 = .ok (.iload 4, 2) := by decide +kernel
theorem dX12_cellOf_160 : decode cX12_cellOf 160 = .ok (.aload_n 0, 1) := by decide +kernel
theorem dX12_cellOf_161 : decode cX12_cellOf 161 = .ok (.getfield 127, 3) := by decide +kernel
theorem dX12_cellOf_164 : decode cX12_cellOf 164 = .ok (.iload 10, 2) := by decide +kernel
theorem dX12_cellOf_166 : decode cX12_cellOf 166 = .ok (.laload, 1) := by decide +kernel
theorem dX12_cellOf_167 : decode cX12_cellOf 167 = .ok (.invokevirtual 346, 3) := by decide +kernel
theorem dX12_cellOf_170 : decode cX12_cellOf 170 = .ok (.return_, 1) := by decide +kernel
theorem dX12_cellOf_171 : decode cX12_cellOf 171 = .ok (.iload_n 3, 1) := by decide +kernel
theorem dX12_cellOf_172 : decode cX12_cellOf 172 = .ok (.iconst 4, 1) := by decide +kernel
theorem dX12_cellOf_173 : decode cX12_cellOf 173 = .ok (.if_icmp .ne 39, 3) := by decide +kernel
theorem dX12_cellOf_176 : decode cX12_cellOf 176 = .ok (.lload 5, 2) := by decide +kernel
theorem dX12_cellOf_178 : decode cX12_cellOf 178 = .ok (.ldc2_w 180, 3) := by decide +kernel
theorem dX12_cellOf_181 : decode cX12_cellOf 181 = .ok (.lcmp, 1) := by decide +kernel
theorem dX12_cellOf_182 : decode cX12_cellOf 182 = .ok (.ifCond .eq 30, 3) := by decide +kernel
theorem dX12_cellOf_185 : decode cX12_cellOf 185 = .ok (.aload_n 0, 1) := by decide +kernel
theorem dX12_cellOf_186 : decode cX12_cellOf 186 = .ok (.getfield 115, 3) := by decide +kernel
theorem dX12_cellOf_189 : decode cX12_cellOf 189 = .ok (.lload 5, 2) := by decide +kernel
theorem dX12_cellOf_191 : decode cX12_cellOf 191 = .ok (.l2i, 1) := by decide +kernel
theorem dX12_cellOf_192 : decode cX12_cellOf 192 = .ok (.iaload, 1) := by decide +kernel
theorem dX12_cellOf_193 : decode cX12_cellOf 193 = .ok (.aload_n 0, 1) := by decide +kernel
theorem dX12_cellOf_194 : decode cX12_cellOf 194 = .ok (.getfield 115, 3) := by decide +kernel
theorem dX12_cellOf_197 : decode cX12_cellOf 197 = .ok (.iload 8, 2) := by decide +kernel
theorem dX12_cellOf_199 : decode cX12_cellOf 199 = .ok (.iaload, 1) := by decide +kernel
theorem dX12_cellOf_200 : decode cX12_cellOf 200 = .ok (.bipush 8, 2) := by decide +kernel
theorem dX12_cellOf_202 : decode cX12_cellOf 202 = .ok (.isub, 1) := by decide +kernel
theorem dX12_cellOf_203 : decode cX12_cellOf 203 = .ok (.if_icmp .eq 9, 3) := by decide +kernel
theorem dX12_cellOf_206 : decode cX12_cellOf 206 = .ok (.aload_n 0, 1) := by decide +kernel
theorem dX12_cellOf_207 : decode cX12_cellOf 207 = .ok (.iconst 3, 1) := by decide +kernel
theorem dX12_cellOf_208 : decode cX12_cellOf 208 = .ok (.invokevirtual 373, 3) := by decide +kernel
theorem dX12_cellOf_211 : decode cX12_cellOf 211 = .ok (.return_, 1) := by decide +kernel
theorem dX12_cellOf_212 : decode cX12_cellOf 212 = .ok (.aload_n 0, 1) := by decide +kernel
theorem dX12_cellOf_213 : decode cX12_cellOf 213 = .ok (.getfield 127, 3) := by decide +kernel
theorem dX12_cellOf_216 : decode cX12_cellOf 216 = .ok (.iload 10, 2) := by decide +kernel
theorem dX12_cellOf_218 : decode cX12_cellOf 218 = .ok (.iload_n 3, 1) := by decide +kernel
theorem dX12_cellOf_219 : decode cX12_cellOf 219 = .ok (.iconst 5, 1) := by decide +kernel
theorem dX12_cellOf_220 : decode cX12_cellOf 220 = .ok (.if_icmp .ne 12, 3) := by decide +kernel
theorem dX12_cellOf_223 : decode cX12_cellOf 223 = .ok (.lload 5, 2) := by decide +kernel
theorem dX12_cellOf_225 : decode cX12_cellOf 225 = .ok (.iconst 0, 1) := by decide +kernel
theorem dX12_cellOf_226 : decode cX12_cellOf 226 = .ok (.invokestatic 380, 3) := by decide +kernel
theorem dX12_cellOf_229 : decode cX12_cellOf 229 = .ok (.goto 35, 3) := by decide +kernel
theorem dX12_cellOf_232 : decode cX12_cellOf 232 = .ok (.iload_n 3, 1) := by decide +kernel
theorem dX12_cellOf_233 : decode cX12_cellOf 233 = .ok (.bipush 6, 2) := by decide +kernel
theorem dX12_cellOf_235 : decode cX12_cellOf 235 = .ok (.if_icmp .ne 12, 3) := by decide +kernel
theorem dX12_cellOf_238 : decode cX12_cellOf 238 = .ok (.lload 5, 2) := by decide +kernel
theorem dX12_cellOf_240 : decode cX12_cellOf 240 = .ok (.iconst 1, 1) := by decide +kernel
theorem dX12_cellOf_241 : decode cX12_cellOf 241 = .ok (.invokestatic 380, 3) := by decide +kernel
theorem dX12_cellOf_244 : decode cX12_cellOf 244 = .ok (.goto 20, 3) := by decide +kernel
theorem dX12_cellOf_247 : decode cX12_cellOf 247 = .ok (.iload_n 3, 1) := by decide +kernel
theorem dX12_cellOf_248 : decode cX12_cellOf 248 = .ok (.bipush 7, 2) := by decide +kernel
theorem dX12_cellOf_250 : decode cX12_cellOf 250 = .ok (.if_icmp .ne 12, 3) := by decide +kernel
theorem dX12_cellOf_253 : decode cX12_cellOf 253 = .ok (.lload 5, 2) := by decide +kernel
theorem dX12_cellOf_255 : decode cX12_cellOf 255 = .ok (.iconst 2, 1) := by decide +kernel
theorem dX12_cellOf_256 : decode cX12_cellOf 256 = .ok (.invokestatic 380, 3) := by decide +kernel
theorem dX12_cellOf_259 : decode cX12_cellOf 259 = .ok (.goto 5, 3) := by decide +kernel
theorem dX12_cellOf_262 : decode cX12_cellOf 262 = .ok (.lload 5, 2) := by decide +kernel
theorem dX12_cellOf_264 : decode cX12_cellOf 264 = .ok (.lastore, 1) := by decide +kernel
theorem dX12_cellOf_265 : decode cX12_cellOf 265 = .ok (.return_, 1) := by decide +kernel
theorem dX12_thing3_0 : decode cX12_thing3 0 = .ok (.iload_n 2, 1) := by decide +kernel
theorem dX12_thing3_1 : decode cX12_thing3 1 = .ok (.bipush 24, 2) := by decide +kernel
theorem dX12_thing3_3 : decode cX12_thing3 3 = .ok (.if_icmp .ne 12, 3) := by decide +kernel
theorem dX12_thing3_6 : decode cX12_thing3 6 = .ok (.aload_n 0, 1) := by decide +kernel
theorem dX12_thing3_7 : decode cX12_thing3 7 = .ok (.iload_n 1, 1) := by decide +kernel
theorem dX12_thing3_8 : decode cX12_thing3 8 = .ok (.iload_n 3, 1) := by decide +kernel
theorem dX12_thing3_9 : decode cX12_thing3 9 = .ok (.iload 4, 2) := by decide +kernel
theorem dX12_thing3_11 : decode cX12_thing3 11 = .ok (.invokevirtual 412, 3) := by decide +kernel
theorem dX12_thing3_14 : decode cX12_thing3 14 = .ok (.return_, 1) := by decide +kernel
theorem dX12_thing3_15 : decode cX12_thing3 15 = .ok (.iload_n 2, 1) := by decide +kernel
theorem dX12_thing3_16 : decode cX12_thing3 16 = .ok (.bipush 25, 2) := by decide +kernel
theorem dX12_thing3_18 : decode cX12_thing3 18 = .ok (.if_icmp .eq 9, 3) := by decide +kernel
theorem dX12_thing3_21 : decode cX12_thing3 21 = .ok (.iload_n 2, 1) := by decide +kernel
theorem dX12_thing3_22 : decode cX12_thing3 22 = .ok (.bipush 26, 2) := by decide +kernel
theorem dX12_thing3_24 : decode cX12_thing3 24 = .ok (.if_icmp .ne 12, 3) := by decide +kernel
theorem dX12_thing3_27 : decode cX12_thing3 27 = .ok (.aload_n 0, 1) := by decide +kernel
theorem dX12_thing3_28 : decode cX12_thing3 28 = .ok (.iload_n 1, 1) := by decide +kernel
theorem dX12_thing3_29 : decode cX12_thing3 29 = .ok (.iload_n 2, 1) := by decide +kernel
theorem dX12_thing3_30 : decode cX12_thing3 30 = .ok (.iload 4, 2) := by decide +kernel
theorem dX12_thing3_32 : decode cX12_thing3 32 = .ok (.invokevirtual 415, 3) := by decide +kernel
theorem dX12_thing3_35 : decode cX12_thing3 35 = .ok (.return_, 1) := by decide +kernel
theorem dX12_thing3_36 : decode cX12_thing3 36 = .ok (.iload_n 2, 1) := by decide +kernel
theorem dX12_thing3_37 : decode cX12_thing3 37 = .ok (.bipush 30, 2) := by decide +kernel
theorem dX12_thing3_39 : decode cX12_thing3 39 = .ok (.if_icmp .ne 38, 3) := by decide +kernel
theorem dX12_thing3_42 : decode cX12_thing3 42 = .ok (.aload_n 0, 1) := by decide +kernel
theorem dX12_thing3_43 : decode cX12_thing3 43 = .ok (.getfield 296, 3) := by decide +kernel
theorem dX12_thing3_46 : decode cX12_thing3 46 = .ok (.bipush 60, 2) := by decide +kernel
theorem dX12_thing3_48 : decode cX12_thing3 48 = .ok (.if_icmp .ne 12, 3) := by decide +kernel
theorem dX12_thing3_51 : decode cX12_thing3 51 = .ok (.aload_n 0, 1) := by decide +kernel
theorem dX12_thing3_52 : decode cX12_thing3 52 = .ok (.bipush 7, 2) := by decide +kernel
theorem dX12_thing3_54 : decode cX12_thing3 54 = .ok (.invokevirtual 373, 3) := by decide +kernel
theorem dX12_thing3_57 : decode cX12_thing3 57 = .ok (.goto 19, 3) := by decide +kernel
theorem dX12_thing3_60 : decode cX12_thing3 60 = .ok (.aload_n 0, 1) := by decide +kernel
theorem dX12_thing3_61 : decode cX12_thing3 61 = .ok (.iload_n 1, 1) := by decide +kernel
theorem dX12_thing3_62 : decode cX12_thing3 62 = .ok (.iconst 4, 1) := by decide +kernel
theorem dX12_thing3_63 : decode cX12_thing3 63 = .ok (.aload_n 0, 1) := by decide +kernel
theorem dX12_thing3_64 : decode cX12_thing3 64 = .ok (.iload_n 3, 1) := by decide +kernel
theorem dX12_thing3_65 : decode cX12_thing3 65 = .ok (.bipush 100, 2) := by decide +kernel
theorem dX12_thing3_67 : decode cX12_thing3 67 = .ok (.isub, 1) := by decide +kernel
theorem dX12_thing3_68 : decode cX12_thing3 68 = .ok (.iconst 0, 1) := by decide +kernel
theorem dX12_thing3_69 : decode cX12_thing3 69 = .ok (.invokevirtual 343, 3) := by decide +kernel
theorem dX12_thing3_72 : decode cX12_thing3 72 = .ok (.i2l, 1) := by decide +kernel
theorem dX12_thing3_73 : decode cX12_thing3 73 = .ok (.invokevirtual 346, 3) := by decide +kernel
theorem dX12_thing3_76 : decode cX12_thing3 76 = .ok (.return_, 1) := by decide +kernel
theorem dX12_thing3_77 : decode cX12_thing3 77 = .ok (.aload_n 0, 1) := by decide +kernel
theorem dX12_thing3_78 : decode cX12_thing3 78 = .ok (.iload_n 1, 1) := by decide +kernel
theorem dX12_thing3_79 : decode cX12_thing3 79 = .ok (.iconst 4, 1) := by decide +kernel
theorem dX12_thing3_80 : decode cX12_thing3 80 = .ok (.invokevirtual 280, 3) := by decide +kernel
theorem dX12_thing3_83 : decode cX12_thing3 83 = .ok (.l2i, 1) := by decide +kernel
theorem dX12_thing3_84 : decode cX12_thing3 84 = .ok (.istore 5, 2) := by decide +kernel
theorem dX12_thing3_86 : decode cX12_thing3 86 = .ok (.iload_n 2, 1) := by decide +kernel
theorem dX12_thing3_87 : decode cX12_thing3 87 = .ok (.bipush 28, 2) := by decide +kernel
theorem dX12_thing3_89 : decode cX12_thing3 89 = .ok (.if_icmp .ne 34, 3) := by decide +kernel
theorem dX12_thing3_92 : decode cX12_thing3 92 = .ok (.aload_n 0, 1) := by decide +kernel
theorem dX12_thing3_93 : decode cX12_thing3 93 = .ok (.iload_n 1, 1) := by decide +kernel
theorem dX12_thing3_94 : decode cX12_thing3 94 = .ok (.iconst 0, 1) := by decide +kernel
theorem dX12_thing3_95 : decode cX12_thing3 95 = .ok (.iload 5, 2) := by decide +kernel
theorem dX12_thing3_97 : decode cX12_thing3 97 = .ok (.iconst (-1), 1) := by decide +kernel
theorem dX12_thing3_98 : decode cX12_thing3 98 = .ok (.if_icmp .eq 18, 3) := by decide +kernel
theorem dX12_thing3_101 : decode cX12_thing3 101 = .ok (.aload_n 0, 1) := by decide +kernel
theorem dX12_thing3_102 : decode cX12_thing3 102 = .ok (.getfield 115, 3) := by decide +kernel
theorem dX12_thing3_105 : decode cX12_thing3 105 = .ok (.iload 5, 2) := by decide +kernel
theorem dX12_thing3_107 : decode cX12_thing3 107 = .ok (.iaload, 1) := by decide +kernel
theorem dX12_thing3_108 : decode cX12_thing3 108 = .ok (.iload_n 3, 1) := by decide +kernel
theorem dX12_thing3_109 : decode cX12_thing3 109 = .ok (.if_icmp .ne 7, 3) := by decide +kernel
theorem dX12_thing3_112 : decode cX12_thing3 112 = .ok (.lconst 1, 1) := by decide +kernel
theorem dX12_thing3_113 : decode cX12_thing3 113 = .ok (.goto 4, 3) := by decide +kernel
theorem dX12_thing3_116 : decode cX12_thing3 116 = .ok (.lconst 0, 1) := by decide +kernel
theorem dX12_thing3_117 : decode cX12_thing3 117 = .ok (.invokevirtual 346, 3) := by decide +kernel
theorem dX12_thing3_120 : decode cX12_thing3 120 = .ok (.goto 237, 3) := by decide +kernel
theorem dX12_thing3_123 : decode cX12_thing3 123 = .ok (.iload_n 2, 1) := by decide +kernel
theorem dX12_thing3_124 : decode cX12_thing3 124 = .ok (.bipush 29, 2) := by decide +kernel
theorem dX12_thing3_126 : decode cX12_thing3 126 = .ok (.if_icmp .ne 37, 3) := by decide +kernel
theorem dX12_thing3_129 : decode cX12_thing3 129 = .ok (.iload 5, 2) := by decide +kernel
theorem dX12_thing3_131 : decode cX12_thing3 131 = .ok (.iconst (-1), 1) := by decide +kernel
theorem dX12_thing3_132 : decode cX12_thing3 132 = .ok (.if_icmp .eq 19, 3) := by decide +kernel
theorem dX12_thing3_135 : decode cX12_thing3 135 = .ok (.aload_n 0, 1) := by decide +kernel
theorem dX12_thing3_136 : decode cX12_thing3 136 = .ok (.getfield 115, 3) := by decide +kernel
theorem dX12_thing3_139 : decode cX12_thing3 139 = .ok (.iload 5, 2) := by decide +kernel
theorem dX12_thing3_141 : decode cX12_thing3 141 = .ok (.iaload, 1) := by decide +kernel
theorem dX12_thing3_142 : decode cX12_thing3 142 = .ok (.iload_n 3, 1) := by decide +kernel
theorem dX12_thing3_143 : decode cX12_thing3 143 = .ok (.if_icmp .eq 8, 3) := by decide +kernel
theorem dX12_thing3_146 : decode cX12_thing3 146 = .ok (.aload_n 0, 1) := by decide +kernel
theorem dX12_thing3_147 : decode cX12_thing3 147 = .ok (.iconst 5, 1) := by decide +kernel
theorem dX12_thing3_148 : decode cX12_thing3 148 = .ok (.invokevirtual 373, 3) := by decide +kernel
theorem dX12_thing3_151 : decode cX12_thing3 151 = .ok (.aload_n 0, 1) := by decide +kernel
theorem dX12_thing3_152 : decode cX12_thing3 152 = .ok (.iload_n 1, 1) := by decide +kernel
theorem dX12_thing3_153 : decode cX12_thing3 153 = .ok (.iconst 4, 1) := by decide +kernel
theorem dX12_thing3_154 : decode cX12_thing3 154 = .ok (.iload 5, 2) := by decide +kernel
theorem dX12_thing3_156 : decode cX12_thing3 156 = .ok (.i2l, 1) := by decide +kernel
theorem dX12_thing3_157 : decode cX12_thing3 157 = .ok (.invokevirtual 346, 3) := by decide +kernel
theorem dX12_thing3_160 : decode cX12_thing3 160 = .ok (.goto 197, 3) := by decide +kernel
theorem dX12_thing3_163 : decode cX12_thing3 163 = .ok (.iload 5, 2) := by decide +kernel
theorem dX12_thing3_165 : decode cX12_thing3 165 = .ok (.iconst (-1), 1) := by decide +kernel
theorem dX12_thing3_166 : decode cX12_thing3 166 = .ok (.if_icmp .ne 11, 3) := by decide +kernel
theorem dX12_thing3_169 : decode cX12_thing3 169 = .ok (.aload_n 0, 1) := by decide +kernel
theorem dX12_thing3_170 : decode cX12_thing3 170 = .ok (.iconst 1, 1) := by decide +kernel
theorem dX12_thing3_171 : decode cX12_thing3 171 = .ok (.invokevirtual 373, 3) := by decide +kernel
theorem dX12_thing3_174 : decode cX12_thing3 174 = .ok (.goto 183, 3) := by decide +kernel
theorem dX12_thing3_177 : decode cX12_thing3 177 = .ok (.iload_n 2, 1) := by decide +kernel
theorem dX12_thing3_178 : decode cX12_thing3 178 = .ok (.bipush 27, 2) := by decide +kernel
theorem dX12_thing3_180 : decode cX12_thing3 180 = .ok (.if_icmp .ne 34, 3) := by decide +kernel
theorem dX12_thing3_183 : decode cX12_thing3 183 = .ok (.aload_n 0, 1) := by decide +kernel
theorem dX12_thing3_184 : decode cX12_thing3 184 = .ok (.iload 5, 2) := by decide +kernel
theorem dX12_thing3_186 : decode cX12_thing3 186 = .ok (.invokevirtual 418, 3) := by decide +kernel
theorem dX12_thing3_189 : decode cX12_thing3 189 = .ok (.ifCond .ne 8, 3) := by decide +kernel
theorem dX12_thing3_192 : decode cX12_thing3 192 = .ok (.aload_n 0, 1) := by decide +kernel
theorem dX12_thing3_193 : decode cX12_thing3 193 = .ok (.iconst 5, 1) := by decide +kernel
theorem dX12_thing3_194 : decode cX12_thing3 194 = .ok (.invokevirtual 373, 3) := by decide +kernel
theorem dX12_thing3_197 : decode cX12_thing3 197 = .ok (.aload_n 0, 1) := by decide +kernel
theorem dX12_thing3_198 : decode cX12_thing3 198 = .ok (.iload_n 1, 1) := by decide +kernel
theorem dX12_thing3_199 : decode cX12_thing3 199 = .ok (.iconst 0, 1) := by decide +kernel
theorem dX12_thing3_200 : decode cX12_thing3 200 = .ok (.aload_n 0, 1) := by decide +kernel
theorem dX12_thing3_201 : decode cX12_thing3 201 = .ok (.getfield 118, 3) := by decide +kernel
theorem dX12_thing3_204 : decode cX12_thing3 204 = .ok (.iload 5, 2) := by decide +kernel
theorem dX12_thing3_206 : decode cX12_thing3 206 = .ok (.iaload, 1) := by decide +kernel
theorem dX12_thing3_207 : decode cX12_thing3 207 = .ok (.i2l, 1) := by decide +kernel
theorem dX12_thing3_208 : decode cX12_thing3 208 = .ok (.invokevirtual 346, 3) := by decide +kernel
theorem dX12_thing3_211 : decode cX12_thing3 211 = .ok (.goto 146, 3) := by decide +kernel
theorem dX12_thing3_214 : decode cX12_thing3 214 = .ok (.iload_n 2, 1) := by decide +kernel
theorem dX12_thing3_215 : decode cX12_thing3 215 = .ok (.bipush 31, 2) := by decide +kernel
theorem dX12_thing3_217 : decode cX12_thing3 217 = .ok (.if_icmp .ne 53, 3) := by decide +kernel
theorem dX12_thing3_220 : decode cX12_thing3 220 = .ok (.aload_n 0, 1) := by decide +kernel
theorem dX12_thing3_221 : decode cX12_thing3 221 = .ok (.aload_n 0, 1) := by decide +kernel
theorem dX12_thing3_222 : decode cX12_thing3 222 = .ok (.iload 5, 2) := by decide +kernel
theorem dX12_thing3_224 : decode cX12_thing3 224 = .ok (.invokevirtual 418, 3) := by decide +kernel
theorem dX12_thing3_227 : decode cX12_thing3 227 = .ok (.ifCond .eq 7, 3) := by decide +kernel
theorem dX12_thing3_230 : decode cX12_thing3 230 = .ok (.iconst 5, 1) := by decide +kernel
theorem dX12_thing3_231 : decode cX12_thing3 231 = .ok (.goto 13, 3) := by decide +kernel
theorem dX12_thing3_234 : decode cX12_thing3 234 = .ok (.aload_n 0, 1) := by decide +kernel
theorem dX12_thing3_235 : decode cX12_thing3 235 = .ok (.getfield 115, 3) := by decide +kernel
theorem dX12_thing3_238 : decode cX12_thing3 238 = .ok (.iload 5, 2) := by decide +kernel
theorem dX12_thing3_240 : decode cX12_thing3 240 = .ok (.iaload, 1) := by decide +kernel
theorem dX12_thing3_241 : decode cX12_thing3 241 = .ok (.bipush 100, 2) := by decide +kernel
theorem dX12_thing3_243 : decode cX12_thing3 243 = .ok (.iadd, 1) := by decide +kernel
theorem dX12_thing3_244 : decode cX12_thing3 244 = .ok (.invokevirtual 373, 3) := by decide +kernel
theorem dX12_thing3_247 : decode cX12_thing3 247 = .ok (.aload_n 0, 1) := by decide +kernel
theorem dX12_thing3_248 : decode cX12_thing3 248 = .ok (.aload_n 0, 1) := by decide +kernel
theorem dX12_thing3_249 : decode cX12_thing3 249 = .ok (.iload 5, 2) := by decide +kernel
theorem dX12_thing3_251 : decode cX12_thing3 251 = .ok (.invokevirtual 418, 3) := by decide +kernel
theorem dX12_thing3_254 : decode cX12_thing3 254 = .ok (.ifCond .eq 8, 3) := by decide +kernel
theorem dX12_thing3_257 : decode cX12_thing3 257 = .ok (.bipush (-2), 2) := by decide +kernel
theorem dX12_thing3_259 : decode cX12_thing3 259 = .ok (.goto 5, 3) := by decide +kernel
theorem dX12_thing3_262 : decode cX12_thing3 262 = .ok (.iload 5, 2) := by decide +kernel
theorem dX12_thing3_264 : decode cX12_thing3 264 = .ok (.putfield 333, 3) := by decide +kernel
theorem dX12_thing3_267 : decode cX12_thing3 267 = .ok (.goto 90, 3) := by decide +kernel
theorem dX12_thing3_270 : decode cX12_thing3 270 = .ok (.iload_n 2, 1) := by decide +kernel
theorem dX12_thing3_271 : decode cX12_thing3 271 = .ok (.bipush 32, 2) := by decide +kernel
theorem dX12_thing3_273 : decode cX12_thing3 273 = .ok (.if_icmp .ne 33, 3) := by decide +kernel
theorem dX12_thing3_276 : decode cX12_thing3 276 = .ok (.aload_n 0, 1) := by decide +kernel
theorem dX12_thing3_277 : decode cX12_thing3 277 = .ok (.getfield 145, 3) := by decide +kernel
theorem dX12_thing3_280 : decode cX12_thing3 280 = .ok (.bipush 60, 2) := by decide +kernel
theorem dX12_thing3_282 : decode cX12_thing3 282 = .ok (.iload_n 1, 1) := by decide +kernel
theorem dX12_thing3_283 : decode cX12_thing3 283 = .ok (.imul, 1) := by decide +kernel
theorem dX12_thing3_284 : decode cX12_thing3 284 = .ok (.iload 5, 2) := by decide +kernel
theorem dX12_thing3_286 : decode cX12_thing3 286 = .ok (.iadd, 1) := by decide +kernel
theorem dX12_thing3_287 : decode cX12_thing3 287 = .ok (.dup2, 1) := by decide +kernel
theorem dX12_thing3_288 : decode cX12_thing3 288 = .ok (.iaload, 1) := by decide +kernel
theorem dX12_thing3_289 : decode cX12_thing3 289 = .ok (.iconst 1, 1) := by decide +kernel
theorem dX12_thing3_290 : decode cX12_thing3 290 = .ok (.iadd, 1) := by decide +kernel
theorem dX12_thing3_291 : decode cX12_thing3 291 = .ok (.iastore, 1) := by decide +kernel
theorem dX12_thing3_292 : decode cX12_thing3 292 = .ok (.aload_n 0, 1) := by decide +kernel
theorem dX12_thing3_293 : decode cX12_thing3 293 = .ok (.getfield 121, 3) := by decide +kernel
theorem dX12_thing3_296 : decode cX12_thing3 296 = .ok (.iload 5, 2) := by decide +kernel
theorem dX12_thing3_298 : decode cX12_thing3 298 = .ok (.dup2, 1) := by decide +kernel
theorem dX12_thing3_299 : decode cX12_thing3 299 = .ok (.iaload, 1) := by decide +kernel
theorem dX12_thing3_300 : decode cX12_thing3 300 = .ok (.iconst 1, 1) := by decide +kernel
theorem dX12_thing3_301 : decode cX12_thing3 301 = .ok (.iadd, 1) := by decide +kernel
theorem dX12_thing3_302 : decode cX12_thing3 302 = .ok (.iastore, 1) := by decide +kernel
theorem dX12_thing3_303 : decode cX12_thing3 303 = .ok (.goto 54, 3) := by decide +kernel
theorem dX12_thing3_306 : decode cX12_thing3 306 = .ok (.aload_n 0, 1) := by decide +kernel
theorem dX12_thing3_307 : decode cX12_thing3 307 = .ok (.getfield 145, 3) := by decide +kernel
theorem dX12_thing3_310 : decode cX12_thing3 310 = .ok (.bipush 60, 2) := by decide +kernel
theorem dX12_thing3_312 : decode cX12_thing3 312 = .ok (.iload_n 1, 1) := by decide +kernel
theorem dX12_thing3_313 : decode cX12_thing3 313 = .ok (.imul, 1) := by decide +kernel
theorem dX12_thing3_314 : decode cX12_thing3 314 = .ok (.iload 5, 2) := by decide +kernel
theorem dX12_thing3_316 : decode cX12_thing3 316 = .ok (.iadd, 1) := by decide +kernel
theorem dX12_thing3_317 : decode cX12_thing3 317 = .ok (.iaload, 1) := by decide +kernel
theorem dX12_thing3_318 : decode cX12_thing3 318 = .ok (.ifCond .ne 12, 3) := by decide +kernel
theorem dX12_thing3_321 : decode cX12_thing3 321 = .ok (.aload_n 0, 1) := by decide +kernel
theorem dX12_thing3_322 : decode cX12_thing3 322 = .ok (.bipush 6, 2) := by decide +kernel
theorem dX12_thing3_324 : decode cX12_thing3 324 = .ok (.invokevirtual 373, 3) := by decide +kernel
theorem dX12_thing3_327 : decode cX12_thing3 327 = .ok (.goto 30, 3) := by decide +kernel
theorem dX12_thing3_330 : decode cX12_thing3 330 = .ok (.aload_n 0, 1) := by decide +kernel
theorem dX12_thing3_331 : decode cX12_thing3 331 = .ok (.getfield 145, 3) := by decide +kernel
theorem dX12_thing3_334 : decode cX12_thing3 334 = .ok (.bipush 60, 2) := by decide +kernel
theorem dX12_thing3_336 : decode cX12_thing3 336 = .ok (.iload_n 1, 1) := by decide +kernel
theorem dX12_thing3_337 : decode cX12_thing3 337 = .ok (.imul, 1) := by decide +kernel
theorem dX12_thing3_338 : decode cX12_thing3 338 = .ok (.iload 5, 2) := by decide +kernel
theorem dX12_thing3_340 : decode cX12_thing3 340 = .ok (.iadd, 1) := by decide +kernel
theorem dX12_thing3_341 : decode cX12_thing3 341 = .ok (.dup2, 1) := by decide +kernel
theorem dX12_thing3_342 : decode cX12_thing3 342 = .ok (.iaload, 1) := by decide +kernel
theorem dX12_thing3_343 : decode cX12_thing3 343 = .ok (.iconst 1, 1) := by decide +kernel
theorem dX12_thing3_344 : decode cX12_thing3 344 = .ok (.isub, 1) := by decide +kernel
theorem dX12_thing3_345 : decode cX12_thing3 345 = .ok (.iastore, 1) := by decide +kernel
theorem dX12_thing3_346 : decode cX12_thing3 346 = .ok (.aload_n 0, 1) := by decide +kernel
theorem dX12_thing3_347 : decode cX12_thing3 347 = .ok (.getfield 121, 3) := by decide +kernel
theorem dX12_thing3_350 : decode cX12_thing3 350 = .ok (.iload 5, 2) := by decide +kernel
theorem dX12_thing3_352 : decode cX12_thing3 352 = .ok (.dup2, 1) := by decide +kernel
theorem dX12_thing3_353 : decode cX12_thing3 353 = .ok (.iaload, 1) := by decide +kernel
theorem dX12_thing3_354 : decode cX12_thing3 354 = .ok (.iconst 1, 1) := by decide +kernel
theorem dX12_thing3_355 : decode cX12_thing3 355 = .ok (.isub, 1) := by decide +kernel
theorem dX12_thing3_356 : decode cX12_thing3 356 = .ok (.iastore, 1) := by decide +kernel
theorem dX12_thing3_357 : decode cX12_thing3 357 = .ok (.return_, 1) := by decide +kernel
theorem dX12_beginCall_0 : decode cX12_beginCall 0 = .ok (.aload_n 0, 1) := by decide +kernel
theorem dX12_beginCall_1 : decode cX12_beginCall 1 = .ok (.getfield 284, 3) := by decide +kernel
theorem dX12_beginCall_4 : decode cX12_beginCall 4 = .ok (.istore_n 2, 1) := by decide +kernel
theorem dX12_beginCall_5 : decode cX12_beginCall 5 = .ok (.aload_n 0, 1) := by decide +kernel
theorem dX12_beginCall_6 : decode cX12_beginCall 6 = .ok (.getfield 130, 3) := by decide +kernel
theorem dX12_beginCall_9 : decode cX12_beginCall 9 = .ok (.iload_n 2, 1) := by decide +kernel
theorem dX12_beginCall_10 : decode cX12_beginCall 10 = .ok (.iload_n 1, 1) := by decide +kernel
theorem dX12_beginCall_11 : decode cX12_beginCall 11 = .ok (.iastore, 1) := by decide +kernel
theorem dX12_beginCall_12 : decode cX12_beginCall 12 = .ok (.aload_n 0, 1) := by decide +kernel
theorem dX12_beginCall_13 : decode cX12_beginCall 13 = .ok (.getfield 133, 3) := by decide +kernel
theorem dX12_beginCall_16 : decode cX12_beginCall 16 = .ok (.iload_n 2, 1) := by decide +kernel
theorem dX12_beginCall_17 : decode cX12_beginCall 17 = .ok (.iconst 0, 1) := by decide +kernel
theorem dX12_beginCall_18 : decode cX12_beginCall 18 = .ok (.iastore, 1) := by decide +kernel
theorem dX12_beginCall_19 : decode cX12_beginCall 19 = .ok (.aload_n 0, 1) := by decide +kernel
theorem dX12_beginCall_20 : decode cX12_beginCall 20 = .ok (.getfield 136, 3) := by decide +kernel
theorem dX12_beginCall_23 : decode cX12_beginCall 23 = .ok (.iload_n 2, 1) := by decide +kernel
theorem dX12_beginCall_24 : decode cX12_beginCall 24 = .ok (.iconst 0, 1) := by decide +kernel
theorem dX12_beginCall_25 : decode cX12_beginCall 25 = .ok (.iastore, 1) := by decide +kernel
theorem dX12_beginCall_26 : decode cX12_beginCall 26 = .ok (.iconst 0, 1) := by decide +kernel
theorem dX12_beginCall_27 : decode cX12_beginCall 27 = .ok (.istore_n 3, 1) := by decide +kernel
theorem dX12_beginCall_28 : decode cX12_beginCall 28 = .ok (.iload_n 3, 1) := by decide +kernel
theorem dX12_beginCall_29 : decode cX12_beginCall 29 = .ok (.bipush 60, 2) := by decide +kernel
theorem dX12_beginCall_31 : decode cX12_beginCall 31 = .ok (.if_icmp .ge 21, 3) := by decide +kernel
theorem dX12_beginCall_34 : decode cX12_beginCall 34 = .ok (.aload_n 0, 1) := by decide +kernel
theorem dX12_beginCall_35 : decode cX12_beginCall 35 = .ok (.getfield 145, 3) := by decide +kernel
theorem dX12_beginCall_38 : decode cX12_beginCall 38 = .ok (.bipush 60, 2) := by decide +kernel
theorem dX12_beginCall_40 : decode cX12_beginCall 40 = .ok (.iload_n 2, 1) := by decide +kernel
theorem dX12_beginCall_41 : decode cX12_beginCall 41 = .ok (.imul, 1) := by decide +kernel
theorem dX12_beginCall_42 : decode cX12_beginCall 42 = .ok (.iload_n 3, 1) := by decide +kernel
theorem dX12_beginCall_43 : decode cX12_beginCall 43 = .ok (.iadd, 1) := by decide +kernel
theorem dX12_beginCall_44 : decode cX12_beginCall 44 = .ok (.iconst 0, 1) := by decide +kernel
theorem dX12_beginCall_45 : decode cX12_beginCall 45 = .ok (.iastore, 1) := by decide +kernel
theorem dX12_beginCall_46 : decode cX12_beginCall 46 = .ok (.iinc 3 1, 3) := by decide +kernel
theorem dX12_beginCall_49 : decode cX12_beginCall 49 = .ok (.goto (-21), 3) := by decide +kernel
theorem dX12_beginCall_52 : decode cX12_beginCall 52 = .ok (.aload_n 0, 1) := by decide +kernel
theorem dX12_beginCall_53 : decode cX12_beginCall 53 = .ok (.dup, 1) := by decide +kernel
theorem dX12_beginCall_54 : decode cX12_beginCall 54 = .ok (.getfield 284, 3) := by decide +kernel
theorem dX12_beginCall_57 : decode cX12_beginCall 57 = .ok (.iconst 1, 1) := by decide +kernel
theorem dX12_beginCall_58 : decode cX12_beginCall 58 = .ok (.iadd, 1) := by decide +kernel
theorem dX12_beginCall_59 : decode cX12_beginCall 59 = .ok (.putfield 284, 3) := by decide +kernel
theorem dX12_beginCall_62 : decode cX12_beginCall 62 = .ok (.aload_n 0, 1) := by decide +kernel
theorem dX12_beginCall_63 : decode cX12_beginCall 63 = .ok (.dup, 1) := by decide +kernel
theorem dX12_beginCall_64 : decode cX12_beginCall 64 = .ok (.getfield 287, 3) := by decide +kernel
theorem dX12_beginCall_67 : decode cX12_beginCall 67 = .ok (.iconst 1, 1) := by decide +kernel
theorem dX12_beginCall_68 : decode cX12_beginCall 68 = .ok (.iadd, 1) := by decide +kernel
theorem dX12_beginCall_69 : decode cX12_beginCall 69 = .ok (.putfield 287, 3) := by decide +kernel
theorem dX12_beginCall_72 : decode cX12_beginCall 72 = .ok (.return_, 1) := by decide +kernel
