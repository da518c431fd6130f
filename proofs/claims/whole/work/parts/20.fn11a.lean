theorem dX12_count_0 : decode cX12_count 0 = .ok (.iload_n 1, 1) := by decide +kernel
theorem dX12_count_1 : decode cX12_count 1 = .ok (.ifCond .ne 10, 3) := by decide +kernel
theorem dX12_count_4 : decode cX12_count 4 = .ok (.aload_n 0, 1) := by decide +kernel
theorem dX12_count_5 : decode cX12_count 5 = .ok (.getfield 148, 3) := by decide +kernel
theorem dX12_count_8 : decode cX12_count 8 = .ok (.goto 41, 3) := by decide +kernel
theorem dX12_count_11 : decode cX12_count 11 = .ok (.iload_n 1, 1) := by decide +kernel
theorem dX12_count_12 : decode cX12_count 12 = .ok (.iconst 1, 1) := by decide +kernel
theorem dX12_count_13 : decode cX12_count 13 = .ok (.if_icmp .ne 10, 3) := by decide +kernel
theorem dX12_count_16 : decode cX12_count 16 = .ok (.aload_n 0, 1) := by decide +kernel
theorem dX12_count_17 : decode cX12_count 17 = .ok (.getfield 184, 3) := by decide +kernel
theorem dX12_count_20 : decode cX12_count 20 = .ok (.goto 29, 3) := by decide +kernel
theorem dX12_count_23 : decode cX12_count 23 = .ok (.iload_n 1, 1) := by decide +kernel
theorem dX12_count_24 : decode cX12_count 24 = .ok (.iconst 2, 1) := by decide +kernel
theorem dX12_count_25 : decode cX12_count 25 = .ok (.if_icmp .ne 10, 3) := by decide +kernel
theorem dX12_count_28 : decode cX12_count 28 = .ok (.aload_n 0, 1) := by decide +kernel
theorem dX12_count_29 : decode cX12_count 29 = .ok (.getfield 187, 3) := by decide +kernel
theorem dX12_count_32 : decode cX12_count 32 = .ok (.goto 17, 3) := by decide +kernel
theorem dX12_count_35 : decode cX12_count 35 = .ok (.iload_n 1, 1) := by decide +kernel
theorem dX12_count_36 : decode cX12_count 36 = .ok (.iconst 3, 1) := by decide +kernel
theorem dX12_count_37 : decode cX12_count 37 = .ok (.if_icmp .ne 10, 3) := by decide +kernel
theorem dX12_count_40 : decode cX12_count 40 = .ok (.aload_n 0, 1) := by decide +kernel
theorem dX12_count_41 : decode cX12_count 41 = .ok (.getfield 190, 3) := by decide +kernel
theorem dX12_count_44 : decode cX12_count 44 = .ok (.goto 5, 3) := by decide +kernel
theorem dX12_count_47 : decode cX12_count 47 = .ok (.bipush (-2), 2) := by decide +kernel
theorem dX12_count_49 : decode cX12_count 49 = .ok (.ireturn, 1) := by decide +kernel
theorem dX12_covers_0 : decode cX12_covers 0 = .ok (.iload_n 2, 1) := by decide +kernel
theorem dX12_covers_1 : decode cX12_covers 1 = .ok (.i2l, 1) := by decide +kernel
theorem dX12_covers_2 : decode cX12_covers 2 = .ok (.aload_n 0, 1) := by decide +kernel
theorem dX12_covers_3 : decode cX12_covers 3 = .ok (.getfield 37, 3) := by decide +kernel
theorem dX12_covers_6 : decode cX12_covers 6 = .ok (.iload_n 1, 1) := by decide +kernel
theorem dX12_covers_7 : decode cX12_covers 7 = .ok (.iaload, 1) := by decide +kernel
theorem dX12_covers_8 : decode cX12_covers 8 = .ok (.i2l, 1) := by decide +kernel
theorem dX12_covers_9 : decode cX12_covers 9 = .ok (.aload_n 0, 1) := by decide +kernel
theorem dX12_covers_10 : decode cX12_covers 10 = .ok (.getfield 40, 3) := by decide +kernel
theorem dX12_covers_13 : decode cX12_covers 13 = .ok (.iload_n 1, 1) := by decide +kernel
theorem dX12_covers_14 : decode cX12_covers 14 = .ok (.iaload, 1) := by decide +kernel
theorem dX12_covers_15 : decode cX12_covers 15 = .ok (.iconst 1, 1) := by decide +kernel
theorem dX12_covers_16 : decode cX12_covers 16 = .ok (.isub, 1) := by decide +kernel
theorem dX12_covers_17 : decode cX12_covers 17 = .ok (.i2l, 1) := by decide +kernel
theorem dX12_covers_18 : decode cX12_covers 18 = .ok (.invokestatic 151, 3) := by decide +kernel
theorem dX12_covers_21 : decode cX12_covers 21 = .ok (.ireturn, 1) := by decide +kernel
theorem dX12_load_0 : decode cX12_load 0 = .ok (.bipush 60, 2) := by decide +kernel
theorem dX12_load_2 : decode cX12_load 2 = .ok (.iload_n 1, 1) := by decide +kernel
theorem dX12_load_3 : decode cX12_load 3 = .ok (.imul, 1) := by decide +kernel
theorem dX12_load_4 : decode cX12_load 4 = .ok (.iload_n 2, 1) := by decide +kernel
theorem dX12_load_5 : decode cX12_load 5 = .ok (.iadd, 1) := by decide +kernel
theorem dX12_load_6 : decode cX12_load 6 = .ok (.istore_n 3, 1) := by decide +kernel
theorem dX12_load_7 : decode cX12_load 7 = .ok (.aload_n 0, 1) := by decide +kernel
theorem dX12_load_8 : decode cX12_load 8 = .ok (.aload_n 0, 1) := by decide +kernel
theorem dX12_load_9 : decode cX12_load 9 = .ok (.getfield 81, 3) := by decide +kernel
theorem dX12_load_12 : decode cX12_load 12 = .ok (.iload_n 3, 1) := by decide +kernel
theorem dX12_load_13 : decode cX12_load 13 = .ok (.iaload, 1) := by decide +kernel
theorem dX12_load_14 : decode cX12_load 14 = .ok (.putfield 212, 3) := by decide +kernel
theorem dX12_load_17 : decode cX12_load 17 = .ok (.iconst 0, 1) := by decide +kernel
theorem dX12_load_18 : decode cX12_load 18 = .ok (.istore 4, 2) := by decide +kernel
theorem dX12_load_20 : decode cX12_load 20 = .ok (.iload 4, 2) := by decide +kernel
theorem dX12_load_22 : decode cX12_load 22 = .ok (.aload_n 0, 1) := by decide +kernel
theorem dX12_load_23 : decode cX12_load 23 = .ok (.getfield 212, 3) := by decide +kernel
theorem dX12_load_26 : decode cX12_load 26 = .ok (.if_icmp .ge 28, 3) := by decide +kernel
theorem dX12_load_29 : decode cX12_load 29 = .ok (.aload_n 0, 1) := by decide +kernel
theorem dX12_load_30 : decode cX12_load 30 = .ok (.getfield 90, 3) := by decide +kernel
theorem dX12_load_33 : decode cX12_load 33 = .ok (.iload 4, 2) := by decide +kernel
theorem dX12_load_35 : decode cX12_load 35 = .ok (.aload_n 0, 1) := by decide +kernel
theorem dX12_load_36 : decode cX12_load 36 = .ok (.getfield 84, 3) := by decide +kernel
theorem dX12_load_39 : decode cX12_load 39 = .ok (.bipush 12, 2) := by decide +kernel
theorem dX12_load_41 : decode cX12_load 41 = .ok (.iload_n 3, 1) := by decide +kernel
theorem dX12_load_42 : decode cX12_load 42 = .ok (.imul, 1) := by decide +kernel
theorem dX12_load_43 : decode cX12_load 43 = .ok (.iload 4, 2) := by decide +kernel
theorem dX12_load_45 : decode cX12_load 45 = .ok (.iadd, 1) := by decide +kernel
theorem dX12_load_46 : decode cX12_load 46 = .ok (.iaload, 1) := by decide +kernel
theorem dX12_load_47 : decode cX12_load 47 = .ok (.iastore, 1) := by decide +kernel
theorem dX12_load_48 : decode cX12_load 48 = .ok (.iinc 4 1, 3) := by decide +kernel
theorem dX12_load_51 : decode cX12_load 51 = .ok (.goto (-31), 3) := by decide +kernel
theorem dX12_load_54 : decode cX12_load 54 = .ok (.iconst 0, 1) := by decide +kernel
theorem dX12_load_55 : decode cX12_load 55 = .ok (.istore 4, 2) := by decide +kernel
theorem dX12_load_57 : decode cX12_load 57 = .ok (.iload 4, 2) := by decide +kernel
theorem dX12_load_59 : decode cX12_load 59 = .ok (.bipush 16, 2) := by decide +kernel
theorem dX12_load_61 : decode cX12_load 61 = .ok (.if_icmp .ge 28, 3) := by decide +kernel
theorem dX12_load_64 : decode cX12_load 64 = .ok (.aload_n 0, 1) := by decide +kernel
theorem dX12_load_65 : decode cX12_load 65 = .ok (.getfield 93, 3) := by decide +kernel
theorem dX12_load_68 : decode cX12_load 68 = .ok (.iload 4, 2) := by decide +kernel
theorem dX12_load_70 : decode cX12_load 70 = .ok (.aload_n 0, 1) := by decide +kernel
theorem dX12_load_71 : decode cX12_load 71 = .ok (.getfield 87, 3) := by decide +kernel
theorem dX12_load_74 : decode cX12_load 74 = .ok (.bipush 16, 2) := by decide +kernel
theorem dX12_load_76 : decode cX12_load 76 = .ok (.iload_n 3, 1) := by decide +kernel
theorem dX12_load_77 : decode cX12_load 77 = .ok (.imul, 1) := by decide +kernel
theorem dX12_load_78 : decode cX12_load 78 = .ok (.iload 4, 2) := by decide +kernel
theorem dX12_load_80 : decode cX12_load 80 = .ok (.iadd, 1) := by decide +kernel
theorem dX12_load_81 : decode cX12_load 81 = .ok (.iaload, 1) := by decide +kernel
theorem dX12_load_82 : decode cX12_load 82 = .ok (.iastore, 1) := by decide +kernel
theorem dX12_load_83 : decode cX12_load 83 = .ok (.iinc 4 1, 3) := by decide +kernel
theorem dX12_load_86 : decode cX12_load 86 = .ok (.goto (-29), 3) := by decide +kernel
theorem dX12_load_89 : decode cX12_load 89 = .ok (.return_, 1) := by decide +kernel
theorem dX12_isType_0 : decode cX12_isType 0 = .ok (.iload_n 0, 1) := by decide +kernel
theorem dX12_isType_1 : decode cX12_isType 1 = .ok (.i2l, 1) := by decide +kernel
theorem dX12_isType_2 : decode cX12_isType 2 = .ok (.ldc2_w 193, 3) := by decide +kernel
theorem dX12_isType_5 : decode cX12_isType 5 = .ok (.ldc2_w 195, 3) := by decide +kernel
theorem dX12_isType_8 : decode cX12_isType 8 = .ok (.invokestatic 151, 3) := by decide +kernel
theorem dX12_isType_11 : decode cX12_isType 11 = .ok (.ifCond .eq 15, 3) := by decide +kernel
theorem dX12_isType_14 : decode cX12_isType 14 = .ok (.iload_n 0, 1) := by decide +kernel
theorem dX12_isType_15 : decode cX12_isType 15 = .ok (.bipush 8, 2) := by decide +kernel
theorem dX12_isType_17 : decode cX12_isType 17 = .ok (.irem, 1) := by decide +kernel
theorem dX12_isType_18 : decode cX12_isType 18 = .ok (.iconst 4, 1) := by decide +kernel
theorem dX12_isType_19 : decode cX12_isType 19 = .ok (.if_icmp .eq 7, 3) := by decide +kernel
theorem dX12_isType_22 : decode cX12_isType 22 = .ok (.iconst 1, 1) := by decide +kernel
theorem dX12_isType_23 : decode cX12_isType 23 = .ok (.goto 4, 3) := by decide +kernel
theorem dX12_isType_26 : decode cX12_isType 26 = .ok (.iconst 0, 1) := by decide +kernel
theorem dX12_isType_27 : decode cX12_isType 27 = .ok (.ireturn, 1) := by decide +kernel
theorem dX12_isOdd_0 : decode cX12_isOdd 0 = .ok (.iload_n 1, 1) := by decide +kernel
theorem dX12_isOdd_1 : decode cX12_isOdd 1 = .ok (.tableswitch 440 1 35 #[155, 440, 155, 440, 177, 177, 212, 440, 440, 440, 440, 440, 440, 440, 440, 440, 230, 258, 258, 440, 276, 294, 310, 332, 359, 359, 440, 377, 377, 390, 440, 440, 440, 408, 426], 155) := by decide +kernel
theorem dX12_isOdd_156 : decode cX12_isOdd 156 = .ok (.iload_n 2, 1) := by decide +kernel
theorem dX12_isOdd_157 : decode cX12_isOdd 157 = .ok (.i2l, 1) := by decide +kernel
theorem dX12_isOdd_158 : decode cX12_isOdd 158 = .ok (.lconst 0, 1) := by decide +kernel
theorem dX12_isOdd_159 : decode cX12_isOdd 159 = .ok (.aload_n 0, 1) := by decide +kernel
theorem dX12_isOdd_160 : decode cX12_isOdd 160 = .ok (.getfield 184, 3) := by decide +kernel
theorem dX12_isOdd_163 : decode cX12_isOdd 163 = .ok (.iconst 1, 1) := by decide +kernel
theorem dX12_isOdd_164 : decode cX12_isOdd 164 = .ok (.isub, 1) := by decide +kernel
theorem dX12_isOdd_165 : decode cX12_isOdd 165 = .ok (.i2l, 1) := by decide +kernel
theorem dX12_isOdd_166 : decode cX12_isOdd 166 = .ok (.invokestatic 151, 3) := by decide +kernel
theorem dX12_isOdd_169 : decode cX12_isOdd 169 = .ok (.ifCond .ne 7, 3) := by decide +kernel
theorem dX12_isOdd_172 : decode cX12_isOdd 172 = .ok (.iconst 1, 1) := by decide +kernel
theorem dX12_isOdd_173 : decode cX12_isOdd 173 = .ok (.goto 4, 3) := by decide +kernel
theorem dX12_isOdd_176 : decode cX12_isOdd 176 = .ok (.iconst 0, 1) := by decide +kernel
theorem dX12_isOdd_177 : decode cX12_isOdd 177 = .ok (.ireturn, 1) := by decide +kernel
theorem dX12_isOdd_178 : decode cX12_isOdd 178 = .ok (.iload_n 3, 1) := by decide +kernel
theorem dX12_isOdd_179 : decode cX12_isOdd 179 = .ok (.i2l, 1) := by decide +kernel
theorem dX12_isOdd_180 : decode cX12_isOdd 180 = .ok (.lconst 0, 1) := by decide +kernel
theorem dX12_isOdd_181 : decode cX12_isOdd 181 = .ok (.ldc2_w 164, 3) := by decide +kernel
theorem dX12_isOdd_184 : decode cX12_isOdd 184 = .ok (.invokestatic 151, 3) := by decide +kernel
theorem dX12_isOdd_187 : decode cX12_isOdd 187 = .ok (.ifCond .eq 20, 3) := by decide +kernel
theorem dX12_isOdd_190 : decode cX12_isOdd 190 = .ok (.iload_n 2, 1) := by decide +kernel
theorem dX12_isOdd_191 : decode cX12_isOdd 191 = .ok (.i2l, 1) := by decide +kernel
theorem dX12_isOdd_192 : decode cX12_isOdd 192 = .ok (.lconst 0, 1) := by decide +kernel
theorem dX12_isOdd_193 : decode cX12_isOdd 193 = .ok (.bipush 16, 2) := by decide +kernel
theorem dX12_isOdd_195 : decode cX12_isOdd 195 = .ok (.iload_n 3, 1) := by decide +kernel
theorem dX12_isOdd_196 : decode cX12_isOdd 196 = .ok (.invokestatic 166, 3) := by decide +kernel
theorem dX12_isOdd_199 : decode cX12_isOdd 199 = .ok (.isub, 1) := by decide +kernel
theorem dX12_isOdd_200 : decode cX12_isOdd 200 = .ok (.i2l, 1) := by decide +kernel
theorem dX12_isOdd_201 : decode cX12_isOdd 201 = .ok (.invokestatic 151, 3) := by decide +kernel
theorem dX12_isOdd_204 : decode cX12_isOdd 204 = .ok (.ifCond .ne 7, 3) := by decide +kernel
theorem dX12_isOdd_207 : decode cX12_isOdd 207 = .ok (.iconst 1, 1) := by decide +kernel
theorem dX12_isOdd_208 : decode cX12_isOdd 208 = .ok (.goto 4, 3) := by decide +kernel
theorem dX12_isOdd_211 : decode cX12_isOdd 211 = .ok (.iconst 0, 1) := by decide +kernel
theorem dX12_isOdd_212 : decode cX12_isOdd 212 = .ok (.ireturn, 1) := by decide +kernel
theorem dX12_isOdd_213 : decode cX12_isOdd 213 = .ok (.iload_n 2, 1) := by decide +kernel
theorem dX12_isOdd_214 : decode cX12_isOdd 214 = .ok (.i2l, 1) := by decide +kernel
theorem dX12_isOdd_215 : decode cX12_isOdd 215 = .ok (.lconst 0, 1) := by decide +kernel
theorem dX12_isOdd_216 : decode cX12_isOdd 216 = .ok (.ldc2_w 182, 3) := by decide +kernel
theorem dX12_isOdd_219 : decode cX12_isOdd 219 = .ok (.invokestatic 151, 3) := by decide +kernel
theorem dX12_isOdd_222 : decode cX12_isOdd 222 = .ok (.ifCond .ne 7, 3) := by decide +kernel
theorem dX12_isOdd_225 : decode cX12_isOdd 225 = .ok (.iconst 1, 1) := by decide +kernel
theorem dX12_isOdd_226 : decode cX12_isOdd 226 = .ok (.goto 4, 3) := by decide +kernel
theorem dX12_isOdd_229 : decode cX12_isOdd 229 = .ok (.iconst 0, 1) := by decide +kernel
theorem dX12_isOdd_230 : decode cX12_isOdd 230 = .ok (.ireturn, 1) := by decide +kernel
theorem dX12_isOdd_231 : decode cX12_isOdd 231 = .ok (.iload_n 2, 1) := by decide +kernel
theorem dX12_isOdd_232 : decode cX12_isOdd 232 = .ok (.i2l, 1) := by decide +kernel
theorem dX12_isOdd_233 : decode cX12_isOdd 233 = .ok (.lconst 0, 1) := by decide +kernel
theorem dX12_isOdd_234 : decode cX12_isOdd 234 = .ok (.ldc2_w 197, 3) := by decide +kernel
theorem dX12_isOdd_237 : decode cX12_isOdd 237 = .ok (.invokestatic 151, 3) := by decide +kernel
theorem dX12_isOdd_240 : decode cX12_isOdd 240 = .ok (.ifCond .eq 13, 3) := by decide +kernel
theorem dX12_isOdd_243 : decode cX12_isOdd 243 = .ok (.iload_n 3, 1) := by decide +kernel
theorem dX12_isOdd_244 : decode cX12_isOdd 244 = .ok (.i2l, 1) := by decide +kernel
theorem dX12_isOdd_245 : decode cX12_isOdd 245 = .ok (.lconst 0, 1) := by decide +kernel
theorem dX12_isOdd_246 : decode cX12_isOdd 246 = .ok (.lconst 1, 1) := by decide +kernel
theorem dX12_isOdd_247 : decode cX12_isOdd 247 = .ok (.invokestatic 151, 3) := by decide +kernel
theorem dX12_isOdd_250 : decode cX12_isOdd 250 = .ok (.ifCond .ne 7, 3) := by decide +kernel
theorem dX12_isOdd_253 : decode cX12_isOdd 253 = .ok (.iconst 1, 1) := by decide +kernel
theorem dX12_isOdd_254 : decode cX12_isOdd 254 = .ok (.goto 4, 3) := by decide +kernel
theorem dX12_isOdd_257 : decode cX12_isOdd 257 = .ok (.iconst 0, 1) := by decide +kernel
theorem dX12_isOdd_258 : decode cX12_isOdd 258 = .ok (.ireturn, 1) := by decide +kernel
theorem dX12_isOdd_259 : decode cX12_isOdd 259 = .ok (.iload_n 2, 1) := by decide +kernel
theorem dX12_isOdd_260 : decode cX12_isOdd 260 = .ok (.i2l, 1) := by decide +kernel
theorem dX12_isOdd_261 : decode cX12_isOdd 261 = .ok (.lconst 0, 1) := by decide +kernel
theorem dX12_isOdd_262 : decode cX12_isOdd 262 = .ok (.ldc2_w 164, 3) := by decide +kernel
theorem dX12_isOdd_265 : decode cX12_isOdd 265 = .ok (.invokestatic 151, 3) := by decide +kernel
theorem dX12_isOdd_268 : decode cX12_isOdd 268 = .ok (.ifCond .ne 7, 3) := by decide +kernel
theorem dX12_isOdd_271 : decode cX12_isOdd 271 = .ok (.iconst 1, 1) := by decide +kernel
theorem dX12_isOdd_272 : decode cX12_isOdd 272 = .ok (.goto 4, 3) := by decide +kernel
theorem dX12_isOdd_275 : decode cX12_isOdd 275 = .ok (.iconst 0, 1) := by decide +kernel
theorem dX12_isOdd_276 : decode cX12_isOdd 276 = .ok (.ireturn, 1) := by decide +kernel
theorem dX12_isOdd_277 : decode cX12_isOdd 277 = .ok (.iload_n 3, 1) := by decide +kernel
theorem dX12_isOdd_278 : decode cX12_isOdd 278 = .ok (.i2l, 1) := by decide +kernel
theorem dX12_isOdd_279 : decode cX12_isOdd 279 = .ok (.lconst 0, 1) := by decide +kernel
theorem dX12_isOdd_280 : decode cX12_isOdd 280 = .ok (.ldc2_w 155, 3) := by decide +kernel
theorem dX12_isOdd_283 : decode cX12_isOdd 283 = .ok (.invokestatic 151, 3) := by decide +kernel
theorem dX12_isOdd_286 : decode cX12_isOdd 286 = .ok (.ifCond .ne 7, 3) := by decide +kernel
theorem dX12_isOdd_289 : decode cX12_isOdd 289 = .ok (.iconst 1, 1) := by decide +kernel
theorem dX12_isOdd_290 : decode cX12_isOdd 290 = .ok (.goto 4, 3) := by decide +kernel
theorem dX12_isOdd_293 : decode cX12_isOdd 293 = .ok (.iconst 0, 1) := by decide +kernel
theorem dX12_isOdd_294 : decode cX12_isOdd 294 = .ok (.ireturn, 1) := by decide +kernel
theorem dX12_isOdd_295 : decode cX12_isOdd 295 = .ok (.iload_n 3, 1) := by decide +kernel
theorem dX12_isOdd_296 : decode cX12_isOdd 296 = .ok (.i2l, 1) := by decide +kernel
theorem dX12_isOdd_297 : decode cX12_isOdd 297 = .ok (.lconst 0, 1) := by decide +kernel
theorem dX12_isOdd_298 : decode cX12_isOdd 298 = .ok (.lconst 1, 1) := by decide +kernel
theorem dX12_isOdd_299 : decode cX12_isOdd 299 = .ok (.invokestatic 151, 3) := by decide +kernel
theorem dX12_isOdd_302 : decode cX12_isOdd 302 = .ok (.ifCond .ne 7, 3) := by decide +kernel
theorem dX12_isOdd_305 : decode cX12_isOdd 305 = .ok (.iconst 1, 1) := by decide +kernel
theorem dX12_isOdd_306 : decode cX12_isOdd 306 = .ok (.goto 4, 3) := by decide +kernel
theorem dX12_isOdd_309 : decode cX12_isOdd 309 = .ok (.iconst 0, 1) := by decide +kernel
theorem dX12_isOdd_310 : decode cX12_isOdd 310 = .ok (.ireturn, 1) := by decide +kernel
theorem dX12_isOdd_311 : decode cX12_isOdd 311 = .ok (.iload_n 2, 1) := by decide +kernel
theorem dX12_isOdd_312 : decode cX12_isOdd 312 = .ok (.i2l, 1) := by decide +kernel
theorem dX12_isOdd_313 : decode cX12_isOdd 313 = .ok (.lconst 0, 1) := by decide +kernel
theorem dX12_isOdd_314 : decode cX12_isOdd 314 = .ok (.aload_n 0, 1) := by decide +kernel
theorem dX12_isOdd_315 : decode cX12_isOdd 315 = .ok (.getfield 187, 3) := by decide +kernel
theorem dX12_isOdd_318 : decode cX12_isOdd 318 = .ok (.iconst 1, 1) := by decide +kernel
theorem dX12_isOdd_319 : decode cX12_isOdd 319 = .ok (.isub, 1) := by decide +kernel
theorem dX12_isOdd_320 : decode cX12_isOdd 320 = .ok (.i2l, 1) := by decide +kernel
theorem dX12_isOdd_321 : decode cX12_isOdd 321 = .ok (.invokestatic 151, 3) := by decide +kernel
theorem dX12_isOdd_324 : decode cX12_isOdd 324 = .ok (.ifCond .ne 7, 3) := by decide +kernel
theorem dX12_isOdd_327 : decode cX12_isOdd 327 = .ok (.iconst 1, 1) := by decide +kernel
theorem dX12_isOdd_328 : decode cX12_isOdd 328 = .ok (.goto 4, 3) := by decide +kernel
theorem dX12_isOdd_331 : decode cX12_isOdd 331 = .ok (.iconst 0, 1) := by decide +kernel
theorem dX12_isOdd_332 : decode cX12_isOdd 332 = .ok (.ireturn, 1) := by decide +kernel
theorem dX12_isOdd_333 : decode cX12_isOdd 333 = .ok (.iload_n 2, 1) := by decide +kernel
theorem dX12_isOdd_334 : decode cX12_isOdd 334 = .ok (.invokestatic 199, 3) := by decide +kernel
theorem dX12_isOdd_337 : decode cX12_isOdd 337 = .ok (.ifCond .eq 17, 3) := by decide +kernel
theorem dX12_isOdd_340 : decode cX12_isOdd 340 = .ok (.iload_n 3, 1) := by decide +kernel
theorem dX12_isOdd_341 : decode cX12_isOdd 341 = .ok (.i2l, 1) := by decide +kernel
theorem dX12_isOdd_342 : decode cX12_isOdd 342 = .ok (.lconst 1, 1) := by decide +kernel
theorem dX12_isOdd_343 : decode cX12_isOdd 343 = .ok (.iload_n 2, 1) := by decide +kernel
theorem dX12_isOdd_344 : decode cX12_isOdd 344 = .ok (.bipush 8, 2) := by decide +kernel
theorem dX12_isOdd_346 : decode cX12_isOdd 346 = .ok (.idiv, 1) := by decide +kernel
theorem dX12_isOdd_347 : decode cX12_isOdd 347 = .ok (.i2l, 1) := by decide +kernel
theorem dX12_isOdd_348 : decode cX12_isOdd 348 = .ok (.invokestatic 151, 3) := by decide +kernel
theorem dX12_isOdd_351 : decode cX12_isOdd 351 = .ok (.ifCond .ne 7, 3) := by decide +kernel
theorem dX12_isOdd_354 : decode cX12_isOdd 354 = .ok (.iconst 1, 1) := by decide +kernel
theorem dX12_isOdd_355 : decode cX12_isOdd 355 = .ok (.goto 4, 3) := by decide +kernel
theorem dX12_isOdd_358 : decode cX12_isOdd 358 = .ok (.iconst 0, 1) := by decide +kernel
theorem dX12_isOdd_359 : decode cX12_isOdd 359 = .ok (.ireturn, 1) := by decide +kernel
theorem dX12_isOdd_360 : decode cX12_isOdd 360 = .ok (.iload_n 3, 1) := by decide +kernel
theorem dX12_isOdd_361 : decode cX12_isOdd 361 = .ok (.i2l, 1) := by decide +kernel
theorem dX12_isOdd_362 : decode cX12_isOdd 362 = .ok (.lconst 0, 1) := by decide +kernel
theorem dX12_isOdd_363 : decode cX12_isOdd 363 = .ok (.ldc2_w 202, 3) := by decide +kernel
theorem dX12_isOdd_366 : decode cX12_isOdd 366 = .ok (.invokestatic 151, 3) := by decide +kernel
theorem dX12_isOdd_369 : decode cX12_isOdd 369 = .ok (.ifCond .ne 7, 3) := by decide +kernel
theorem dX12_isOdd_372 : decode cX12_isOdd 372 = .ok (.iconst 1, 1) := by decide +kernel
theorem dX12_isOdd_373 : decode cX12_isOdd 373 = .ok (.goto 4, 3) := by decide +kernel
theorem dX12_isOdd_376 : decode cX12_isOdd 376 = .ok (.iconst 0, 1) := by decide +kernel
theorem dX12_isOdd_377 : decode cX12_isOdd 377 = .ok (.ireturn, 1) := by decide +kernel
theorem dX12_isOdd_378 : decode cX12_isOdd 378 = .ok (.iload_n 2, 1) := by decide +kernel
theorem dX12_isOdd_379 : decode cX12_isOdd 379 = .ok (.invokestatic 199, 3) := by decide +kernel
theorem dX12_isOdd_382 : decode cX12_isOdd 382 = .ok (.ifCond .ne 7, 3) := by decide +kernel
theorem dX12_isOdd_385 : decode cX12_isOdd 385 = .ok (.iconst 1, 1) := by decide +kernel
theorem dX12_isOdd_386 : decode cX12_isOdd 386 = .ok (.goto 4, 3) := by decide +kernel
theorem dX12_isOdd_389 : decode cX12_isOdd 389 = .ok (.iconst 0, 1) := by decide +kernel
theorem dX12_isOdd_390 : decode cX12_isOdd 390 = .ok (.ireturn, 1) := by decide +kernel
theorem dX12_isOdd_391 : decode cX12_isOdd 391 = .ok (.iload_n 2, 1) := by decide +kernel
theorem dX12_isOdd_392 : decode cX12_isOdd 392 = .ok (.i2l, 1) := by decide +kernel
theorem dX12_isOdd_393 : decode cX12_isOdd 393 = .ok (.lconst 0, 1) := by decide +kernel
theorem dX12_isOdd_394 : decode cX12_isOdd 394 = .ok (.ldc2_w 182, 3) := by decide +kernel
theorem dX12_isOdd_397 : decode cX12_isOdd 397 = .ok (.invokestatic 151, 3) := by decide +kernel
theorem dX12_isOdd_400 : decode cX12_isOdd 400 = .ok (.ifCond .ne 7, 3) := by decide +kernel
theorem dX12_isOdd_403 : decode cX12_isOdd 403 = .ok (.iconst 1, 1) := by decide +kernel
theorem dX12_isOdd_404 : decode cX12_isOdd 404 = .ok (.goto 4, 3) := by decide +kernel
theorem dX12_isOdd_407 : decode cX12_isOdd 407 = .ok (.iconst 0, 1) := by decide +kernel
theorem dX12_isOdd_408 : decode cX12_isOdd 408 = .ok (.ireturn, 1) := by decide +kernel
theorem dX12_isOdd_409 : decode cX12_isOdd 409 = .ok (.iload_n 2, 1) := by decide +kernel
theorem dX12_isOdd_410 : decode cX12_isOdd 410 = .ok (.i2l, 1) := by decide +kernel
theorem dX12_isOdd_411 : decode cX12_isOdd 411 = .ok (.lconst 0, 1) := by decide +kernel
theorem dX12_isOdd_412 : decode cX12_isOdd 412 = .ok (.ldc2_w 155, 3) := by decide +kernel
theorem dX12_isOdd_415 : decode cX12_isOdd 415 = .ok (.invokestatic 151, 3) := by decide +kernel
theorem dX12_isOdd_418 : decode cX12_isOdd 418 = .ok (.ifCond .ne 7, 3) := by decide +kernel
theorem dX12_isOdd_421 : decode cX12_isOdd 421 = .ok (.iconst 1, 1) := by decide +kernel
theorem dX12_isOdd_422 : decode cX12_isOdd 422 = .ok (.goto 4, 3) := by decide +kernel
theorem dX12_isOdd_425 : decode cX12_isOdd 425 = .ok (.iconst 0, 1) := by decide +kernel
theorem dX12_isOdd_426 : decode cX12_isOdd 426 = .ok (.ireturn, 1) := by decide +kernel
theorem dX12_isOdd_427 : decode cX12_isOdd 427 = .ok (.aload_n 0, 1) := by decide +kernel
theorem dX12_isOdd_428 : decode cX12_isOdd 428 = .ok (.iload_n 2, 1) := by decide +kernel
theorem dX12_isOdd_429 : decode cX12_isOdd 429 = .ok (.invokevirtual 160, 3) := by decide +kernel
theorem dX12_isOdd_432 : decode cX12_isOdd 432 = .ok (.ifCond .ne 7, 3) := by decide +kernel
theorem dX12_isOdd_435 : decode cX12_isOdd 435 = .ok (.iconst 1, 1) := by decide +kernel
theorem dX12_isOdd_436 : decode cX12_isOdd 436 = .ok (.goto 4, 3) := by decide +kernel
theorem dX12_isOdd_439 : decode cX12_isOdd 439 = .ok (.iconst 0, 1) := by decide +kernel
theorem dX12_isOdd_440 : decode cX12_isOdd 440 = .ok (.ireturn, 1) := by decide +kernel
theorem dX12_isOdd_441 : decode cX12_isOdd 441 = .ok (.iconst 0, 1) := by decide +kernel
theorem dX12_isOdd_442 : decode cX12_isOdd 442 = .ok (.ireturn, 1) := by decide +kernel
theorem dX12_wrong_0 : decode cX12_wrong 0 = .ok (.aload_n 0, 1) := by decide +kernel
theorem dX12_wrong_1 : decode cX12_wrong 1 = .ok (.iload_n 1, 1) := by decide +kernel
theorem dX12_wrong_2 : decode cX12_wrong 2 = .ok (.putfield 96, 3) := by decide +kernel
theorem dX12_wrong_5 : decode cX12_wrong 5 = .ok (.aload_n 0, 1) := by decide +kernel
theorem dX12_wrong_6 : decode cX12_wrong 6 = .ok (.iload_n 2, 1) := by decide +kernel
theorem dX12_wrong_7 : decode cX12_wrong 7 = .ok (.putfield 100, 3) := by decide +kernel
theorem dX12_wrong_10 : decode cX12_wrong 10 = .ok (.bipush (-10), 2) := by decide +kernel
theorem dX12_wrong_12 : decode cX12_wrong 12 = .ok (.iload_n 3, 1) := by decide +kernel
theorem dX12_wrong_13 : decode cX12_wrong 13 = .ok (.isub, 1) := by decide +kernel
theorem dX12_wrong_14 : decode cX12_wrong 14 = .ok (.ireturn, 1) := by decide +kernel
theorem dX12_isLost_0 : decode cX12_isLost 0 = .ok (.aload_n 0, 1) := by decide +kernel
theorem dX12_isLost_1 : decode cX12_isLost 1 = .ok (.getfield 22, 3) := by decide +kernel
theorem dX12_isLost_4 : decode cX12_isLost 4 = .ok (.iload_n 1, 1) := by decide +kernel
theorem dX12_isLost_5 : decode cX12_isLost 5 = .ok (.iaload, 1) := by decide +kernel
theorem dX12_isLost_6 : decode cX12_isLost 6 = .ok (.istore 5, 2) := by decide +kernel
theorem dX12_isLost_8 : decode cX12_isLost 8 = .ok (.iload_n 3, 1) := by decide +kernel
theorem dX12_isLost_9 : decode cX12_isLost 9 = .ok (.i2l, 1) := by decide +kernel
theorem dX12_isLost_10 : decode cX12_isLost 10 = .ok (.ldc2_w 204, 3) := by decide +kernel
theorem dX12_isLost_13 : decode cX12_isLost 13 = .ok (.ldc2_w 206, 3) := by decide +kernel
theorem dX12_isLost_16 : decode cX12_isLost 16 = .ok (.invokestatic 151, 3) := by decide +kernel
theorem dX12_isLost_19 : decode cX12_isLost 19 = .ok (.ifCond .eq 22, 3) := by decide +kernel
theorem dX12_isLost_22 : decode cX12_isLost 22 = .ok (.iload 4, 2) := by decide +kernel
theorem dX12_isLost_24 : decode cX12_isLost 24 = .ok (.i2l, 1) := by decide +kernel
theorem dX12_isLost_25 : decode cX12_isLost 25 = .ok (.lconst 0, 1) := by decide +kernel
theorem dX12_isLost_26 : decode cX12_isLost 26 = .ok (.iload 5, 2) := by decide +kernel
theorem dX12_isLost_28 : decode cX12_isLost 28 = .ok (.iconst 1, 1) := by decide +kernel
theorem dX12_isLost_29 : decode cX12_isLost 29 = .ok (.isub, 1) := by decide +kernel
theorem dX12_isLost_30 : decode cX12_isLost 30 = .ok (.i2l, 1) := by decide +kernel
theorem dX12_isLost_31 : decode cX12_isLost 31 = .ok (.invokestatic 151, 3) := by decide +kernel
theorem dX12_isLost_34 : decode cX12_isLost 34 = .ok (.ifCond .ne 7, 3) := by decide +kernel
theorem dX12_isLost_37 : decode cX12_isLost 37 = .ok (.iconst 1, 1) := by decide +kernel
theorem dX12_isLost_38 : decode cX12_isLost 38 = .ok (.goto 4, 3) := by decide +kernel
theorem dX12_isLost_41 : decode cX12_isLost 41 = .ok (.iconst 0, 1) := by decide +kernel
theorem dX12_isLost_42 : decode cX12_isLost 42 = .ok (.istore 6, 2) := by decide +kernel
theorem dX12_isLost_44 : decode cX12_isLost 44 = .ok (.iload_n 3, 1) := by decide +kernel
theorem dX12_isLost_45 : decode cX12_isLost 45 = .ok (.bipush 23, 2) := by decide +kernel
theorem dX12_isLost_47 : decode cX12_isLost 47 = .ok (.if_icmp .ne 73, 3) := by decide +kernel
theorem dX12_isLost_50 : decode cX12_isLost 50 = .ok (.aload_n 0, 1) := by decide +kernel
theorem dX12_isLost_51 : decode cX12_isLost 51 = .ok (.getfield 63, 3) := by decide +kernel
theorem dX12_isLost_54 : decode cX12_isLost 54 = .ok (.iload 4, 2) := by decide +kernel
theorem dX12_isLost_56 : decode cX12_isLost 56 = .ok (.iaload, 1) := by decide +kernel
theorem dX12_isLost_57 : decode cX12_isLost 57 = .ok (.iload 5, 2) := by decide +kernel
theorem dX12_isLost_59 : decode cX12_isLost 59 = .ok (.if_icmp .lt 7, 3) := by decide +kernel
theorem dX12_isLost_62 : decode cX12_isLost 62 = .ok (.iconst 1, 1) := by decide +kernel
theorem dX12_isLost_63 : decode cX12_isLost 63 = .ok (.goto 4, 3) := by decide +kernel
theorem dX12_isLost_66 : decode cX12_isLost 66 = .ok (.iconst 0, 1) := by decide +kernel
theorem dX12_isLost_67 : decode cX12_isLost 67 = .ok (.istore 6, 2) := by decide +kernel
theorem dX12_isLost_69 : decode cX12_isLost 69 = .ok (.iconst 0, 1) := by decide +kernel
theorem dX12_isLost_70 : decode cX12_isLost 70 = .ok (.istore 7, 2) := by decide +kernel
theorem dX12_isLost_72 : decode cX12_isLost 72 = .ok (.iload 7, 2) := by decide +kernel
theorem dX12_isLost_74 : decode cX12_isLost 74 = .ok (.aload_n 0, 1) := by decide +kernel
theorem dX12_isLost_75 : decode cX12_isLost 75 = .ok (.getfield 66, 3) := by decide +kernel
theorem dX12_isLost_78 : decode cX12_isLost 78 = .ok (.iload 4, 2) := by decide +kernel
theorem dX12_isLost_80 : decode cX12_isLost 80 = .ok (.iaload, 1) := by decide +kernel
theorem dX12_isLost_81 : decode cX12_isLost 81 = .ok (.if_icmp .ge 39, 3) := by decide +kernel
theorem dX12_isLost_84 : decode cX12_isLost 84 = .ok (.iload 6, 2) := by decide +kernel
theorem dX12_isLost_86 : decode cX12_isLost 86 = .ok (.ifCond .ne 21, 3) := by decide +kernel
theorem dX12_isLost_89 : decode cX12_isLost 89 = .ok (.aload_n 0, 1) := by decide +kernel
theorem dX12_isLost_90 : decode cX12_isLost 90 = .ok (.getfield 72, 3) := by decide +kernel
theorem dX12_isLost_93 : decode cX12_isLost 93 = .ok (.bipush 8, 2) := by decide +kernel
theorem dX12_isLost_95 : decode cX12_isLost 95 = .ok (.iload 4, 2) := by decide +kernel
theorem dX12_isLost_97 : decode cX12_isLost 97 = .ok (.imul, 1) := by decide +kernel
theorem dX12_isLost_98 : decode cX12_isLost 98 = .ok (.iload 7, 2) := by decide +kernel
theorem dX12_isLost_100 : decode cX12_isLost 100 = .ok (.iadd, 1) := by decide +kernel
theorem dX12_isLost_101 : decode cX12_isLost 101 = .ok (.iaload, 1) := by decide +kernel
theorem dX12_isLost_102 : decode cX12_isLost 102 = .ok (.iload 5, 2) := by decide +kernel
theorem dX12_isLost_104 : decode cX12_isLost 104 = .ok (.if_icmp .lt 7, 3) := by decide +kernel
theorem dX12_isLost_107 : decode cX12_isLost 107 = .ok (.iconst 1, 1) := by decide +kernel
theorem dX12_isLost_108 : decode cX12_isLost 108 = .ok (.goto 4, 3) := by decide +kernel
theorem dX12_isLost_111 : decode cX12_isLost 111 = .ok (.iconst 0, 1) := by decide +kernel
theorem dX12_isLost_112 : decode cX12_isLost 112 = .ok (.istore 6, 2) := by decide +kernel
theorem dX12_isLost_114 : decode cX12_isLost 114 = .ok (.iinc 7 1, 3) := by decide +kernel
theorem dX12_isLost_117 : decode cX12_isLost 117 = .ok (.goto (-45), 3) := by decide +kernel
theorem dX12_isLost_120 : decode cX12_isLost 120 = .ok (.bipush 6, 2) := by decide +kernel
theorem dX12_isLost_122 : decode cX12_isLost 122 = .ok (.iload_n 1, 1) := by decide +kernel
theorem dX12_isLost_123 : decode cX12_isLost 123 = .ok (.imul, 1) := by decide +kernel
theorem dX12_isLost_124 : decode cX12_isLost 124 = .ok (.istore 7, 2) := by decide +kernel
theorem dX12_isLost_126 : decode cX12_isLost 126 = .ok (.iload 7, 2) := by decide +kernel
theorem dX12_isLost_128 : decode cX12_isLost 128 = .ok (.bipush 6, 2) := by decide +kernel
theorem dX12_isLost_130 : decode cX12_isLost 130 = .ok (.iload_n 1, 1) := by decide +kernel
theorem dX12_isLost_131 : decode cX12_isLost 131 = .ok (.imul, 1) := by decide +kernel
theorem dX12_isLost_132 : decode cX12_isLost 132 = .ok (.aload_n 0, 1) := by decide +kernel
theorem dX12_isLost_133 : decode cX12_isLost 133 = .ok (.getfield 34, 3) := by decide +kernel
theorem dX12_isLost_136 : decode cX12_isLost 136 = .ok (.iload_n 1, 1) := by decide +kernel
theorem dX12_isLost_137 : decode cX12_isLost 137 = .ok (.iaload, 1) := by decide +kernel
theorem dX12_isLost_138 : decode cX12_isLost 138 = .ok (.iadd, 1) := by decide +kernel
theorem dX12_isLost_139 : decode cX12_isLost 139 = .ok (.if_icmp .ge 43, 3) := by decide +kernel
theorem dX12_isLost_142 : decode cX12_isLost 142 = .ok (.iload 6, 2) := by decide +kernel
theorem dX12_isLost_144 : decode cX12_isLost 144 = .ok (.ifCond .ne 25, 3) := by decide +kernel
theorem dX12_isLost_147 : decode cX12_isLost 147 = .ok (.aload_n 0, 1) := by decide +kernel
theorem dX12_isLost_148 : decode cX12_isLost 148 = .ok (.iload 7, 2) := by decide +kernel
theorem dX12_isLost_150 : decode cX12_isLost 150 = .ok (.iload_n 2, 1) := by decide +kernel
theorem dX12_isLost_151 : decode cX12_isLost 151 = .ok (.invokevirtual 208, 3) := by decide +kernel
theorem dX12_isLost_154 : decode cX12_isLost 154 = .ok (.ifCond .eq 19, 3) := by decide +kernel
theorem dX12_isLost_157 : decode cX12_isLost 157 = .ok (.aload_n 0, 1) := by decide +kernel
theorem dX12_isLost_158 : decode cX12_isLost 158 = .ok (.getfield 43, 3) := by decide +kernel
theorem dX12_isLost_161 : decode cX12_isLost 161 = .ok (.iload 7, 2) := by decide +kernel
theorem dX12_isLost_163 : decode cX12_isLost 163 = .ok (.iaload, 1) := by decide +kernel
theorem dX12_isLost_164 : decode cX12_isLost 164 = .ok (.iload 5, 2) := by decide +kernel
theorem dX12_isLost_166 : decode cX12_isLost 166 = .ok (.if_icmp .lt 7, 3) := by decide +kernel
theorem dX12_isLost_169 : decode cX12_isLost 169 = .ok (.iconst 1, 1) := by decide +kernel
theorem dX12_isLost_170 : decode cX12_isLost 170 = .ok (.goto 4, 3) := by decide +kernel
theorem dX12_isLost_173 : decode cX12_isLost 173 = .ok (.iconst 0, 1) := by decide +kernel
theorem dX12_isLost_174 : decode cX12_isLost 174 = .ok (.istore 6, 2) := by decide +kernel
theorem dX12_isLost_176 : decode cX12_isLost 176 = .ok (.iinc 7 1, 3) := by decide +kernel
theorem dX12_isLost_179 : decode cX12_isLost 179 = .ok (.goto (-53), 3) := by decide +kernel
theorem dX12_isLost_182 : decode cX12_isLost 182 = .ok (.iload 6, 2) := by decide +kernel
theorem dX12_isLost_184 : decode cX12_isLost 184 = .ok (.ireturn, 1) := by decide +kernel
theorem dX12_moves_0 : decode cX12_moves 0 = .ok (.iload_n 1, 1) := by decide +kernel
theorem dX12_moves_1 : decode cX12_moves 1 = .ok (.tableswitch 117 8 15 #[47, 47, 75, 82, 89, 96, 103, 110], 47) := by decide +kernel
theorem dX12_moves_48 : decode cX12_moves 48 = .ok (.aload_n 0, 1) := by decide +kernel
theorem dX12_moves_49 : decode cX12_moves 49 = .ok (.iload_n 1, 1) := by decide +kernel
theorem dX12_moves_50 : decode cX12_moves 50 = .ok (.bipush 7, 2) := by decide +kernel
theorem dX12_moves_52 : decode cX12_moves 52 = .ok (.isub, 1) := by decide +kernel
theorem dX12_moves_53 : decode cX12_moves 53 = .ok (.invokevirtual 215, 3) := by decide +kernel
theorem dX12_moves_56 : decode cX12_moves 56 = .ok (.ifCond .ne 5, 3) := by decide +kernel
theorem dX12_moves_59 : decode cX12_moves 59 = .ok (.iconst 0, 1) := by decide +kernel
theorem dX12_moves_60 : decode cX12_moves 60 = .ok (.ireturn, 1) := by decide +kernel
theorem dX12_moves_61 : decode cX12_moves 61 = .ok (.aload_n 0, 1) := by decide +kernel
theorem dX12_moves_62 : decode cX12_moves 62 = .ok (.dup, 1) := by decide +kernel
theorem dX12_moves_63 : decode cX12_moves 63 = .ok (.getfield 212, 3) := by decide +kernel
theorem dX12_moves_66 : decode cX12_moves 66 = .ok (.iload_n 1, 1) := by decide +kernel
theorem dX12_moves_67 : decode cX12_moves 67 = .ok (.bipush 7, 2) := by decide +kernel
theorem dX12_moves_69 : decode cX12_moves 69 = .ok (.isub, 1) := by decide +kernel
theorem dX12_moves_70 : decode cX12_moves 70 = .ok (.isub, 1) := by decide +kernel
theorem dX12_moves_71 : decode cX12_moves 71 = .ok (.putfield 212, 3) := by decide +kernel
theorem dX12_moves_74 : decode cX12_moves 74 = .ok (.iconst 1, 1) := by decide +kernel
theorem dX12_moves_75 : decode cX12_moves 75 = .ok (.ireturn, 1) := by decide +kernel
theorem dX12_moves_76 : decode cX12_moves 76 = .ok (.aload_n 0, 1) := by decide +kernel
theorem dX12_moves_77 : decode cX12_moves 77 = .ok (.iconst 1, 1) := by decide +kernel
theorem dX12_moves_78 : decode cX12_moves 78 = .ok (.iconst 0, 1) := by decide +kernel
theorem dX12_moves_79 : decode cX12_moves 79 = .ok (.invokevirtual 218, 3) := by decide +kernel
theorem dX12_moves_82 : decode cX12_moves 82 = .ok (.ireturn, 1) := by decide +kernel
theorem dX12_moves_83 : decode cX12_moves 83 = .ok (.aload_n 0, 1) := by decide +kernel
theorem dX12_moves_84 : decode cX12_moves 84 = .ok (.iconst 1, 1) := by decide +kernel
theorem dX12_moves_85 : decode cX12_moves 85 = .ok (.iconst 1, 1) := by decide +kernel
theorem dX12_moves_86 : decode cX12_moves 86 = .ok (.invokevirtual 218, 3) := by decide +kernel
theorem dX12_moves_89 : decode cX12_moves 89 = .ok (.ireturn, 1) := by decide +kernel
theorem dX12_moves_90 : decode cX12_moves 90 = .ok (.aload_n 0, 1) := by decide +kernel
theorem dX12_moves_91 : decode cX12_moves 91 = .ok (.iconst 1, 1) := by decide +kernel
theorem dX12_moves_92 : decode cX12_moves 92 = .ok (.iconst 2, 1) := by decide +kernel
theorem dX12_moves_93 : decode cX12_moves 93 = .ok (.invokevirtual 218, 3) := by decide +kernel
theorem dX12_moves_96 : decode cX12_moves 96 = .ok (.ireturn, 1) := by decide +kernel
theorem dX12_moves_97 : decode cX12_moves 97 = .ok (.aload_n 0, 1) := by decide +kernel
theorem dX12_moves_98 : decode cX12_moves 98 = .ok (.iconst 2, 1) := by decide +kernel
theorem dX12_moves_99 : decode cX12_moves 99 = .ok (.iconst 0, 1) := by decide +kernel
theorem dX12_moves_100 : decode cX12_moves 100 = .ok (.invokevirtual 218, 3) := by decide +kernel
theorem dX12_moves_103 : decode cX12_moves 103 = .ok (.ireturn, 1) := by decide +kernel
theorem dX12_moves_104 : decode cX12_moves 104 = .ok (.aload_n 0, 1) := by decide +kernel
theorem dX12_moves_105 : decode cX12_moves 105 = .ok (.iconst 2, 1) := by decide +kernel
theorem dX12_moves_106 : decode cX12_moves 106 = .ok (.iconst 1, 1) := by decide +kernel
theorem dX12_moves_107 : decode cX12_moves 107 = .ok (.invokevirtual 218, 3) := by decide +kernel
theorem dX12_moves_110 : decode cX12_moves 110 = .ok (.ireturn, 1) := by decide +kernel
theorem dX12_moves_111 : decode cX12_moves 111 = .ok (.aload_n 0, 1) := by decide +kernel
theorem dX12_moves_112 : decode cX12_moves 112 = .ok (.iconst 2, 1) := by decide +kernel
theorem dX12_moves_113 : decode cX12_moves 113 = .ok (.iconst 2, 1) := by decide +kernel
theorem dX12_moves_114 : decode cX12_moves 114 = .ok (.invokevirtual 218, 3) := by decide +kernel
theorem dX12_moves_117 : decode cX12_moves 117 = .ok (.ireturn, 1) := by decide +kernel
theorem dX12_moves_118 : decode cX12_moves 118 = .ok (.aload_n 0, 1) := by decide +kernel
theorem dX12_moves_119 : decode cX12_moves 119 = .ok (.iconst 1, 1) := by decide +kernel
theorem dX12_moves_120 : decode cX12_moves 120 = .ok (.invokevirtual 215, 3) := by decide +kernel
theorem dX12_moves_123 : decode cX12_moves 123 = .ok (.ifCond .eq 11, 3) := by decide +kernel
theorem dX12_moves_126 : decode cX12_moves 126 = .ok (.aload_n 0, 1) := by decide +kernel
theorem dX12_moves_127 : decode cX12_moves 127 = .ok (.iconst 2, 1) := by decide +kernel
theorem dX12_moves_128 : decode cX12_moves 128 = .ok (.invokevirtual 215, 3) := by decide +kernel
theorem dX12_moves_131 : decode cX12_moves 131 = .ok (.ifCond .ne 5, 3) := by decide +kernel
theorem dX12_moves_134 : decode cX12_moves 134 = .ok (.iconst 0, 1) := by decide +kernel
theorem dX12_moves_135 : decode cX12_moves 135 = .ok (.ireturn, 1) := by decide +kernel
theorem dX12_moves_136 : decode cX12_moves 136 = .ok (.aload_n 0, 1) := by decide +kernel
theorem dX12_moves_137 : decode cX12_moves 137 = .ok (.getfield 90, 3) := by decide +kernel
theorem dX12_moves_140 : decode cX12_moves 140 = .ok (.aload_n 0, 1) := by decide +kernel
theorem dX12_moves_141 : decode cX12_moves 141 = .ok (.getfield 212, 3) := by decide +kernel
theorem dX12_moves_144 : decode cX12_moves 144 = .ok (.iconst 1, 1) := by decide +kernel
theorem dX12_moves_145 : decode cX12_moves 145 = .ok (.isub, 1) := by decide +kernel
theorem dX12_moves_146 : decode cX12_moves 146 = .ok (.iaload, 1) := by decide +kernel
theorem dX12_moves_147 : decode cX12_moves 147 = .ok (.istore_n 2, 1) := by decide +kernel
theorem dX12_moves_148 : decode cX12_moves 148 = .ok (.aload_n 0, 1) := by decide +kernel
theorem dX12_moves_149 : decode cX12_moves 149 = .ok (.getfield 90, 3) := by decide +kernel
theorem dX12_moves_152 : decode cX12_moves 152 = .ok (.aload_n 0, 1) := by decide +kernel
theorem dX12_moves_153 : decode cX12_moves 153 = .ok (.getfield 212, 3) := by decide +kernel
theorem dX12_moves_156 : decode cX12_moves 156 = .ok (.iconst 1, 1) := by decide +kernel
theorem dX12_moves_157 : decode cX12_moves 157 = .ok (.isub, 1) := by decide +kernel
theorem dX12_moves_158 : decode cX12_moves 158 = .ok (.aload_n 0, 1) := by decide +kernel
theorem dX12_moves_159 : decode cX12_moves 159 = .ok (.getfield 90, 3) := by decide +kernel
theorem dX12_moves_162 : decode cX12_moves 162 = .ok (.aload_n 0, 1) := by decide +kernel
theorem dX12_moves_163 : decode cX12_moves 163 = .ok (.getfield 212, 3) := by decide +kernel
theorem dX12_moves_166 : decode cX12_moves 166 = .ok (.iconst 2, 1) := by decide +kernel
theorem dX12_moves_167 : decode cX12_moves 167 = .ok (.isub, 1) := by decide +kernel
theorem dX12_moves_168 : decode cX12_moves 168 = .ok (.iaload, 1) := by decide +kernel
theorem dX12_moves_169 : decode cX12_moves 169 = .ok (.iastore, 1) := by decide +kernel
theorem dX12_moves_170 : decode cX12_moves 170 = .ok (.aload_n 0, 1) := by decide +kernel
theorem dX12_moves_171 : decode cX12_moves 171 = .ok (.getfield 90, 3) := by decide +kernel
theorem dX12_moves_174 : decode cX12_moves 174 = .ok (.aload_n 0, 1) := by decide +kernel
theorem dX12_moves_175 : decode cX12_moves 175 = .ok (.getfield 212, 3) := by decide +kernel
theorem dX12_moves_178 : decode cX12_moves 178 = .ok (.iconst 2, 1) := by decide +kernel
theorem dX12_moves_179 : decode cX12_moves 179 = .ok (.isub, 1) := by decide +kernel
theorem dX12_moves_180 : decode cX12_moves 180 = .ok (.iload_n 2, 1) := by decide +kernel
theorem dX12_moves_181 : decode cX12_moves 181 = .ok (.iastore, 1) := by decide +kernel
theorem dX12_moves_182 : decode cX12_moves 182 = .ok (.iconst 1, 1) := by decide +kernel
theorem dX12_moves_183 : decode cX12_moves 183 = .ok (.ireturn, 1) := by decide +kernel
theorem dX12_isIn_0 : decode cX12_isIn 0 = .ok (.aload_n 0, 1) := by decide +kernel
theorem dX12_isIn_1 : decode cX12_isIn 1 = .ok (.getfield 93, 3) := by decide +kernel
theorem dX12_isIn_4 : decode cX12_isIn 4 = .ok (.iload_n 1, 1) := by decide +kernel
theorem dX12_isIn_5 : decode cX12_isIn 5 = .ok (.iaload, 1) := by decide +kernel
theorem dX12_isIn_6 : decode cX12_isIn 6 = .ok (.iload_n 2, 1) := by decide +kernel
theorem dX12_isIn_7 : decode cX12_isIn 7 = .ok (.if_icmp .ne 38, 3) := by decide +kernel
theorem dX12_isIn_10 : decode cX12_isIn 10 = .ok (.iload_n 2, 1) := by decide +kernel
theorem dX12_isIn_11 : decode cX12_isIn 11 = .ok (.invokestatic 166, 3) := by decide +kernel
theorem dX12_isIn_14 : decode cX12_isIn 14 = .ok (.iconst 1, 1) := by decide +kernel
theorem dX12_isIn_15 : decode cX12_isIn 15 = .ok (.if_icmp .eq 26, 3) := by decide +kernel
theorem dX12_isIn_18 : decode cX12_isIn 18 = .ok (.aload_n 0, 1) := by decide +kernel
theorem dX12_isIn_19 : decode cX12_isIn 19 = .ok (.getfield 93, 3) := by decide +kernel
theorem dX12_isIn_22 : decode cX12_isIn 22 = .ok (.iload_n 1, 1) := by decide +kernel
theorem dX12_isIn_23 : decode cX12_isIn 23 = .ok (.iconst 1, 1) := by decide +kernel
theorem dX12_isIn_24 : decode cX12_isIn 24 = .ok (.iadd, 1) := by decide +kernel
theorem dX12_isIn_25 : decode cX12_isIn 25 = .ok (.iaload, 1) := by decide +kernel
theorem dX12_isIn_26 : decode cX12_isIn 26 = .ok (.iload_n 2, 1) := by decide +kernel
theorem dX12_isIn_27 : decode cX12_isIn 27 = .ok (.iconst 1, 1) := by decide +kernel
theorem dX12_isIn_28 : decode cX12_isIn 28 = .ok (.if_icmp .ne 8, 3) := by decide +kernel
theorem dX12_isIn_31 : decode cX12_isIn 31 = .ok (.bipush 6, 2) := by decide +kernel
theorem dX12_isIn_33 : decode cX12_isIn 33 = .ok (.goto 5, 3) := by decide +kernel
theorem dX12_isIn_36 : decode cX12_isIn 36 = .ok (.bipush 7, 2) := by decide +kernel
theorem dX12_isIn_38 : decode cX12_isIn 38 = .ok (.if_icmp .ne 7, 3) := by decide +kernel
theorem dX12_isIn_41 : decode cX12_isIn 41 = .ok (.iconst 1, 1) := by decide +kernel
theorem dX12_isIn_42 : decode cX12_isIn 42 = .ok (.goto 4, 3) := by decide +kernel
theorem dX12_isIn_45 : decode cX12_isIn 45 = .ok (.iconst 0, 1) := by decide +kernel
theorem dX12_isIn_46 : decode cX12_isIn 46 = .ok (.ireturn, 1) := by decide +kernel
theorem dX12_store_0 : decode cX12_store 0 = .ok (.iload_n 1, 1) := by decide +kernel
theorem dX12_store_1 : decode cX12_store 1 = .ok (.iload_n 2, 1) := by decide +kernel
theorem dX12_store_2 : decode cX12_store 2 = .ok (.invokestatic 166, 3) := by decide +kernel
theorem dX12_store_5 : decode cX12_store 5 = .ok (.iadd, 1) := by decide +kernel
theorem dX12_store_6 : decode cX12_store 6 = .ok (.iconst 1, 1) := by decide +kernel
theorem dX12_store_7 : decode cX12_store 7 = .ok (.isub, 1) := by decide +kernel
theorem dX12_store_8 : decode cX12_store 8 = .ok (.istore_n 3, 1) := by decide +kernel
theorem dX12_store_9 : decode cX12_store 9 = .ok (.iload_n 1, 1) := by decide +kernel
theorem dX12_store_10 : decode cX12_store 10 = .ok (.ifCond .le 34, 3) := by decide +kernel
theorem dX12_store_13 : decode cX12_store 13 = .ok (.aload_n 0, 1) := by decide +kernel
theorem dX12_store_14 : decode cX12_store 14 = .ok (.getfield 93, 3) := by decide +kernel
theorem dX12_store_17 : decode cX12_store 17 = .ok (.iload_n 1, 1) := by decide +kernel
theorem dX12_store_18 : decode cX12_store 18 = .ok (.iaload, 1) := by decide +kernel
theorem dX12_store_19 : decode cX12_store 19 = .ok (.bipush 6, 2) := by decide +kernel
theorem dX12_store_21 : decode cX12_store 21 = .ok (.if_icmp .eq 14, 3) := by decide +kernel
theorem dX12_store_24 : decode cX12_store 24 = .ok (.aload_n 0, 1) := by decide +kernel
theorem dX12_store_25 : decode cX12_store 25 = .ok (.getfield 93, 3) := by decide +kernel
theorem dX12_store_28 : decode cX12_store 28 = .ok (.iload_n 1, 1) := by decide +kernel
theorem dX12_store_29 : decode cX12_store 29 = .ok (.iaload, 1) := by decide +kernel
theorem dX12_store_30 : decode cX12_store 30 = .ok (.bipush 7, 2) := by decide +kernel
theorem dX12_store_32 : decode cX12_store 32 = .ok (.if_icmp .ne 12, 3) := by decide +kernel
theorem dX12_store_35 : decode cX12_store 35 = .ok (.aload_n 0, 1) := by decide +kernel
theorem dX12_store_36 : decode cX12_store 36 = .ok (.getfield 93, 3) := by decide +kernel
theorem dX12_store_39 : decode cX12_store 39 = .ok (.iload_n 1, 1) := by decide +kernel
theorem dX12_store_40 : decode cX12_store 40 = .ok (.iconst 1, 1) := by decide +kernel
theorem dX12_store_41 : decode cX12_store 41 = .ok (.isub, 1) := by decide +kernel
theorem dX12_store_42 : decode cX12_store 42 = .ok (.iconst 5, 1) := by decide +kernel
theorem dX12_store_43 : decode cX12_store 43 = .ok (.iastore, 1) := by decide +kernel
theorem dX12_store_44 : decode cX12_store 44 = .ok (.iload_n 3, 1) := by decide +kernel
theorem dX12_store_45 : decode cX12_store 45 = .ok (.bipush 15, 2) := by decide +kernel
theorem dX12_store_47 : decode cX12_store 47 = .ok (.if_icmp .ge 32, 3) := by decide +kernel
theorem dX12_store_50 : decode cX12_store 50 = .ok (.aload_n 0, 1) := by decide +kernel
theorem dX12_store_51 : decode cX12_store 51 = .ok (.getfield 93, 3) := by decide +kernel
theorem dX12_store_54 : decode cX12_store 54 = .ok (.iload_n 3, 1) := by decide +kernel
theorem dX12_store_55 : decode cX12_store 55 = .ok (.iaload, 1) := by decide +kernel
theorem dX12_store_56 : decode cX12_store 56 = .ok (.iconst 1, 1) := by decide +kernel
theorem dX12_store_57 : decode cX12_store 57 = .ok (.if_icmp .eq 13, 3) := by decide +kernel
theorem dX12_store_60 : decode cX12_store 60 = .ok (.aload_n 0, 1) := by decide +kernel
theorem dX12_store_61 : decode cX12_store 61 = .ok (.getfield 93, 3) := by decide +kernel
theorem dX12_store_64 : decode cX12_store 64 = .ok (.iload_n 3, 1) := by decide +kernel
theorem dX12_store_65 : decode cX12_store 65 = .ok (.iaload, 1) := by decide +kernel
theorem dX12_store_66 : decode cX12_store 66 = .ok (.iconst 3, 1) := by decide +kernel
theorem dX12_store_67 : decode cX12_store 67 = .ok (.if_icmp .ne 12, 3) := by decide +kernel
theorem dX12_store_70 : decode cX12_store 70 = .ok (.aload_n 0, 1) := by decide +kernel
theorem dX12_store_71 : decode cX12_store 71 = .ok (.getfield 93, 3) := by decide +kernel
theorem dX12_store_74 : decode cX12_store 74 = .ok (.iload_n 3, 1) := by decide +kernel
theorem dX12_store_75 : decode cX12_store 75 = .ok (.iconst 1, 1) := by decide +kernel
theorem dX12_store_76 : decode cX12_store 76 = .ok (.iadd, 1) := by decide +kernel
theorem dX12_store_77 : decode cX12_store 77 = .ok (.iconst 5, 1) := by decide +kernel
theorem dX12_store_78 : decode cX12_store 78 = .ok (.iastore, 1) := by decide +kernel
theorem dX12_store_79 : decode cX12_store 79 = .ok (.aload_n 0, 1) := by decide +kernel
theorem dX12_store_80 : decode cX12_store 80 = .ok (.getfield 93, 3) := by decide +kernel
theorem dX12_store_83 : decode cX12_store 83 = .ok (.iload_n 1, 1) := by decide +kernel
theorem dX12_store_84 : decode cX12_store 84 = .ok (.iload_n 2, 1) := by decide +kernel
theorem dX12_store_85 : decode cX12_store 85 = .ok (.iastore, 1) := by decide +kernel
theorem dX12_store_86 : decode cX12_store 86 = .ok (.iload_n 3, 1) := by decide +kernel
theorem dX12_store_87 : decode cX12_store 87 = .ok (.iload_n 1, 1) := by decide +kernel
theorem dX12_store_88 : decode cX12_store 88 = .ok (.if_icmp .le 21, 3) := by decide +kernel
theorem dX12_store_91 : decode cX12_store 91 = .ok (.aload_n 0, 1) := by decide +kernel
theorem dX12_store_92 : decode cX12_store 92 = .ok (.getfield 93, 3) := by decide +kernel
theorem dX12_store_95 : decode cX12_store 95 = .ok (.iload_n 3, 1) := by decide +kernel
theorem dX12_store_96 : decode cX12_store 96 = .ok (.iload_n 2, 1) := by decide +kernel
theorem dX12_store_97 : decode cX12_store 97 = .ok (.iconst 1, 1) := by decide +kernel
theorem dX12_store_98 : decode cX12_store 98 = .ok (.if_icmp .ne 8, 3) := by decide +kernel
theorem dX12_store_101 : decode cX12_store 101 = .ok (.bipush 6, 2) := by decide +kernel
theorem dX12_store_103 : decode cX12_store 103 = .ok (.goto 5, 3) := by decide +kernel
theorem dX12_store_106 : decode cX12_store 106 = .ok (.bipush 7, 2) := by decide +kernel
theorem dX12_store_108 : decode cX12_store 108 = .ok (.iastore, 1) := by decide +kernel
theorem dX12_store_109 : decode cX12_store 109 = .ok (.return_, 1) := by decide +kernel
theorem dX12_keep_0 : decode cX12_keep 0 = .ok (.aload_n 0, 1) := by decide +kernel
theorem dX12_keep_1 : decode cX12_keep 1 = .ok (.aload_n 0, 1) := by decide +kernel
theorem dX12_keep_2 : decode cX12_keep 2 = .ok (.getfield 212, 3) := by decide +kernel
theorem dX12_keep_5 : decode cX12_keep 5 = .ok (.putfield 272, 3) := by decide +kernel
theorem dX12_keep_8 : decode cX12_keep 8 = .ok (.iconst 0, 1) := by decide +kernel
theorem dX12_keep_9 : decode cX12_keep 9 = .ok (.istore_n 1, 1) := by decide +kernel
theorem dX12_keep_10 : decode cX12_keep 10 = .ok (.iload_n 1, 1) := by decide +kernel
theorem dX12_keep_11 : decode cX12_keep 11 = .ok (.aload_n 0, 1) := by decide +kernel
theorem dX12_keep_12 : decode cX12_keep 12 = .ok (.getfield 212, 3) := by decide +kernel
theorem dX12_keep_15 : decode cX12_keep 15 = .ok (.if_icmp .ge 21, 3) := by decide +kernel
theorem dX12_keep_18 : decode cX12_keep 18 = .ok (.aload_n 0, 1) := by decide +kernel
theorem dX12_keep_19 : decode cX12_keep 19 = .ok (.getfield 109, 3) := by decide +kernel
theorem dX12_keep_22 : decode cX12_keep 22 = .ok (.iload_n 1, 1) := by decide +kernel
theorem dX12_keep_23 : decode cX12_keep 23 = .ok (.aload_n 0, 1) := by decide +kernel
theorem dX12_keep_24 : decode cX12_keep 24 = .ok (.getfield 90, 3) := by decide +kernel
theorem dX12_keep_27 : decode cX12_keep 27 = .ok (.iload_n 1, 1) := by decide +kernel
theorem dX12_keep_28 : decode cX12_keep 28 = .ok (.iaload, 1) := by decide +kernel
theorem dX12_keep_29 : decode cX12_keep 29 = .ok (.iastore, 1) := by decide +kernel
theorem dX12_keep_30 : decode cX12_keep 30 = .ok (.iinc 1 1, 3) := by decide +kernel
theorem dX12_keep_33 : decode cX12_keep 33 = .ok (.goto (-23), 3) := by decide +kernel
theorem dX12_keep_36 : decode cX12_keep 36 = .ok (.iconst 0, 1) := by decide +kernel
theorem dX12_keep_37 : decode cX12_keep 37 = .ok (.istore_n 1, 1) := by decide +kernel
theorem dX12_keep_38 : decode cX12_keep 38 = .ok (.iload_n 1, 1) := by decide +kernel
theorem dX12_keep_39 : decode cX12_keep 39 = .ok (.bipush 16, 2) := by decide +kernel
theorem dX12_keep_41 : decode cX12_keep 41 = .ok (.if_icmp .ge 21, 3) := by decide +kernel
theorem dX12_keep_44 : decode cX12_keep 44 = .ok (.aload_n 0, 1) := by decide +kernel
theorem dX12_keep_45 : decode cX12_keep 45 = .ok (.getfield 112, 3) := by decide +kernel
theorem dX12_keep_48 : decode cX12_keep 48 = .ok (.iload_n 1, 1) := by decide +kernel
theorem dX12_keep_49 : decode cX12_keep 49 = .ok (.aload_n 0, 1) := by decide +kernel
theorem dX12_keep_50 : decode cX12_keep 50 = .ok (.getfield 93, 3) := by decide +kernel
theorem dX12_keep_53 : decode cX12_keep 53 = .ok (.iload_n 1, 1) := by decide +kernel
theorem dX12_keep_54 : decode cX12_keep 54 = .ok (.iaload, 1) := by decide +kernel
theorem dX12_keep_55 : decode cX12_keep 55 = .ok (.iastore, 1) := by decide +kernel
theorem dX12_keep_56 : decode cX12_keep 56 = .ok (.iinc 1 1, 3) := by decide +kernel
theorem dX12_keep_59 : decode cX12_keep 59 = .ok (.goto (-21), 3) := by decide +kernel
theorem dX12_keep_62 : decode cX12_keep 62 = .ok (.return_, 1) := by decide +kernel
theorem dX12_goOn_0 : decode cX12_goOn 0 = .ok (.aload_n 0, 1) := by decide +kernel
theorem dX12_goOn_1 : decode cX12_goOn 1 = .ok (.aload_n 0, 1) := by decide +kernel
theorem dX12_goOn_2 : decode cX12_goOn 2 = .ok (.getfield 272, 3) := by decide +kernel
theorem dX12_goOn_5 : decode cX12_goOn 5 = .ok (.putfield 212, 3) := by decide +kernel
theorem dX12_goOn_8 : decode cX12_goOn 8 = .ok (.iconst 0, 1) := by decide +kernel
theorem dX12_goOn_9 : decode cX12_goOn 9 = .ok (.istore_n 3, 1) := by decide +kernel
theorem dX12_goOn_10 : decode cX12_goOn 10 = .ok (.iload_n 3, 1) := by decide +kernel
theorem dX12_goOn_11 : decode cX12_goOn 11 = .ok (.aload_n 0, 1) := by decide +kernel
theorem dX12_goOn_12 : decode cX12_goOn 12 = .ok (.getfield 212, 3) := by decide +kernel
theorem dX12_goOn_15 : decode cX12_goOn 15 = .ok (.if_icmp .ge 21, 3) := by decide +kernel
theorem dX12_goOn_18 : decode cX12_goOn 18 = .ok (.aload_n 0, 1) := by decide +kernel
theorem dX12_goOn_19 : decode cX12_goOn 19 = .ok (.getfield 90, 3) := by decide +kernel
theorem dX12_goOn_22 : decode cX12_goOn 22 = .ok (.iload_n 3, 1) := by decide +kernel
theorem dX12_goOn_23 : decode cX12_goOn 23 = .ok (.aload_n 0, 1) := by decide +kernel
theorem dX12_goOn_24 : decode cX12_goOn 24 = .ok (.getfield 109, 3) := by decide +kernel
theorem dX12_goOn_27 : decode cX12_goOn 27 = .ok (.iload_n 3, 1) := by decide +kernel
theorem dX12_goOn_28 : decode cX12_goOn 28 = .ok (.iaload, 1) := by decide +kernel
theorem dX12_goOn_29 : decode cX12_goOn 29 = .ok (.iastore, 1) := by decide +kernel
theorem dX12_goOn_30 : decode cX12_goOn 30 = .ok (.iinc 3 1, 3) := by decide +kernel
theorem dX12_goOn_33 : decode cX12_goOn 33 = .ok (.goto (-23), 3) := by decide +kernel
theorem dX12_goOn_36 : decode cX12_goOn 36 = .ok (.iconst 0, 1) := by decide +kernel
theorem dX12_goOn_37 : decode cX12_goOn 37 = .ok (.istore_n 3, 1) := by decide +kernel
theorem dX12_goOn_38 : decode cX12_goOn 38 = .ok (.iload_n 3, 1) := by decide +kernel
theorem dX12_goOn_39 : decode cX12_goOn 39 = .ok (.bipush 16, 2) := by decide +kernel
theorem dX12_goOn_41 : decode cX12_goOn 41 = .ok (.if_icmp .ge 21, 3) := by decide +kernel
theorem dX12_goOn_44 : decode cX12_goOn 44 = .ok (.aload_n 0, 1) := by decide +kernel
theorem dX12_goOn_45 : decode cX12_goOn 45 = .ok (.getfield 93, 3) := by decide +kernel
theorem dX12_goOn_48 : decode cX12_goOn 48 = .ok (.iload_n 3, 1) := by decide +kernel
theorem dX12_goOn_49 : decode cX12_goOn 49 = .ok (.aload_n 0, 1) := by decide +kernel
theorem dX12_goOn_50 : decode cX12_goOn 50 = .ok (.getfield 112, 3) := by decide +kernel
theorem dX12_goOn_53 : decode cX12_goOn 53 = .ok (.iload_n 3, 1) := by decide +kernel
theorem dX12_goOn_54 : decode cX12_goOn 54 = .ok (.iaload, 1) := by decide +kernel
theorem dX12_goOn_55 : decode cX12_goOn 55 = .ok (.iastore, 1) := by decide +kernel
theorem dX12_goOn_56 : decode cX12_goOn 56 = .ok (.iinc 3 1, 3) := by decide +kernel
theorem dX12_goOn_59 : decode cX12_goOn 59 = .ok (.goto (-21), 3) := by decide +kernel
theorem dX12_goOn_62 : decode cX12_goOn 62 = .ok (.aload_n 0, 1) := by decide +kernel
theorem dX12_goOn_63 : decode cX12_goOn 63 = .ok (.iload_n 1, 1) := by decide +kernel
theorem dX12_goOn_64 : decode cX12_goOn 64 = .ok (.iload_n 2, 1) := by decide +kernel
theorem dX12_goOn_65 : decode cX12_goOn 65 = .ok (.invokevirtual 236, 3) := by decide +kernel
theorem dX12_goOn_68 : decode cX12_goOn 68 = .ok (.ifCond .ne 7, 3) := by decide +kernel
theorem dX12_goOn_71 : decode cX12_goOn 71 = .ok (.iconst 0, 1) := by decide +kernel
theorem dX12_goOn_72 : decode cX12_goOn 72 = .ok (.goto 11, 3) := by decide +kernel
theorem dX12_goOn_75 : decode cX12_goOn 75 = .ok (.aload_n 0, 1) := by decide +kernel
theorem dX12_goOn_76 : decode cX12_goOn 76 = .ok (.iload_n 1, 1) := by decide +kernel
theorem dX12_goOn_77 : decode cX12_goOn 77 = .ok (.iload_n 2, 1) := by decide +kernel
theorem dX12_goOn_78 : decode cX12_goOn 78 = .ok (.bipush 6, 2) := by decide +kernel
theorem dX12_goOn_80 : decode cX12_goOn 80 = .ok (.invokevirtual 228, 3) := by decide +kernel
theorem dX12_goOn_83 : decode cX12_goOn 83 = .ok (.ireturn, 1) := by decide +kernel
