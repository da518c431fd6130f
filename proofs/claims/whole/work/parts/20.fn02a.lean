theorem dX1_operandsAreSuch_0 : decode cX1_operandsAreSuch 0 = .ok (.iload_n 1, 1) := by decide +kernel
theorem dX1_operandsAreSuch_1 : decode cX1_operandsAreSuch 1 = .ok (.tableswitch 327 1 35 #[155, 327, 155, 327, 167, 167, 195, 327, 327, 327, 327, 327, 327, 327, 327, 327, 202, 226, 232, 327, 238, 245, 251, 263, 289, 289, 327, 296, 296, 301, 327, 327, 327, 308, 315], 155) := by decide +kernel
theorem dX1_operandsAreSuch_156 : decode cX1_operandsAreSuch 156 = .ok (.iload_n 2, 1) := by decide +kernel
theorem dX1_operandsAreSuch_157 : decode cX1_operandsAreSuch 157 = .ok (.aload_n 0, 1) := by decide +kernel
theorem dX1_operandsAreSuch_158 : decode cX1_operandsAreSuch 158 = .ok (.getfield 31, 3) := by decide +kernel
theorem dX1_operandsAreSuch_161 : decode cX1_operandsAreSuch 161 = .ok (.getfield 154, 3) := by decide +kernel
theorem dX1_operandsAreSuch_164 : decode cX1_operandsAreSuch 164 = .ok (.invokestatic 159, 3) := by decide +kernel
theorem dX1_operandsAreSuch_167 : decode cX1_operandsAreSuch 167 = .ok (.ireturn, 1) := by decide +kernel
theorem dX1_operandsAreSuch_168 : decode cX1_operandsAreSuch 168 = .ok (.iload_n 3, 1) := by decide +kernel
theorem dX1_operandsAreSuch_169 : decode cX1_operandsAreSuch 169 = .ok (.iconst 5, 1) := by decide +kernel
theorem dX1_operandsAreSuch_170 : decode cX1_operandsAreSuch 170 = .ok (.invokestatic 159, 3) := by decide +kernel
theorem dX1_operandsAreSuch_173 : decode cX1_operandsAreSuch 173 = .ok (.ifCond .eq 21, 3) := by decide +kernel
theorem dX1_operandsAreSuch_176 : decode cX1_operandsAreSuch 176 = .ok (.iload_n 2, 1) := by decide +kernel
theorem dX1_operandsAreSuch_177 : decode cX1_operandsAreSuch 177 = .ok (.bipush 17, 2) := by decide +kernel
theorem dX1_operandsAreSuch_179 : decode cX1_operandsAreSuch 179 = .ok (.iload_n 3, 1) := by decide +kernel
theorem dX1_operandsAreSuch_180 : decode cX1_operandsAreSuch 180 = .ok (.invokestatic 102, 3) := by decide +kernel
theorem dX1_operandsAreSuch_183 : decode cX1_operandsAreSuch 183 = .ok (.isub, 1) := by decide +kernel
theorem dX1_operandsAreSuch_184 : decode cX1_operandsAreSuch 184 = .ok (.invokestatic 159, 3) := by decide +kernel
theorem dX1_operandsAreSuch_187 : decode cX1_operandsAreSuch 187 = .ok (.ifCond .eq 7, 3) := by decide +kernel
theorem dX1_operandsAreSuch_190 : decode cX1_operandsAreSuch 190 = .ok (.iconst 1, 1) := by decide +kernel
theorem dX1_operandsAreSuch_191 : decode cX1_operandsAreSuch 191 = .ok (.goto 4, 3) := by decide +kernel
theorem dX1_operandsAreSuch_194 : decode cX1_operandsAreSuch 194 = .ok (.iconst 0, 1) := by decide +kernel
theorem dX1_operandsAreSuch_195 : decode cX1_operandsAreSuch 195 = .ok (.ireturn, 1) := by decide +kernel
theorem dX1_operandsAreSuch_196 : decode cX1_operandsAreSuch 196 = .ok (.iload_n 2, 1) := by decide +kernel
theorem dX1_operandsAreSuch_197 : decode cX1_operandsAreSuch 197 = .ok (.bipush 16, 2) := by decide +kernel
theorem dX1_operandsAreSuch_199 : decode cX1_operandsAreSuch 199 = .ok (.invokestatic 159, 3) := by decide +kernel
theorem dX1_operandsAreSuch_202 : decode cX1_operandsAreSuch 202 = .ok (.ireturn, 1) := by decide +kernel
theorem dX1_operandsAreSuch_203 : decode cX1_operandsAreSuch 203 = .ok (.iload_n 2, 1) := by decide +kernel
theorem dX1_operandsAreSuch_204 : decode cX1_operandsAreSuch 204 = .ok (.bipush 12, 2) := by decide +kernel
theorem dX1_operandsAreSuch_206 : decode cX1_operandsAreSuch 206 = .ok (.invokestatic 159, 3) := by decide +kernel
theorem dX1_operandsAreSuch_209 : decode cX1_operandsAreSuch 209 = .ok (.ifCond .eq 16, 3) := by decide +kernel
theorem dX1_operandsAreSuch_212 : decode cX1_operandsAreSuch 212 = .ok (.iload_n 3, 1) := by decide +kernel
theorem dX1_operandsAreSuch_213 : decode cX1_operandsAreSuch 213 = .ok (.ifCond .eq 8, 3) := by decide +kernel
theorem dX1_operandsAreSuch_216 : decode cX1_operandsAreSuch 216 = .ok (.iload_n 3, 1) := by decide +kernel
theorem dX1_operandsAreSuch_217 : decode cX1_operandsAreSuch 217 = .ok (.iconst 1, 1) := by decide +kernel
theorem dX1_operandsAreSuch_218 : decode cX1_operandsAreSuch 218 = .ok (.if_icmp .ne 7, 3) := by decide +kernel
theorem dX1_operandsAreSuch_221 : decode cX1_operandsAreSuch 221 = .ok (.iconst 1, 1) := by decide +kernel
theorem dX1_operandsAreSuch_222 : decode cX1_operandsAreSuch 222 = .ok (.goto 4, 3) := by decide +kernel
theorem dX1_operandsAreSuch_225 : decode cX1_operandsAreSuch 225 = .ok (.iconst 0, 1) := by decide +kernel
theorem dX1_operandsAreSuch_226 : decode cX1_operandsAreSuch 226 = .ok (.ireturn, 1) := by decide +kernel
theorem dX1_operandsAreSuch_227 : decode cX1_operandsAreSuch 227 = .ok (.iload_n 2, 1) := by decide +kernel
theorem dX1_operandsAreSuch_228 : decode cX1_operandsAreSuch 228 = .ok (.iconst 5, 1) := by decide +kernel
theorem dX1_operandsAreSuch_229 : decode cX1_operandsAreSuch 229 = .ok (.invokestatic 159, 3) := by decide +kernel
theorem dX1_operandsAreSuch_232 : decode cX1_operandsAreSuch 232 = .ok (.ireturn, 1) := by decide +kernel
theorem dX1_operandsAreSuch_233 : decode cX1_operandsAreSuch 233 = .ok (.iload_n 2, 1) := by decide +kernel
theorem dX1_operandsAreSuch_234 : decode cX1_operandsAreSuch 234 = .ok (.iconst 5, 1) := by decide +kernel
theorem dX1_operandsAreSuch_235 : decode cX1_operandsAreSuch 235 = .ok (.invokestatic 159, 3) := by decide +kernel
theorem dX1_operandsAreSuch_238 : decode cX1_operandsAreSuch 238 = .ok (.ireturn, 1) := by decide +kernel
theorem dX1_operandsAreSuch_239 : decode cX1_operandsAreSuch 239 = .ok (.iload_n 3, 1) := by decide +kernel
theorem dX1_operandsAreSuch_240 : decode cX1_operandsAreSuch 240 = .ok (.bipush 6, 2) := by decide +kernel
theorem dX1_operandsAreSuch_242 : decode cX1_operandsAreSuch 242 = .ok (.invokestatic 159, 3) := by decide +kernel
theorem dX1_operandsAreSuch_245 : decode cX1_operandsAreSuch 245 = .ok (.ireturn, 1) := by decide +kernel
theorem dX1_operandsAreSuch_246 : decode cX1_operandsAreSuch 246 = .ok (.iload_n 3, 1) := by decide +kernel
theorem dX1_operandsAreSuch_247 : decode cX1_operandsAreSuch 247 = .ok (.iconst 2, 1) := by decide +kernel
theorem dX1_operandsAreSuch_248 : decode cX1_operandsAreSuch 248 = .ok (.invokestatic 159, 3) := by decide +kernel
theorem dX1_operandsAreSuch_251 : decode cX1_operandsAreSuch 251 = .ok (.ireturn, 1) := by decide +kernel
theorem dX1_operandsAreSuch_252 : decode cX1_operandsAreSuch 252 = .ok (.iload_n 2, 1) := by decide +kernel
theorem dX1_operandsAreSuch_253 : decode cX1_operandsAreSuch 253 = .ok (.aload_n 0, 1) := by decide +kernel
theorem dX1_operandsAreSuch_254 : decode cX1_operandsAreSuch 254 = .ok (.getfield 31, 3) := by decide +kernel
theorem dX1_operandsAreSuch_257 : decode cX1_operandsAreSuch 257 = .ok (.getfield 162, 3) := by decide +kernel
theorem dX1_operandsAreSuch_260 : decode cX1_operandsAreSuch 260 = .ok (.invokestatic 159, 3) := by decide +kernel
theorem dX1_operandsAreSuch_263 : decode cX1_operandsAreSuch 263 = .ok (.ireturn, 1) := by decide +kernel
theorem dX1_operandsAreSuch_264 : decode cX1_operandsAreSuch 264 = .ok (.iload_n 2, 1) := by decide +kernel
theorem dX1_operandsAreSuch_265 : decode cX1_operandsAreSuch 265 = .ok (.invokestatic 165, 3) := by decide +kernel
theorem dX1_operandsAreSuch_268 : decode cX1_operandsAreSuch 268 = .ok (.ifCond .eq 20, 3) := by decide +kernel
theorem dX1_operandsAreSuch_271 : decode cX1_operandsAreSuch 271 = .ok (.iload_n 3, 1) := by decide +kernel
theorem dX1_operandsAreSuch_272 : decode cX1_operandsAreSuch 272 = .ok (.iconst 1, 1) := by decide +kernel
theorem dX1_operandsAreSuch_273 : decode cX1_operandsAreSuch 273 = .ok (.if_icmp .lt 15, 3) := by decide +kernel
theorem dX1_operandsAreSuch_276 : decode cX1_operandsAreSuch 276 = .ok (.iload_n 3, 1) := by decide +kernel
theorem dX1_operandsAreSuch_277 : decode cX1_operandsAreSuch 277 = .ok (.iload_n 2, 1) := by decide +kernel
theorem dX1_operandsAreSuch_278 : decode cX1_operandsAreSuch 278 = .ok (.bipush 8, 2) := by decide +kernel
theorem dX1_operandsAreSuch_280 : decode cX1_operandsAreSuch 280 = .ok (.idiv, 1) := by decide +kernel
theorem dX1_operandsAreSuch_281 : decode cX1_operandsAreSuch 281 = .ok (.if_icmp .gt 7, 3) := by decide +kernel
theorem dX1_operandsAreSuch_284 : decode cX1_operandsAreSuch 284 = .ok (.iconst 1, 1) := by decide +kernel
theorem dX1_operandsAreSuch_285 : decode cX1_operandsAreSuch 285 = .ok (.goto 4, 3) := by decide +kernel
theorem dX1_operandsAreSuch_288 : decode cX1_operandsAreSuch 288 = .ok (.iconst 0, 1) := by decide +kernel
theorem dX1_operandsAreSuch_289 : decode cX1_operandsAreSuch 289 = .ok (.ireturn, 1) := by decide +kernel
theorem dX1_operandsAreSuch_290 : decode cX1_operandsAreSuch 290 = .ok (.iload_n 3, 1) := by decide +kernel
theorem dX1_operandsAreSuch_291 : decode cX1_operandsAreSuch 291 = .ok (.bipush 8, 2) := by decide +kernel
theorem dX1_operandsAreSuch_293 : decode cX1_operandsAreSuch 293 = .ok (.invokestatic 159, 3) := by decide +kernel
theorem dX1_operandsAreSuch_296 : decode cX1_operandsAreSuch 296 = .ok (.ireturn, 1) := by decide +kernel
theorem dX1_operandsAreSuch_297 : decode cX1_operandsAreSuch 297 = .ok (.iload_n 2, 1) := by decide +kernel
theorem dX1_operandsAreSuch_298 : decode cX1_operandsAreSuch 298 = .ok (.invokestatic 165, 3) := by decide +kernel
theorem dX1_operandsAreSuch_301 : decode cX1_operandsAreSuch 301 = .ok (.ireturn, 1) := by decide +kernel
theorem dX1_operandsAreSuch_302 : decode cX1_operandsAreSuch 302 = .ok (.iload_n 2, 1) := by decide +kernel
theorem dX1_operandsAreSuch_303 : decode cX1_operandsAreSuch 303 = .ok (.bipush 16, 2) := by decide +kernel
theorem dX1_operandsAreSuch_305 : decode cX1_operandsAreSuch 305 = .ok (.invokestatic 159, 3) := by decide +kernel
theorem dX1_operandsAreSuch_308 : decode cX1_operandsAreSuch 308 = .ok (.ireturn, 1) := by decide +kernel
theorem dX1_operandsAreSuch_309 : decode cX1_operandsAreSuch 309 = .ok (.iload_n 2, 1) := by decide +kernel
theorem dX1_operandsAreSuch_310 : decode cX1_operandsAreSuch 310 = .ok (.bipush 6, 2) := by decide +kernel
theorem dX1_operandsAreSuch_312 : decode cX1_operandsAreSuch 312 = .ok (.invokestatic 159, 3) := by decide +kernel
theorem dX1_operandsAreSuch_315 : decode cX1_operandsAreSuch 315 = .ok (.ireturn, 1) := by decide +kernel
theorem dX1_operandsAreSuch_316 : decode cX1_operandsAreSuch 316 = .ok (.iload_n 2, 1) := by decide +kernel
theorem dX1_operandsAreSuch_317 : decode cX1_operandsAreSuch 317 = .ok (.aload_n 0, 1) := by decide +kernel
theorem dX1_operandsAreSuch_318 : decode cX1_operandsAreSuch 318 = .ok (.getfield 31, 3) := by decide +kernel
theorem dX1_operandsAreSuch_321 : decode cX1_operandsAreSuch 321 = .ok (.getfield 168, 3) := by decide +kernel
theorem dX1_operandsAreSuch_324 : decode cX1_operandsAreSuch 324 = .ok (.invokestatic 159, 3) := by decide +kernel
theorem dX1_operandsAreSuch_327 : decode cX1_operandsAreSuch 327 = .ok (.ireturn, 1) := by decide +kernel
theorem dX1_operandsAreSuch_328 : decode cX1_operandsAreSuch 328 = .ok (.iconst 1, 1) := by decide +kernel
theorem dX1_operandsAreSuch_329 : decode cX1_operandsAreSuch 329 = .ok (.ireturn, 1) := by decide +kernel
theorem dX4_findTable_0 : decode cX4_findTable 0 = .ok (.iload_n 1, 1) := by decide +kernel
theorem dX4_findTable_1 : decode cX4_findTable 1 = .ok (.aload_n 0, 1) := by decide +kernel
theorem dX4_findTable_2 : decode cX4_findTable 2 = .ok (.getfield 34, 3) := by decide +kernel
theorem dX4_findTable_5 : decode cX4_findTable 5 = .ok (.invokestatic 37, 3) := by decide +kernel
theorem dX4_findTable_8 : decode cX4_findTable 8 = .ok (.ifCond .eq 12, 3) := by decide +kernel
theorem dX4_findTable_11 : decode cX4_findTable 11 = .ok (.aload_n 0, 1) := by decide +kernel
theorem dX4_findTable_12 : decode cX4_findTable 12 = .ok (.getfield 30, 3) := by decide +kernel
theorem dX4_findTable_15 : decode cX4_findTable 15 = .ok (.iload_n 1, 1) := by decide +kernel
theorem dX4_findTable_16 : decode cX4_findTable 16 = .ok (.aaload, 1) := by decide +kernel
theorem dX4_findTable_17 : decode cX4_findTable 17 = .ok (.goto 4, 3) := by decide +kernel
theorem dX4_findTable_20 : decode cX4_findTable 20 = .ok (.aconst_null, 1) := by decide +kernel
theorem dX4_findTable_21 : decode cX4_findTable 21 = .ok (.areturn, 1) := by decide +kernel
theorem dX7_staysBelow_0 : decode cX7_staysBelow 0 = .ok (.iconst 0, 1) := by decide +kernel
theorem dX7_staysBelow_1 : decode cX7_staysBelow 1 = .ok (.istore_n 2, 1) := by decide +kernel
theorem dX7_staysBelow_2 : decode cX7_staysBelow 2 = .ok (.iload_n 2, 1) := by decide +kernel
theorem dX7_staysBelow_3 : decode cX7_staysBelow 3 = .ok (.aload_n 0, 1) := by decide +kernel
theorem dX7_staysBelow_4 : decode cX7_staysBelow 4 = .ok (.getfield 18, 3) := by decide +kernel
theorem dX7_staysBelow_7 : decode cX7_staysBelow 7 = .ok (.if_icmp .ge 21, 3) := by decide +kernel
theorem dX7_staysBelow_10 : decode cX7_staysBelow 10 = .ok (.aload_n 0, 1) := by decide +kernel
theorem dX7_staysBelow_11 : decode cX7_staysBelow 11 = .ok (.getfield 15, 3) := by decide +kernel
theorem dX7_staysBelow_14 : decode cX7_staysBelow 14 = .ok (.iload_n 2, 1) := by decide +kernel
theorem dX7_staysBelow_15 : decode cX7_staysBelow 15 = .ok (.iaload, 1) := by decide +kernel
theorem dX7_staysBelow_16 : decode cX7_staysBelow 16 = .ok (.iload_n 1, 1) := by decide +kernel
theorem dX7_staysBelow_17 : decode cX7_staysBelow 17 = .ok (.if_icmp .lt 5, 3) := by decide +kernel
theorem dX7_staysBelow_20 : decode cX7_staysBelow 20 = .ok (.iconst 0, 1) := by decide +kernel
theorem dX7_staysBelow_21 : decode cX7_staysBelow 21 = .ok (.ireturn, 1) := by decide +kernel
theorem dX7_staysBelow_22 : decode cX7_staysBelow 22 = .ok (.iinc 2 1, 3) := by decide +kernel
theorem dX7_staysBelow_25 : decode cX7_staysBelow 25 = .ok (.goto (-23), 3) := by decide +kernel
theorem dX7_staysBelow_28 : decode cX7_staysBelow 28 = .ok (.aload_n 0, 1) := by decide +kernel
theorem dX7_staysBelow_29 : decode cX7_staysBelow 29 = .ok (.getfield 29, 3) := by decide +kernel
theorem dX7_staysBelow_32 : decode cX7_staysBelow 32 = .ok (.iload_n 1, 1) := by decide +kernel
theorem dX7_staysBelow_33 : decode cX7_staysBelow 33 = .ok (.if_icmp .ge 7, 3) := by decide +kernel
theorem dX7_staysBelow_36 : decode cX7_staysBelow 36 = .ok (.iconst 1, 1) := by decide +kernel
theorem dX7_staysBelow_37 : decode cX7_staysBelow 37 = .ok (.goto 4, 3) := by decide +kernel
theorem dX7_staysBelow_40 : decode cX7_staysBelow 40 = .ok (.iconst 0, 1) := by decide +kernel
theorem dX7_staysBelow_41 : decode cX7_staysBelow 41 = .ok (.ireturn, 1) := by decide +kernel
theorem dX2_covers_0 : decode cX2_covers 0 = .ok (.aload_n 0, 1) := by decide +kernel
theorem dX2_covers_1 : decode cX2_covers 1 = .ok (.getfield 34, 3) := by decide +kernel
theorem dX2_covers_4 : decode cX2_covers 4 = .ok (.iload_n 1, 1) := by decide +kernel
theorem dX2_covers_5 : decode cX2_covers 5 = .ok (.iaload, 1) := by decide +kernel
theorem dX2_covers_6 : decode cX2_covers 6 = .ok (.iload_n 2, 1) := by decide +kernel
theorem dX2_covers_7 : decode cX2_covers 7 = .ok (.if_icmp .gt 17, 3) := by decide +kernel
theorem dX2_covers_10 : decode cX2_covers 10 = .ok (.iload_n 2, 1) := by decide +kernel
theorem dX2_covers_11 : decode cX2_covers 11 = .ok (.aload_n 0, 1) := by decide +kernel
theorem dX2_covers_12 : decode cX2_covers 12 = .ok (.getfield 37, 3) := by decide +kernel
theorem dX2_covers_15 : decode cX2_covers 15 = .ok (.iload_n 1, 1) := by decide +kernel
theorem dX2_covers_16 : decode cX2_covers 16 = .ok (.iaload, 1) := by decide +kernel
theorem dX2_covers_17 : decode cX2_covers 17 = .ok (.if_icmp .ge 7, 3) := by decide +kernel
theorem dX2_covers_20 : decode cX2_covers 20 = .ok (.iconst 1, 1) := by decide +kernel
theorem dX2_covers_21 : decode cX2_covers 21 = .ok (.goto 4, 3) := by decide +kernel
theorem dX2_covers_24 : decode cX2_covers 24 = .ok (.iconst 0, 1) := by decide +kernel
theorem dX2_covers_25 : decode cX2_covers 25 = .ok (.ireturn, 1) := by decide +kernel
theorem dX1_targetsAreThere_0 : decode cX1_targetsAreThere 0 = .ok (.aload_n 1, 1) := by decide +kernel
theorem dX1_targetsAreThere_1 : decode cX1_targetsAreThere 1 = .ok (.getfield 113, 3) := by decide +kernel
theorem dX1_targetsAreThere_4 : decode cX1_targetsAreThere 4 = .ok (.iload_n 2, 1) := by decide +kernel
theorem dX1_targetsAreThere_5 : decode cX1_targetsAreThere 5 = .ok (.iaload, 1) := by decide +kernel
theorem dX1_targetsAreThere_6 : decode cX1_targetsAreThere 6 = .ok (.istore_n 3, 1) := by decide +kernel
theorem dX1_targetsAreThere_7 : decode cX1_targetsAreThere 7 = .ok (.aload_n 1, 1) := by decide +kernel
theorem dX1_targetsAreThere_8 : decode cX1_targetsAreThere 8 = .ok (.getfield 116, 3) := by decide +kernel
theorem dX1_targetsAreThere_11 : decode cX1_targetsAreThere 11 = .ok (.iload_n 2, 1) := by decide +kernel
theorem dX1_targetsAreThere_12 : decode cX1_targetsAreThere 12 = .ok (.iaload, 1) := by decide +kernel
theorem dX1_targetsAreThere_13 : decode cX1_targetsAreThere 13 = .ok (.istore 4, 2) := by decide +kernel
theorem dX1_targetsAreThere_15 : decode cX1_targetsAreThere 15 = .ok (.iload_n 3, 1) := by decide +kernel
theorem dX1_targetsAreThere_16 : decode cX1_targetsAreThere 16 = .ok (.bipush 20, 2) := by decide +kernel
theorem dX1_targetsAreThere_18 : decode cX1_targetsAreThere 18 = .ok (.if_icmp .eq 15, 3) := by decide +kernel
theorem dX1_targetsAreThere_21 : decode cX1_targetsAreThere 21 = .ok (.iload_n 3, 1) := by decide +kernel
theorem dX1_targetsAreThere_22 : decode cX1_targetsAreThere 22 = .ok (.bipush 21, 2) := by decide +kernel
theorem dX1_targetsAreThere_24 : decode cX1_targetsAreThere 24 = .ok (.if_icmp .eq 9, 3) := by decide +kernel
theorem dX1_targetsAreThere_27 : decode cX1_targetsAreThere 27 = .ok (.iload_n 3, 1) := by decide +kernel
theorem dX1_targetsAreThere_28 : decode cX1_targetsAreThere 28 = .ok (.bipush 22, 2) := by decide +kernel
theorem dX1_targetsAreThere_30 : decode cX1_targetsAreThere 30 = .ok (.if_icmp .ne 17, 3) := by decide +kernel
theorem dX1_targetsAreThere_33 : decode cX1_targetsAreThere 33 = .ok (.iload 4, 2) := by decide +kernel
theorem dX1_targetsAreThere_35 : decode cX1_targetsAreThere 35 = .ok (.aload_n 1, 1) := by decide +kernel
theorem dX1_targetsAreThere_36 : decode cX1_targetsAreThere 36 = .ok (.getfield 45, 3) := by decide +kernel
theorem dX1_targetsAreThere_39 : decode cX1_targetsAreThere 39 = .ok (.invokestatic 159, 3) := by decide +kernel
theorem dX1_targetsAreThere_42 : decode cX1_targetsAreThere 42 = .ok (.ifCond .ne 5, 3) := by decide +kernel
theorem dX1_targetsAreThere_45 : decode cX1_targetsAreThere 45 = .ok (.iconst 0, 1) := by decide +kernel
theorem dX1_targetsAreThere_46 : decode cX1_targetsAreThere 46 = .ok (.ireturn, 1) := by decide +kernel
theorem dX1_targetsAreThere_47 : decode cX1_targetsAreThere 47 = .ok (.iload_n 3, 1) := by decide +kernel
theorem dX1_targetsAreThere_48 : decode cX1_targetsAreThere 48 = .ok (.bipush 23, 2) := by decide +kernel
theorem dX1_targetsAreThere_50 : decode cX1_targetsAreThere 50 = .ok (.if_icmp .ne 33, 3) := by decide +kernel
theorem dX1_targetsAreThere_53 : decode cX1_targetsAreThere 53 = .ok (.aload_n 0, 1) := by decide +kernel
theorem dX1_targetsAreThere_54 : decode cX1_targetsAreThere 54 = .ok (.getfield 31, 3) := by decide +kernel
theorem dX1_targetsAreThere_57 : decode cX1_targetsAreThere 57 = .ok (.iload 4, 2) := by decide +kernel
theorem dX1_targetsAreThere_59 : decode cX1_targetsAreThere 59 = .ok (.invokevirtual 171, 3) := by decide +kernel
theorem dX1_targetsAreThere_62 : decode cX1_targetsAreThere 62 = .ok (.astore 5, 2) := by decide +kernel
theorem dX1_targetsAreThere_64 : decode cX1_targetsAreThere 64 = .ok (.aload 5, 2) := by decide +kernel
theorem dX1_targetsAreThere_66 : decode cX1_targetsAreThere 66 = .ok (.ifnull 15, 3) := by decide +kernel
theorem dX1_targetsAreThere_69 : decode cX1_targetsAreThere 69 = .ok (.aload 5, 2) := by decide +kernel
theorem dX1_targetsAreThere_71 : decode cX1_targetsAreThere 71 = .ok (.aload_n 1, 1) := by decide +kernel
theorem dX1_targetsAreThere_72 : decode cX1_targetsAreThere 72 = .ok (.getfield 45, 3) := by decide +kernel
theorem dX1_targetsAreThere_75 : decode cX1_targetsAreThere 75 = .ok (.invokevirtual 175, 3) := by decide +kernel
theorem dX1_targetsAreThere_78 : decode cX1_targetsAreThere 78 = .ok (.ifCond .ne 5, 3) := by decide +kernel
theorem dX1_targetsAreThere_81 : decode cX1_targetsAreThere 81 = .ok (.iconst 0, 1) := by decide +kernel
theorem dX1_targetsAreThere_82 : decode cX1_targetsAreThere 82 = .ok (.ireturn, 1) := by decide +kernel
theorem dX1_targetsAreThere_83 : decode cX1_targetsAreThere 83 = .ok (.iconst 0, 1) := by decide +kernel
theorem dX1_targetsAreThere_84 : decode cX1_targetsAreThere 84 = .ok (.istore 5, 2) := by decide +kernel
theorem dX1_targetsAreThere_86 : decode cX1_targetsAreThere 86 = .ok (.iload 5, 2) := by decide +kernel
theorem dX1_targetsAreThere_88 : decode cX1_targetsAreThere 88 = .ok (.aload_n 1, 1) := by decide +kernel
theorem dX1_targetsAreThere_89 : decode cX1_targetsAreThere 89 = .ok (.getfield 180, 3) := by decide +kernel
theorem dX1_targetsAreThere_92 : decode cX1_targetsAreThere 92 = .ok (.if_icmp .ge 35, 3) := by decide +kernel
theorem dX1_targetsAreThere_95 : decode cX1_targetsAreThere 95 = .ok (.aload_n 1, 1) := by decide +kernel
theorem dX1_targetsAreThere_96 : decode cX1_targetsAreThere 96 = .ok (.iload 5, 2) := by decide +kernel
theorem dX1_targetsAreThere_98 : decode cX1_targetsAreThere 98 = .ok (.iload_n 2, 1) := by decide +kernel
theorem dX1_targetsAreThere_99 : decode cX1_targetsAreThere 99 = .ok (.invokevirtual 183, 3) := by decide +kernel
theorem dX1_targetsAreThere_102 : decode cX1_targetsAreThere 102 = .ok (.ifCond .eq 19, 3) := by decide +kernel
theorem dX1_targetsAreThere_105 : decode cX1_targetsAreThere 105 = .ok (.aload_n 1, 1) := by decide +kernel
theorem dX1_targetsAreThere_106 : decode cX1_targetsAreThere 106 = .ok (.getfield 186, 3) := by decide +kernel
theorem dX1_targetsAreThere_109 : decode cX1_targetsAreThere 109 = .ok (.iload 5, 2) := by decide +kernel
theorem dX1_targetsAreThere_111 : decode cX1_targetsAreThere 111 = .ok (.iaload, 1) := by decide +kernel
theorem dX1_targetsAreThere_112 : decode cX1_targetsAreThere 112 = .ok (.aload_n 1, 1) := by decide +kernel
theorem dX1_targetsAreThere_113 : decode cX1_targetsAreThere 113 = .ok (.getfield 45, 3) := by decide +kernel
theorem dX1_targetsAreThere_116 : decode cX1_targetsAreThere 116 = .ok (.if_icmp .lt 5, 3) := by decide +kernel
theorem dX1_targetsAreThere_119 : decode cX1_targetsAreThere 119 = .ok (.iconst 0, 1) := by decide +kernel
theorem dX1_targetsAreThere_120 : decode cX1_targetsAreThere 120 = .ok (.ireturn, 1) := by decide +kernel
theorem dX1_targetsAreThere_121 : decode cX1_targetsAreThere 121 = .ok (.iinc 5 1, 3) := by decide +kernel
theorem dX1_targetsAreThere_124 : decode cX1_targetsAreThere 124 = .ok (.goto (-38), 3) := by decide +kernel
theorem dX1_targetsAreThere_127 : decode cX1_targetsAreThere 127 = .ok (.iconst 1, 1) := by decide +kernel
theorem dX1_targetsAreThere_128 : decode cX1_targetsAreThere 128 = .ok (.ireturn, 1) := by decide +kernel
theorem dX4_findMethod_0 : decode cX4_findMethod 0 = .ok (.iload_n 1, 1) := by decide +kernel
theorem dX4_findMethod_1 : decode cX4_findMethod 1 = .ok (.aload_n 0, 1) := by decide +kernel
theorem dX4_findMethod_2 : decode cX4_findMethod 2 = .ok (.getfield 17, 3) := by decide +kernel
theorem dX4_findMethod_5 : decode cX4_findMethod 5 = .ok (.invokestatic 37, 3) := by decide +kernel
theorem dX4_findMethod_8 : decode cX4_findMethod 8 = .ok (.ifCond .eq 12, 3) := by decide +kernel
theorem dX4_findMethod_11 : decode cX4_findMethod 11 = .ok (.aload_n 0, 1) := by decide +kernel
theorem dX4_findMethod_12 : decode cX4_findMethod 12 = .ok (.getfield 11, 3) := by decide +kernel
theorem dX4_findMethod_15 : decode cX4_findMethod 15 = .ok (.iload_n 1, 1) := by decide +kernel
theorem dX4_findMethod_16 : decode cX4_findMethod 16 = .ok (.aaload, 1) := by decide +kernel
theorem dX4_findMethod_17 : decode cX4_findMethod 17 = .ok (.goto 4, 3) := by decide +kernel
theorem dX4_findMethod_20 : decode cX4_findMethod 20 = .ok (.aconst_null, 1) := by decide +kernel
theorem dX4_findMethod_21 : decode cX4_findMethod 21 = .ok (.areturn, 1) := by decide +kernel
theorem dX5_take_0 : decode cX5_take 0 = .ok (.iload_n 1, 1) := by decide +kernel
theorem dX5_take_1 : decode cX5_take 1 = .ok (.invokestatic 34, 3) := by decide +kernel
theorem dX5_take_4 : decode cX5_take 4 = .ok (.istore_n 2, 1) := by decide +kernel
theorem dX5_take_5 : decode cX5_take 5 = .ok (.aload_n 0, 1) := by decide +kernel
theorem dX5_take_6 : decode cX5_take 6 = .ok (.getfield 12, 3) := by decide +kernel
theorem dX5_take_9 : decode cX5_take 9 = .ok (.aload_n 0, 1) := by decide +kernel
theorem dX5_take_10 : decode cX5_take 10 = .ok (.getfield 12, 3) := by decide +kernel
theorem dX5_take_13 : decode cX5_take 13 = .ok (.getfield 37, 3) := by decide +kernel
theorem dX5_take_16 : decode cX5_take 16 = .ok (.iload_n 2, 1) := by decide +kernel
theorem dX5_take_17 : decode cX5_take 17 = .ok (.isub, 1) := by decide +kernel
theorem dX5_take_18 : decode cX5_take 18 = .ok (.invokevirtual 41, 3) := by decide +kernel
theorem dX5_take_21 : decode cX5_take 21 = .ok (.iload_n 1, 1) := by decide +kernel
theorem dX5_take_22 : decode cX5_take 22 = .ok (.i2l, 1) := by decide +kernel
theorem dX5_take_23 : decode cX5_take 23 = .ok (.lcmp, 1) := by decide +kernel
theorem dX5_take_24 : decode cX5_take 24 = .ok (.ifCond .eq 5, 3) := by decide +kernel
theorem dX5_take_27 : decode cX5_take 27 = .ok (.iconst 0, 1) := by decide +kernel
theorem dX5_take_28 : decode cX5_take 28 = .ok (.ireturn, 1) := by decide +kernel
theorem dX5_take_29 : decode cX5_take 29 = .ok (.aload_n 0, 1) := by decide +kernel
theorem dX5_take_30 : decode cX5_take 30 = .ok (.getfield 12, 3) := by decide +kernel
theorem dX5_take_33 : decode cX5_take 33 = .ok (.iload_n 2, 1) := by decide +kernel
theorem dX5_take_34 : decode cX5_take 34 = .ok (.invokevirtual 45, 3) := by decide +kernel
theorem dX5_take_37 : decode cX5_take 37 = .ok (.iconst 1, 1) := by decide +kernel
theorem dX5_take_38 : decode cX5_take 38 = .ok (.ireturn, 1) := by decide +kernel
theorem dX1_takeArguments_0 : decode cX1_takeArguments 0 = .ok (.aload_n 1, 1) := by decide +kernel
theorem dX1_takeArguments_1 : decode cX1_takeArguments 1 = .ok (.ifnonnull 5, 3) := by decide +kernel
theorem dX1_takeArguments_4 : decode cX1_takeArguments 4 = .ok (.iconst 0, 1) := by decide +kernel
theorem dX1_takeArguments_5 : decode cX1_takeArguments 5 = .ok (.ireturn, 1) := by decide +kernel
theorem dX1_takeArguments_6 : decode cX1_takeArguments 6 = .ok (.aload_n 1, 1) := by decide +kernel
theorem dX1_takeArguments_7 : decode cX1_takeArguments 7 = .ok (.getfield 91, 3) := by decide +kernel
theorem dX1_takeArguments_10 : decode cX1_takeArguments 10 = .ok (.iconst 1, 1) := by decide +kernel
theorem dX1_takeArguments_11 : decode cX1_takeArguments 11 = .ok (.isub, 1) := by decide +kernel
theorem dX1_takeArguments_12 : decode cX1_takeArguments 12 = .ok (.istore_n 2, 1) := by decide +kernel
theorem dX1_takeArguments_13 : decode cX1_takeArguments 13 = .ok (.iload_n 2, 1) := by decide +kernel
theorem dX1_takeArguments_14 : decode cX1_takeArguments 14 = .ok (.ifCond .lt 27, 3) := by decide +kernel
theorem dX1_takeArguments_17 : decode cX1_takeArguments 17 = .ok (.aload_n 0, 1) := by decide +kernel
theorem dX1_takeArguments_18 : decode cX1_takeArguments 18 = .ok (.getfield 12, 3) := by decide +kernel
theorem dX1_takeArguments_21 : decode cX1_takeArguments 21 = .ok (.aload_n 1, 1) := by decide +kernel
theorem dX1_takeArguments_22 : decode cX1_takeArguments 22 = .ok (.getfield 94, 3) := by decide +kernel
theorem dX1_takeArguments_25 : decode cX1_takeArguments 25 = .ok (.iload_n 2, 1) := by decide +kernel
theorem dX1_takeArguments_26 : decode cX1_takeArguments 26 = .ok (.iaload, 1) := by decide +kernel
theorem dX1_takeArguments_27 : decode cX1_takeArguments 27 = .ok (.invokevirtual 189, 3) := by decide +kernel
theorem dX1_takeArguments_30 : decode cX1_takeArguments 30 = .ok (.ifCond .ne 5, 3) := by decide +kernel
theorem dX1_takeArguments_33 : decode cX1_takeArguments 33 = .ok (.iconst 0, 1) := by decide +kernel
theorem dX1_takeArguments_34 : decode cX1_takeArguments 34 = .ok (.ireturn, 1) := by decide +kernel
theorem dX1_takeArguments_35 : decode cX1_takeArguments 35 = .ok (.iinc 2 (-1), 3) := by decide +kernel
theorem dX1_takeArguments_38 : decode cX1_takeArguments 38 = .ok (.goto (-25), 3) := by decide +kernel
theorem dX1_takeArguments_41 : decode cX1_takeArguments 41 = .ok (.iconst 1, 1) := by decide +kernel
theorem dX1_takeArguments_42 : decode cX1_takeArguments 42 = .ok (.ireturn, 1) := by decide +kernel
theorem dX11_kindOfCell_0 : decode cX11_kindOfCell 0 = .ok (.iload_n 0, 1) := by decide +kernel
theorem dX11_kindOfCell_1 : decode cX11_kindOfCell 1 = .ok (.iconst 5, 1) := by decide +kernel
theorem dX11_kindOfCell_2 : decode cX11_kindOfCell 2 = .ok (.if_icmp .lt 7, 3) := by decide +kernel
theorem dX11_kindOfCell_5 : decode cX11_kindOfCell 5 = .ok (.iconst 0, 1) := by decide +kernel
theorem dX11_kindOfCell_6 : decode cX11_kindOfCell 6 = .ok (.goto 4, 3) := by decide +kernel
theorem dX11_kindOfCell_9 : decode cX11_kindOfCell 9 = .ok (.iload_n 0, 1) := by decide +kernel
theorem dX11_kindOfCell_10 : decode cX11_kindOfCell 10 = .ok (.ireturn, 1) := by decide +kernel
theorem dX1_takeSizes_0 : decode cX1_takeSizes 0 = .ok (.iconst 0, 1) := by decide +kernel
theorem dX1_takeSizes_1 : decode cX1_takeSizes 1 = .ok (.istore_n 2, 1) := by decide +kernel
theorem dX1_takeSizes_2 : decode cX1_takeSizes 2 = .ok (.iload_n 2, 1) := by decide +kernel
theorem dX1_takeSizes_3 : decode cX1_takeSizes 3 = .ok (.iload_n 1, 1) := by decide +kernel
theorem dX1_takeSizes_4 : decode cX1_takeSizes 4 = .ok (.if_icmp .ge 27, 3) := by decide +kernel
theorem dX1_takeSizes_7 : decode cX1_takeSizes 7 = .ok (.iload_n 2, 1) := by decide +kernel
theorem dX1_takeSizes_8 : decode cX1_takeSizes 8 = .ok (.iconst 3, 1) := by decide +kernel
theorem dX1_takeSizes_9 : decode cX1_takeSizes 9 = .ok (.if_icmp .ge 22, 3) := by decide +kernel
theorem dX1_takeSizes_12 : decode cX1_takeSizes 12 = .ok (.aload_n 0, 1) := by decide +kernel
theorem dX1_takeSizes_13 : decode cX1_takeSizes 13 = .ok (.getfield 12, 3) := by decide +kernel
theorem dX1_takeSizes_16 : decode cX1_takeSizes 16 = .ok (.iconst 0, 1) := by decide +kernel
theorem dX1_takeSizes_17 : decode cX1_takeSizes 17 = .ok (.invokevirtual 189, 3) := by decide +kernel
theorem dX1_takeSizes_20 : decode cX1_takeSizes 20 = .ok (.ifCond .ne 5, 3) := by decide +kernel
theorem dX1_takeSizes_23 : decode cX1_takeSizes 23 = .ok (.iconst 0, 1) := by decide +kernel
theorem dX1_takeSizes_24 : decode cX1_takeSizes 24 = .ok (.ireturn, 1) := by decide +kernel
theorem dX1_takeSizes_25 : decode cX1_takeSizes 25 = .ok (.iinc 2 1, 3) := by decide +kernel
theorem dX1_takeSizes_28 : decode cX1_takeSizes 28 = .ok (.goto (-26), 3) := by decide +kernel
theorem dX1_takeSizes_31 : decode cX1_takeSizes 31 = .ok (.iconst 1, 1) := by decide +kernel
theorem dX1_takeSizes_32 : decode cX1_takeSizes 32 = .ok (.ireturn, 1) := by decide +kernel
theorem dX11_kindCompared_0 : decode cX11_kindCompared 0 = .ok (.iload_n 0, 1) := by decide +kernel
theorem dX11_kindCompared_1 : decode cX11_kindCompared 1 = .ok (.ifCond .ne 5, 3) := by decide +kernel
theorem dX11_kindCompared_4 : decode cX11_kindCompared 4 = .ok (.iconst 1, 1) := by decide +kernel
theorem dX11_kindCompared_5 : decode cX11_kindCompared 5 = .ok (.ireturn, 1) := by decide +kernel
theorem dX11_kindCompared_6 : decode cX11_kindCompared 6 = .ok (.iload_n 0, 1) := by decide +kernel
theorem dX11_kindCompared_7 : decode cX11_kindCompared 7 = .ok (.iconst 2, 1) := by decide +kernel
theorem dX11_kindCompared_8 : decode cX11_kindCompared 8 = .ok (.if_icmp .gt 7, 3) := by decide +kernel
theorem dX11_kindCompared_11 : decode cX11_kindCompared 11 = .ok (.iconst 2, 1) := by decide +kernel
theorem dX11_kindCompared_12 : decode cX11_kindCompared 12 = .ok (.goto 4, 3) := by decide +kernel
theorem dX11_kindCompared_15 : decode cX11_kindCompared 15 = .ok (.iconst 3, 1) := by decide +kernel
theorem dX11_kindCompared_16 : decode cX11_kindCompared 16 = .ok (.ireturn, 1) := by decide +kernel
theorem dX1_takeCalculated_0 : decode cX1_takeCalculated 0 = .ok (.iload_n 1, 1) := by decide +kernel
theorem dX1_takeCalculated_1 : decode cX1_takeCalculated 1 = .ok (.bipush 8, 2) := by decide +kernel
theorem dX1_takeCalculated_3 : decode cX1_takeCalculated 3 = .ok (.if_icmp .ge 31, 3) := by decide +kernel
theorem dX1_takeCalculated_6 : decode cX1_takeCalculated 6 = .ok (.aload_n 0, 1) := by decide +kernel
theorem dX1_takeCalculated_7 : decode cX1_takeCalculated 7 = .ok (.getfield 12, 3) := by decide +kernel
theorem dX1_takeCalculated_10 : decode cX1_takeCalculated 10 = .ok (.iload_n 2, 1) := by decide +kernel
theorem dX1_takeCalculated_11 : decode cX1_takeCalculated 11 = .ok (.invokevirtual 189, 3) := by decide +kernel
theorem dX1_takeCalculated_14 : decode cX1_takeCalculated 14 = .ok (.ifCond .eq 18, 3) := by decide +kernel
theorem dX1_takeCalculated_17 : decode cX1_takeCalculated 17 = .ok (.aload_n 0, 1) := by decide +kernel
theorem dX1_takeCalculated_18 : decode cX1_takeCalculated 18 = .ok (.getfield 12, 3) := by decide +kernel
theorem dX1_takeCalculated_21 : decode cX1_takeCalculated 21 = .ok (.iload_n 2, 1) := by decide +kernel
theorem dX1_takeCalculated_22 : decode cX1_takeCalculated 22 = .ok (.invokevirtual 189, 3) := by decide +kernel
theorem dX1_takeCalculated_25 : decode cX1_takeCalculated 25 = .ok (.ifCond .eq 7, 3) := by decide +kernel
theorem dX1_takeCalculated_28 : decode cX1_takeCalculated 28 = .ok (.iconst 1, 1) := by decide +kernel
theorem dX1_takeCalculated_29 : decode cX1_takeCalculated 29 = .ok (.goto 4, 3) := by decide +kernel
theorem dX1_takeCalculated_32 : decode cX1_takeCalculated 32 = .ok (.iconst 0, 1) := by decide +kernel
theorem dX1_takeCalculated_33 : decode cX1_takeCalculated 33 = .ok (.ireturn, 1) := by decide +kernel
theorem dX1_takeCalculated_34 : decode cX1_takeCalculated 34 = .ok (.iload_n 1, 1) := by decide +kernel
theorem dX1_takeCalculated_35 : decode cX1_takeCalculated 35 = .ok (.bipush 11, 2) := by decide +kernel
theorem dX1_takeCalculated_37 : decode cX1_takeCalculated 37 = .ok (.if_icmp .eq 14, 3) := by decide +kernel
theorem dX1_takeCalculated_40 : decode cX1_takeCalculated 40 = .ok (.aload_n 0, 1) := by decide +kernel
theorem dX1_takeCalculated_41 : decode cX1_takeCalculated 41 = .ok (.getfield 12, 3) := by decide +kernel
theorem dX1_takeCalculated_44 : decode cX1_takeCalculated 44 = .ok (.iconst 0, 1) := by decide +kernel
theorem dX1_takeCalculated_45 : decode cX1_takeCalculated 45 = .ok (.invokevirtual 189, 3) := by decide +kernel
theorem dX1_takeCalculated_48 : decode cX1_takeCalculated 48 = .ok (.ifCond .eq 18, 3) := by decide +kernel
theorem dX1_takeCalculated_51 : decode cX1_takeCalculated 51 = .ok (.aload_n 0, 1) := by decide +kernel
theorem dX1_takeCalculated_52 : decode cX1_takeCalculated 52 = .ok (.getfield 12, 3) := by decide +kernel
theorem dX1_takeCalculated_55 : decode cX1_takeCalculated 55 = .ok (.iload_n 2, 1) := by decide +kernel
theorem dX1_takeCalculated_56 : decode cX1_takeCalculated 56 = .ok (.invokevirtual 189, 3) := by decide +kernel
theorem dX1_takeCalculated_59 : decode cX1_takeCalculated 59 = .ok (.ifCond .eq 7, 3) := by decide +kernel
theorem dX1_takeCalculated_62 : decode cX1_takeCalculated 62 = .ok (.iconst 1, 1) := by decide +kernel
theorem dX1_takeCalculated_63 : decode cX1_takeCalculated 63 = .ok (.goto 4, 3) := by decide +kernel
theorem dX1_takeCalculated_66 : decode cX1_takeCalculated 66 = .ok (.iconst 0, 1) := by decide +kernel
theorem dX1_takeCalculated_67 : decode cX1_takeCalculated 67 = .ok (.ireturn, 1) := by decide +kernel
theorem dX11_isEnd_0 : decode cX11_isEnd 0 = .ok (.lload_n 0, 1) := by decide +kernel
theorem dX11_isEnd_1 : decode cX11_isEnd 1 = .ok (.ldc2_w 182, 3) := by decide +kernel
theorem dX11_isEnd_4 : decode cX11_isEnd 4 = .ok (.lcmp, 1) := by decide +kernel
theorem dX11_isEnd_5 : decode cX11_isEnd 5 = .ok (.ifCond .eq 11, 3) := by decide +kernel
theorem dX11_isEnd_8 : decode cX11_isEnd 8 = .ok (.lload_n 0, 1) := by decide +kernel
theorem dX11_isEnd_9 : decode cX11_isEnd 9 = .ok (.ldc2_w 184, 3) := by decide +kernel
theorem dX11_isEnd_12 : decode cX11_isEnd 12 = .ok (.lcmp, 1) := by decide +kernel
theorem dX11_isEnd_13 : decode cX11_isEnd 13 = .ok (.ifCond .ne 7, 3) := by decide +kernel
theorem dX11_isEnd_16 : decode cX11_isEnd 16 = .ok (.iconst 1, 1) := by decide +kernel
theorem dX11_isEnd_17 : decode cX11_isEnd 17 = .ok (.goto 4, 3) := by decide +kernel
theorem dX11_isEnd_20 : decode cX11_isEnd 20 = .ok (.iconst 0, 1) := by decide +kernel
theorem dX11_isEnd_21 : decode cX11_isEnd 21 = .ok (.ireturn, 1) := by decide +kernel
theorem dX5_mayMove_0 : decode cX5_mayMove 0 = .ok (.aload_n 0, 1) := by decide +kernel
theorem dX5_mayMove_1 : decode cX5_mayMove 1 = .ok (.getfield 12, 3) := by decide +kernel
theorem dX5_mayMove_4 : decode cX5_mayMove 4 = .ok (.getfield 37, 3) := by decide +kernel
theorem dX5_mayMove_7 : decode cX5_mayMove 7 = .ok (.getstatic 49, 3) := by decide +kernel
theorem dX5_mayMove_10 : decode cX5_mayMove 10 = .ok (.iload_n 1, 1) := by decide +kernel
theorem dX5_mayMove_11 : decode cX5_mayMove 11 = .ok (.bipush 8, 2) := by decide +kernel
theorem dX5_mayMove_13 : decode cX5_mayMove 13 = .ok (.isub, 1) := by decide +kernel
theorem dX5_mayMove_14 : decode cX5_mayMove 14 = .ok (.iaload, 1) := by decide +kernel
theorem dX5_mayMove_15 : decode cX5_mayMove 15 = .ok (.isub, 1) := by decide +kernel
theorem dX5_mayMove_16 : decode cX5_mayMove 16 = .ok (.istore_n 2, 1) := by decide +kernel
theorem dX5_mayMove_17 : decode cX5_mayMove 17 = .ok (.iload_n 2, 1) := by decide +kernel
theorem dX5_mayMove_18 : decode cX5_mayMove 18 = .ok (.getstatic 53, 3) := by decide +kernel
theorem dX5_mayMove_21 : decode cX5_mayMove 21 = .ok (.iload_n 1, 1) := by decide +kernel
theorem dX5_mayMove_22 : decode cX5_mayMove 22 = .ok (.bipush 8, 2) := by decide +kernel
theorem dX5_mayMove_24 : decode cX5_mayMove 24 = .ok (.isub, 1) := by decide +kernel
theorem dX5_mayMove_25 : decode cX5_mayMove 25 = .ok (.iaload, 1) := by decide +kernel
theorem dX5_mayMove_26 : decode cX5_mayMove 26 = .ok (.isub, 1) := by decide +kernel
theorem dX5_mayMove_27 : decode cX5_mayMove 27 = .ok (.istore_n 3, 1) := by decide +kernel
theorem dX5_mayMove_28 : decode cX5_mayMove 28 = .ok (.iload_n 3, 1) := by decide +kernel
theorem dX5_mayMove_29 : decode cX5_mayMove 29 = .ok (.ifCond .lt 35, 3) := by decide +kernel
theorem dX5_mayMove_32 : decode cX5_mayMove 32 = .ok (.aload_n 0, 1) := by decide +kernel
theorem dX5_mayMove_33 : decode cX5_mayMove 33 = .ok (.getfield 12, 3) := by decide +kernel
theorem dX5_mayMove_36 : decode cX5_mayMove 36 = .ok (.iload_n 3, 1) := by decide +kernel
theorem dX5_mayMove_37 : decode cX5_mayMove 37 = .ok (.invokevirtual 41, 3) := by decide +kernel
theorem dX5_mayMove_40 : decode cX5_mayMove 40 = .ok (.invokestatic 56, 3) := by decide +kernel
theorem dX5_mayMove_43 : decode cX5_mayMove 43 = .ok (.ifCond .ne 21, 3) := by decide +kernel
theorem dX5_mayMove_46 : decode cX5_mayMove 46 = .ok (.aload_n 0, 1) := by decide +kernel
theorem dX5_mayMove_47 : decode cX5_mayMove 47 = .ok (.getfield 12, 3) := by decide +kernel
theorem dX5_mayMove_50 : decode cX5_mayMove 50 = .ok (.iload_n 2, 1) := by decide +kernel
theorem dX5_mayMove_51 : decode cX5_mayMove 51 = .ok (.invokevirtual 41, 3) := by decide +kernel
theorem dX5_mayMove_54 : decode cX5_mayMove 54 = .ok (.invokestatic 56, 3) := by decide +kernel
theorem dX5_mayMove_57 : decode cX5_mayMove 57 = .ok (.ifCond .ne 7, 3) := by decide +kernel
theorem dX5_mayMove_60 : decode cX5_mayMove 60 = .ok (.iconst 1, 1) := by decide +kernel
theorem dX5_mayMove_61 : decode cX5_mayMove 61 = .ok (.goto 4, 3) := by decide +kernel
theorem dX5_mayMove_64 : decode cX5_mayMove 64 = .ok (.iconst 0, 1) := by decide +kernel
theorem dX5_mayMove_65 : decode cX5_mayMove 65 = .ok (.ireturn, 1) := by decide +kernel
theorem dX1_takeAll_0 : decode cX1_takeAll 0 = .ok (.iload_n 1, 1) := by decide +kernel
theorem dX1_takeAll_1 : decode cX1_takeAll 1 = .ok (.tableswitch 332 6 35 #[135, 332, 332, 332, 332, 332, 332, 332, 332, 332, 332, 144, 151, 169, 332, 203, 288, 203, 212, 218, 246, 288, 288, 288, 332, 288, 288, 288, 297, 319], 135) := by decide +kernel
theorem dX1_takeAll_136 : decode cX1_takeAll 136 = .ok (.aload_n 0, 1) := by decide +kernel
theorem dX1_takeAll_137 : decode cX1_takeAll 137 = .ok (.getfield 12, 3) := by decide +kernel
theorem dX1_takeAll_140 : decode cX1_takeAll 140 = .ok (.iload_n 3, 1) := by decide +kernel
theorem dX1_takeAll_141 : decode cX1_takeAll 141 = .ok (.invokevirtual 189, 3) := by decide +kernel
theorem dX1_takeAll_144 : decode cX1_takeAll 144 = .ok (.ireturn, 1) := by decide +kernel
theorem dX1_takeAll_145 : decode cX1_takeAll 145 = .ok (.aload_n 0, 1) := by decide +kernel
theorem dX1_takeAll_146 : decode cX1_takeAll 146 = .ok (.iload_n 2, 1) := by decide +kernel
theorem dX1_takeAll_147 : decode cX1_takeAll 147 = .ok (.iload_n 3, 1) := by decide +kernel
theorem dX1_takeAll_148 : decode cX1_takeAll 148 = .ok (.invokevirtual 192, 3) := by decide +kernel
theorem dX1_takeAll_151 : decode cX1_takeAll 151 = .ok (.ireturn, 1) := by decide +kernel
theorem dX1_takeAll_152 : decode cX1_takeAll 152 = .ok (.aload_n 0, 1) := by decide +kernel
theorem dX1_takeAll_153 : decode cX1_takeAll 153 = .ok (.getfield 12, 3) := by decide +kernel
theorem dX1_takeAll_156 : decode cX1_takeAll 156 = .ok (.iload_n 2, 1) := by decide +kernel
theorem dX1_takeAll_157 : decode cX1_takeAll 157 = .ok (.iconst 3, 1) := by decide +kernel
theorem dX1_takeAll_158 : decode cX1_takeAll 158 = .ok (.if_icmp .ne 7, 3) := by decide +kernel
theorem dX1_takeAll_161 : decode cX1_takeAll 161 = .ok (.iconst 1, 1) := by decide +kernel
theorem dX1_takeAll_162 : decode cX1_takeAll 162 = .ok (.goto 4, 3) := by decide +kernel
theorem dX1_takeAll_165 : decode cX1_takeAll 165 = .ok (.iconst 0, 1) := by decide +kernel
theorem dX1_takeAll_166 : decode cX1_takeAll 166 = .ok (.invokevirtual 189, 3) := by decide +kernel
theorem dX1_takeAll_169 : decode cX1_takeAll 169 = .ok (.ireturn, 1) := by decide +kernel
theorem dX1_takeAll_170 : decode cX1_takeAll 170 = .ok (.aload_n 0, 1) := by decide +kernel
theorem dX1_takeAll_171 : decode cX1_takeAll 171 = .ok (.getfield 12, 3) := by decide +kernel
theorem dX1_takeAll_174 : decode cX1_takeAll 174 = .ok (.iload_n 2, 1) := by decide +kernel
theorem dX1_takeAll_175 : decode cX1_takeAll 175 = .ok (.invokestatic 195, 3) := by decide +kernel
theorem dX1_takeAll_178 : decode cX1_takeAll 178 = .ok (.invokevirtual 189, 3) := by decide +kernel
theorem dX1_takeAll_181 : decode cX1_takeAll 181 = .ok (.ifCond .eq 21, 3) := by decide +kernel
theorem dX1_takeAll_184 : decode cX1_takeAll 184 = .ok (.aload_n 0, 1) := by decide +kernel
theorem dX1_takeAll_185 : decode cX1_takeAll 185 = .ok (.getfield 12, 3) := by decide +kernel
theorem dX1_takeAll_188 : decode cX1_takeAll 188 = .ok (.iload_n 2, 1) := by decide +kernel
theorem dX1_takeAll_189 : decode cX1_takeAll 189 = .ok (.invokestatic 195, 3) := by decide +kernel
theorem dX1_takeAll_192 : decode cX1_takeAll 192 = .ok (.invokevirtual 189, 3) := by decide +kernel
theorem dX1_takeAll_195 : decode cX1_takeAll 195 = .ok (.ifCond .eq 7, 3) := by decide +kernel
theorem dX1_takeAll_198 : decode cX1_takeAll 198 = .ok (.iconst 1, 1) := by decide +kernel
theorem dX1_takeAll_199 : decode cX1_takeAll 199 = .ok (.goto 4, 3) := by decide +kernel
theorem dX1_takeAll_202 : decode cX1_takeAll 202 = .ok (.iconst 0, 1) := by decide +kernel
theorem dX1_takeAll_203 : decode cX1_takeAll 203 = .ok (.ireturn, 1) := by decide +kernel
theorem dX1_takeAll_204 : decode cX1_takeAll 204 = .ok (.aload_n 0, 1) := by decide +kernel
theorem dX1_takeAll_205 : decode cX1_takeAll 205 = .ok (.getfield 12, 3) := by decide +kernel
theorem dX1_takeAll_208 : decode cX1_takeAll 208 = .ok (.iconst 0, 1) := by decide +kernel
theorem dX1_takeAll_209 : decode cX1_takeAll 209 = .ok (.invokevirtual 189, 3) := by decide +kernel
theorem dX1_takeAll_212 : decode cX1_takeAll 212 = .ok (.ireturn, 1) := by decide +kernel
theorem dX1_takeAll_213 : decode cX1_takeAll 213 = .ok (.aload_n 0, 1) := by decide +kernel
theorem dX1_takeAll_214 : decode cX1_takeAll 214 = .ok (.iload_n 3, 1) := by decide +kernel
theorem dX1_takeAll_215 : decode cX1_takeAll 215 = .ok (.invokevirtual 198, 3) := by decide +kernel
theorem dX1_takeAll_218 : decode cX1_takeAll 218 = .ok (.ireturn, 1) := by decide +kernel
theorem dX1_takeAll_219 : decode cX1_takeAll 219 = .ok (.aload_n 0, 1) := by decide +kernel
theorem dX1_takeAll_220 : decode cX1_takeAll 220 = .ok (.getfield 12, 3) := by decide +kernel
theorem dX1_takeAll_223 : decode cX1_takeAll 223 = .ok (.iconst 0, 1) := by decide +kernel
theorem dX1_takeAll_224 : decode cX1_takeAll 224 = .ok (.invokevirtual 189, 3) := by decide +kernel
theorem dX1_takeAll_227 : decode cX1_takeAll 227 = .ok (.ifCond .eq 18, 3) := by decide +kernel
theorem dX1_takeAll_230 : decode cX1_takeAll 230 = .ok (.aload_n 0, 1) := by decide +kernel
theorem dX1_takeAll_231 : decode cX1_takeAll 231 = .ok (.getfield 12, 3) := by decide +kernel
theorem dX1_takeAll_234 : decode cX1_takeAll 234 = .ok (.iconst 4, 1) := by decide +kernel
theorem dX1_takeAll_235 : decode cX1_takeAll 235 = .ok (.invokevirtual 189, 3) := by decide +kernel
theorem dX1_takeAll_238 : decode cX1_takeAll 238 = .ok (.ifCond .eq 7, 3) := by decide +kernel
theorem dX1_takeAll_241 : decode cX1_takeAll 241 = .ok (.iconst 1, 1) := by decide +kernel
theorem dX1_takeAll_242 : decode cX1_takeAll 242 = .ok (.goto 4, 3) := by decide +kernel
theorem dX1_takeAll_245 : decode cX1_takeAll 245 = .ok (.iconst 0, 1) := by decide +kernel
theorem dX1_takeAll_246 : decode cX1_takeAll 246 = .ok (.ireturn, 1) := by decide +kernel
theorem dX1_takeAll_247 : decode cX1_takeAll 247 = .ok (.aload_n 0, 1) := by decide +kernel
theorem dX1_takeAll_248 : decode cX1_takeAll 248 = .ok (.getfield 12, 3) := by decide +kernel
theorem dX1_takeAll_251 : decode cX1_takeAll 251 = .ok (.iload_n 3, 1) := by decide +kernel
theorem dX1_takeAll_252 : decode cX1_takeAll 252 = .ok (.invokestatic 201, 3) := by decide +kernel
theorem dX1_takeAll_255 : decode cX1_takeAll 255 = .ok (.invokevirtual 189, 3) := by decide +kernel
theorem dX1_takeAll_258 : decode cX1_takeAll 258 = .ok (.ifCond .eq 29, 3) := by decide +kernel
theorem dX1_takeAll_261 : decode cX1_takeAll 261 = .ok (.aload_n 0, 1) := by decide +kernel
theorem dX1_takeAll_262 : decode cX1_takeAll 262 = .ok (.getfield 12, 3) := by decide +kernel
theorem dX1_takeAll_265 : decode cX1_takeAll 265 = .ok (.iconst 0, 1) := by decide +kernel
theorem dX1_takeAll_266 : decode cX1_takeAll 266 = .ok (.invokevirtual 189, 3) := by decide +kernel
theorem dX1_takeAll_269 : decode cX1_takeAll 269 = .ok (.ifCond .eq 18, 3) := by decide +kernel
theorem dX1_takeAll_272 : decode cX1_takeAll 272 = .ok (.aload_n 0, 1) := by decide +kernel
theorem dX1_takeAll_273 : decode cX1_takeAll 273 = .ok (.getfield 12, 3) := by decide +kernel
theorem dX1_takeAll_276 : decode cX1_takeAll 276 = .ok (.iconst 4, 1) := by decide +kernel
theorem dX1_takeAll_277 : decode cX1_takeAll 277 = .ok (.invokevirtual 189, 3) := by decide +kernel
theorem dX1_takeAll_280 : decode cX1_takeAll 280 = .ok (.ifCond .eq 7, 3) := by decide +kernel
theorem dX1_takeAll_283 : decode cX1_takeAll 283 = .ok (.iconst 1, 1) := by decide +kernel
theorem dX1_takeAll_284 : decode cX1_takeAll 284 = .ok (.goto 4, 3) := by decide +kernel
theorem dX1_takeAll_287 : decode cX1_takeAll 287 = .ok (.iconst 0, 1) := by decide +kernel
theorem dX1_takeAll_288 : decode cX1_takeAll 288 = .ok (.ireturn, 1) := by decide +kernel
theorem dX1_takeAll_289 : decode cX1_takeAll 289 = .ok (.aload_n 0, 1) := by decide +kernel
theorem dX1_takeAll_290 : decode cX1_takeAll 290 = .ok (.getfield 12, 3) := by decide +kernel
theorem dX1_takeAll_293 : decode cX1_takeAll 293 = .ok (.iconst 4, 1) := by decide +kernel
theorem dX1_takeAll_294 : decode cX1_takeAll 294 = .ok (.invokevirtual 189, 3) := by decide +kernel
theorem dX1_takeAll_297 : decode cX1_takeAll 297 = .ok (.ireturn, 1) := by decide +kernel
theorem dX1_takeAll_298 : decode cX1_takeAll 298 = .ok (.iload_n 2, 1) := by decide +kernel
theorem dX1_takeAll_299 : decode cX1_takeAll 299 = .ok (.iconst 5, 1) := by decide +kernel
theorem dX1_takeAll_300 : decode cX1_takeAll 300 = .ok (.if_icmp .eq 14, 3) := by decide +kernel
theorem dX1_takeAll_303 : decode cX1_takeAll 303 = .ok (.aload_n 0, 1) := by decide +kernel
theorem dX1_takeAll_304 : decode cX1_takeAll 304 = .ok (.getfield 12, 3) := by decide +kernel
theorem dX1_takeAll_307 : decode cX1_takeAll 307 = .ok (.iload_n 2, 1) := by decide +kernel
theorem dX1_takeAll_308 : decode cX1_takeAll 308 = .ok (.invokevirtual 189, 3) := by decide +kernel
theorem dX1_takeAll_311 : decode cX1_takeAll 311 = .ok (.ifCond .eq 7, 3) := by decide +kernel
theorem dX1_takeAll_314 : decode cX1_takeAll 314 = .ok (.iconst 1, 1) := by decide +kernel
theorem dX1_takeAll_315 : decode cX1_takeAll 315 = .ok (.goto 4, 3) := by decide +kernel
theorem dX1_takeAll_318 : decode cX1_takeAll 318 = .ok (.iconst 0, 1) := by decide +kernel
theorem dX1_takeAll_319 : decode cX1_takeAll 319 = .ok (.ireturn, 1) := by decide +kernel
theorem dX1_takeAll_320 : decode cX1_takeAll 320 = .ok (.aload_n 0, 1) := by decide +kernel
theorem dX1_takeAll_321 : decode cX1_takeAll 321 = .ok (.aload_n 0, 1) := by decide +kernel
theorem dX1_takeAll_322 : decode cX1_takeAll 322 = .ok (.getfield 31, 3) := by decide +kernel
theorem dX1_takeAll_325 : decode cX1_takeAll 325 = .ok (.iload_n 2, 1) := by decide +kernel
theorem dX1_takeAll_326 : decode cX1_takeAll 326 = .ok (.invokevirtual 204, 3) := by decide +kernel
theorem dX1_takeAll_329 : decode cX1_takeAll 329 = .ok (.invokevirtual 208, 3) := by decide +kernel
theorem dX1_takeAll_332 : decode cX1_takeAll 332 = .ok (.ireturn, 1) := by decide +kernel
theorem dX1_takeAll_333 : decode cX1_takeAll 333 = .ok (.iload_n 1, 1) := by decide +kernel
theorem dX1_takeAll_334 : decode cX1_takeAll 334 = .ok (.bipush 8, 2) := by decide +kernel
theorem dX1_takeAll_336 : decode cX1_takeAll 336 = .ok (.if_icmp .lt 20, 3) := by decide +kernel
theorem dX1_takeAll_339 : decode cX1_takeAll 339 = .ok (.iload_n 1, 1) := by decide +kernel
theorem dX1_takeAll_340 : decode cX1_takeAll 340 = .ok (.bipush 16, 2) := by decide +kernel
theorem dX1_takeAll_342 : decode cX1_takeAll 342 = .ok (.if_icmp .gt 14, 3) := by decide +kernel
theorem dX1_takeAll_345 : decode cX1_takeAll 345 = .ok (.aload_n 0, 1) := by decide +kernel
theorem dX1_takeAll_346 : decode cX1_takeAll 346 = .ok (.getfield 12, 3) := by decide +kernel
theorem dX1_takeAll_349 : decode cX1_takeAll 349 = .ok (.iload_n 1, 1) := by decide +kernel
theorem dX1_takeAll_350 : decode cX1_takeAll 350 = .ok (.invokevirtual 212, 3) := by decide +kernel
theorem dX1_takeAll_353 : decode cX1_takeAll 353 = .ok (.ifCond .eq 7, 3) := by decide +kernel
theorem dX1_takeAll_356 : decode cX1_takeAll 356 = .ok (.iconst 1, 1) := by decide +kernel
theorem dX1_takeAll_357 : decode cX1_takeAll 357 = .ok (.goto 4, 3) := by decide +kernel
theorem dX1_takeAll_360 : decode cX1_takeAll 360 = .ok (.iconst 0, 1) := by decide +kernel
theorem dX1_takeAll_361 : decode cX1_takeAll 361 = .ok (.ireturn, 1) := by decide +kernel
theorem dX5_holds_0 : decode cX5_holds 0 = .ok (.iload_n 1, 1) := by decide +kernel
theorem dX5_holds_1 : decode cX5_holds 1 = .ok (.bipush 16, 2) := by decide +kernel
theorem dX5_holds_3 : decode cX5_holds 3 = .ok (.invokestatic 68, 3) := by decide +kernel
theorem dX5_holds_6 : decode cX5_holds 6 = .ok (.ifCond .eq 19, 3) := by decide +kernel
theorem dX5_holds_9 : decode cX5_holds 9 = .ok (.aload_n 0, 1) := by decide +kernel
theorem dX5_holds_10 : decode cX5_holds 10 = .ok (.getfield 18, 3) := by decide +kernel
theorem dX5_holds_13 : decode cX5_holds 13 = .ok (.iload_n 1, 1) := by decide +kernel
theorem dX5_holds_14 : decode cX5_holds 14 = .ok (.laload, 1) := by decide +kernel
theorem dX5_holds_15 : decode cX5_holds 15 = .ok (.iload_n 2, 1) := by decide +kernel
theorem dX5_holds_16 : decode cX5_holds 16 = .ok (.i2l, 1) := by decide +kernel
theorem dX5_holds_17 : decode cX5_holds 17 = .ok (.lcmp, 1) := by decide +kernel
theorem dX5_holds_18 : decode cX5_holds 18 = .ok (.ifCond .ne 7, 3) := by decide +kernel
theorem dX5_holds_21 : decode cX5_holds 21 = .ok (.iconst 1, 1) := by decide +kernel
theorem dX5_holds_22 : decode cX5_holds 22 = .ok (.goto 4, 3) := by decide +kernel
theorem dX5_holds_25 : decode cX5_holds 25 = .ok (.iconst 0, 1) := by decide +kernel
theorem dX5_holds_26 : decode cX5_holds 26 = .ok (.ireturn, 1) := by decide +kernel
theorem dX5_put_0 : decode cX5_put 0 = .ok (.aload_n 0, 1) := by decide +kernel
theorem dX5_put_1 : decode cX5_put 1 = .ok (.getfield 12, 3) := by decide +kernel
theorem dX5_put_4 : decode cX5_put 4 = .ok (.iload_n 1, 1) := by decide +kernel
theorem dX5_put_5 : decode cX5_put 5 = .ok (.i2l, 1) := by decide +kernel
theorem dX5_put_6 : decode cX5_put 6 = .ok (.invokevirtual 22, 3) := by decide +kernel
theorem dX5_put_9 : decode cX5_put 9 = .ok (.iload_n 1, 1) := by decide +kernel
theorem dX5_put_10 : decode cX5_put 10 = .ok (.invokestatic 26, 3) := by decide +kernel
theorem dX5_put_13 : decode cX5_put 13 = .ok (.ifCond .eq 15, 3) := by decide +kernel
theorem dX5_put_16 : decode cX5_put 16 = .ok (.aload_n 0, 1) := by decide +kernel
theorem dX5_put_17 : decode cX5_put 17 = .ok (.getfield 12, 3) := by decide +kernel
theorem dX5_put_20 : decode cX5_put 20 = .ok (.iload_n 1, 1) := by decide +kernel
theorem dX5_put_21 : decode cX5_put 21 = .ok (.invokestatic 30, 3) := by decide +kernel
theorem dX5_put_24 : decode cX5_put 24 = .ok (.i2l, 1) := by decide +kernel
theorem dX5_put_25 : decode cX5_put 25 = .ok (.invokevirtual 22, 3) := by decide +kernel
theorem dX5_put_28 : decode cX5_put 28 = .ok (.return_, 1) := by decide +kernel
theorem dX1_kindPut_0 : decode cX1_kindPut 0 = .ok (.iload_n 1, 1) := by decide +kernel
theorem dX1_kindPut_1 : decode cX1_kindPut 1 = .ok (.tableswitch 186 5 35 #[139, 186, 186, 186, 186, 186, 186, 186, 186, 186, 186, 186, 139, 141, 152, 186, 186, 186, 186, 159, 154, 186, 152, 152, 159, 159, 186, 186, 186, 186, 161], 139) := by decide +kernel
theorem dX1_kindPut_140 : decode cX1_kindPut 140 = .ok (.iload_n 3, 1) := by decide +kernel
theorem dX1_kindPut_141 : decode cX1_kindPut 141 = .ok (.ireturn, 1) := by decide +kernel
theorem dX1_kindPut_142 : decode cX1_kindPut 142 = .ok (.iload_n 2, 1) := by decide +kernel
theorem dX1_kindPut_143 : decode cX1_kindPut 143 = .ok (.iconst 4, 1) := by decide +kernel
theorem dX1_kindPut_144 : decode cX1_kindPut 144 = .ok (.if_icmp .ne 7, 3) := by decide +kernel
theorem dX1_kindPut_147 : decode cX1_kindPut 147 = .ok (.iconst 1, 1) := by decide +kernel
theorem dX1_kindPut_148 : decode cX1_kindPut 148 = .ok (.goto 4, 3) := by decide +kernel
theorem dX1_kindPut_151 : decode cX1_kindPut 151 = .ok (.iconst 0, 1) := by decide +kernel
theorem dX1_kindPut_152 : decode cX1_kindPut 152 = .ok (.ireturn, 1) := by decide +kernel
theorem dX1_kindPut_153 : decode cX1_kindPut 153 = .ok (.iconst 0, 1) := by decide +kernel
theorem dX1_kindPut_154 : decode cX1_kindPut 154 = .ok (.ireturn, 1) := by decide +kernel
theorem dX1_kindPut_155 : decode cX1_kindPut 155 = .ok (.iload_n 3, 1) := by decide +kernel
theorem dX1_kindPut_156 : decode cX1_kindPut 156 = .ok (.invokestatic 201, 3) := by decide +kernel
theorem dX1_kindPut_159 : decode cX1_kindPut 159 = .ok (.ireturn, 1) := by decide +kernel
theorem dX1_kindPut_160 : decode cX1_kindPut 160 = .ok (.iconst 4, 1) := by decide +kernel
theorem dX1_kindPut_161 : decode cX1_kindPut 161 = .ok (.ireturn, 1) := by decide +kernel
theorem dX1_kindPut_162 : decode cX1_kindPut 162 = .ok (.aload_n 0, 1) := by decide +kernel
theorem dX1_kindPut_163 : decode cX1_kindPut 163 = .ok (.getfield 31, 3) := by decide +kernel
theorem dX1_kindPut_166 : decode cX1_kindPut 166 = .ok (.iload_n 2, 1) := by decide +kernel
theorem dX1_kindPut_167 : decode cX1_kindPut 167 = .ok (.invokevirtual 204, 3) := by decide +kernel
theorem dX1_kindPut_170 : decode cX1_kindPut 170 = .ok (.astore 4, 2) := by decide +kernel
theorem dX1_kindPut_172 : decode cX1_kindPut 172 = .ok (.aload 4, 2) := by decide +kernel
theorem dX1_kindPut_174 : decode cX1_kindPut 174 = .ok (.ifnonnull 7, 3) := by decide +kernel
theorem dX1_kindPut_177 : decode cX1_kindPut 177 = .ok (.iconst 5, 1) := by decide +kernel
theorem dX1_kindPut_178 : decode cX1_kindPut 178 = .ok (.goto 8, 3) := by decide +kernel
theorem dX1_kindPut_181 : decode cX1_kindPut 181 = .ok (.aload 4, 2) := by decide +kernel
theorem dX1_kindPut_183 : decode cX1_kindPut 183 = .ok (.getfield 140, 3) := by decide +kernel
theorem dX1_kindPut_186 : decode cX1_kindPut 186 = .ok (.ireturn, 1) := by decide +kernel
theorem dX1_kindPut_187 : decode cX1_kindPut 187 = .ok (.iconst 5, 1) := by decide +kernel
theorem dX1_kindPut_188 : decode cX1_kindPut 188 = .ok (.ireturn, 1) := by decide +kernel
theorem dX1_putAll_0 : decode cX1_putAll 0 = .ok (.iload_n 1, 1) := by decide +kernel
theorem dX1_putAll_1 : decode cX1_putAll 1 = .ok (.iconst 4, 1) := by decide +kernel
theorem dX1_putAll_2 : decode cX1_putAll 2 = .ok (.if_icmp .gt 14, 3) := by decide +kernel
theorem dX1_putAll_5 : decode cX1_putAll 5 = .ok (.aload_n 0, 1) := by decide +kernel
theorem dX1_putAll_6 : decode cX1_putAll 6 = .ok (.getfield 12, 3) := by decide +kernel
theorem dX1_putAll_9 : decode cX1_putAll 9 = .ok (.iload_n 1, 1) := by decide +kernel
theorem dX1_putAll_10 : decode cX1_putAll 10 = .ok (.invokevirtual 215, 3) := by decide +kernel
theorem dX1_putAll_13 : decode cX1_putAll 13 = .ok (.goto 71, 3) := by decide +kernel
theorem dX1_putAll_16 : decode cX1_putAll 16 = .ok (.iload_n 1, 1) := by decide +kernel
theorem dX1_putAll_17 : decode cX1_putAll 17 = .ok (.bipush 8, 2) := by decide +kernel
theorem dX1_putAll_19 : decode cX1_putAll 19 = .ok (.if_icmp .lt 23, 3) := by decide +kernel
theorem dX1_putAll_22 : decode cX1_putAll 22 = .ok (.iload_n 1, 1) := by decide +kernel
theorem dX1_putAll_23 : decode cX1_putAll 23 = .ok (.bipush 16, 2) := by decide +kernel
theorem dX1_putAll_25 : decode cX1_putAll 25 = .ok (.if_icmp .gt 17, 3) := by decide +kernel
theorem dX1_putAll_28 : decode cX1_putAll 28 = .ok (.aload_n 0, 1) := by decide +kernel
theorem dX1_putAll_29 : decode cX1_putAll 29 = .ok (.getfield 12, 3) := by decide +kernel
theorem dX1_putAll_32 : decode cX1_putAll 32 = .ok (.getfield 76, 3) := by decide +kernel
theorem dX1_putAll_35 : decode cX1_putAll 35 = .ok (.iload_n 1, 1) := by decide +kernel
theorem dX1_putAll_36 : decode cX1_putAll 36 = .ok (.invokevirtual 219, 3) := by decide +kernel
theorem dX1_putAll_39 : decode cX1_putAll 39 = .ok (.goto 45, 3) := by decide +kernel
theorem dX1_putAll_42 : decode cX1_putAll 42 = .ok (.iload_n 1, 1) := by decide +kernel
theorem dX1_putAll_43 : decode cX1_putAll 43 = .ok (.bipush 6, 2) := by decide +kernel
theorem dX1_putAll_45 : decode cX1_putAll 45 = .ok (.if_icmp .ne 15, 3) := by decide +kernel
theorem dX1_putAll_48 : decode cX1_putAll 48 = .ok (.aload_n 0, 1) := by decide +kernel
theorem dX1_putAll_49 : decode cX1_putAll 49 = .ok (.getfield 12, 3) := by decide +kernel
theorem dX1_putAll_52 : decode cX1_putAll 52 = .ok (.iload_n 2, 1) := by decide +kernel
theorem dX1_putAll_53 : decode cX1_putAll 53 = .ok (.iload_n 3, 1) := by decide +kernel
theorem dX1_putAll_54 : decode cX1_putAll 54 = .ok (.invokevirtual 98, 3) := by decide +kernel
theorem dX1_putAll_57 : decode cX1_putAll 57 = .ok (.goto 27, 3) := by decide +kernel
theorem dX1_putAll_60 : decode cX1_putAll 60 = .ok (.aload_n 0, 1) := by decide +kernel
theorem dX1_putAll_61 : decode cX1_putAll 61 = .ok (.iload_n 1, 1) := by decide +kernel
theorem dX1_putAll_62 : decode cX1_putAll 62 = .ok (.iload_n 2, 1) := by decide +kernel
theorem dX1_putAll_63 : decode cX1_putAll 63 = .ok (.iload_n 3, 1) := by decide +kernel
theorem dX1_putAll_64 : decode cX1_putAll 64 = .ok (.invokevirtual 222, 3) := by decide +kernel
theorem dX1_putAll_67 : decode cX1_putAll 67 = .ok (.istore 4, 2) := by decide +kernel
theorem dX1_putAll_69 : decode cX1_putAll 69 = .ok (.iload 4, 2) := by decide +kernel
theorem dX1_putAll_71 : decode cX1_putAll 71 = .ok (.iconst 5, 1) := by decide +kernel
theorem dX1_putAll_72 : decode cX1_putAll 72 = .ok (.if_icmp .eq 12, 3) := by decide +kernel
theorem dX1_putAll_75 : decode cX1_putAll 75 = .ok (.aload_n 0, 1) := by decide +kernel
theorem dX1_putAll_76 : decode cX1_putAll 76 = .ok (.getfield 12, 3) := by decide +kernel
theorem dX1_putAll_79 : decode cX1_putAll 79 = .ok (.iload 4, 2) := by decide +kernel
theorem dX1_putAll_81 : decode cX1_putAll 81 = .ok (.invokevirtual 215, 3) := by decide +kernel
theorem dX1_putAll_84 : decode cX1_putAll 84 = .ok (.return_, 1) := by decide +kernel
theorem dX1_goesToNext_0 : decode cX1_goesToNext 0 = .ok (.iload_n 0, 1) := by decide +kernel
theorem dX1_goesToNext_1 : decode cX1_goesToNext 1 = .ok (.bipush 20, 2) := by decide +kernel
theorem dX1_goesToNext_3 : decode cX1_goesToNext 3 = .ok (.if_icmp .eq 25, 3) := by decide +kernel
theorem dX1_goesToNext_6 : decode cX1_goesToNext 6 = .ok (.iload_n 0, 1) := by decide +kernel
theorem dX1_goesToNext_7 : decode cX1_goesToNext 7 = .ok (.bipush 23, 2) := by decide +kernel
theorem dX1_goesToNext_9 : decode cX1_goesToNext 9 = .ok (.if_icmp .eq 19, 3) := by decide +kernel
theorem dX1_goesToNext_12 : decode cX1_goesToNext 12 = .ok (.iload_n 0, 1) := by decide +kernel
theorem dX1_goesToNext_13 : decode cX1_goesToNext 13 = .ok (.bipush 31, 2) := by decide +kernel
theorem dX1_goesToNext_15 : decode cX1_goesToNext 15 = .ok (.if_icmp .eq 13, 3) := by decide +kernel
theorem dX1_goesToNext_18 : decode cX1_goesToNext 18 = .ok (.iload_n 0, 1) := by decide +kernel
theorem dX1_goesToNext_19 : decode cX1_goesToNext 19 = .ok (.bipush 34, 2) := by decide +kernel
theorem dX1_goesToNext_21 : decode cX1_goesToNext 21 = .ok (.if_icmp .eq 7, 3) := by decide +kernel
theorem dX1_goesToNext_24 : decode cX1_goesToNext 24 = .ok (.iconst 1, 1) := by decide +kernel
theorem dX1_goesToNext_25 : decode cX1_goesToNext 25 = .ok (.goto 4, 3) := by decide +kernel
theorem dX1_goesToNext_28 : decode cX1_goesToNext 28 = .ok (.iconst 0, 1) := by decide +kernel
theorem dX1_goesToNext_29 : decode cX1_goesToNext 29 = .ok (.ireturn, 1) := by decide +kernel
