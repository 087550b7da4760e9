theorem dL_law_0 : decode cL_law 0 = .ok (.new 10, 3) := by decide +kernel
theorem dL_law_3 : decode cL_law 3 = .ok (.dup, 1) := by decide +kernel
theorem dL_law_4 : decode cL_law 4 = .ok (.invokespecial 156, 3) := by decide +kernel
theorem dL_law_7 : decode cL_law 7 = .ok (.astore_n 1, 1) := by decide +kernel
theorem dL_law_8 : decode cL_law 8 = .ok (.aload_n 1, 1) := by decide +kernel
theorem dL_law_9 : decode cL_law 9 = .ok (.aload_n 0, 1) := by decide +kernel
theorem dL_law_10 : decode cL_law 10 = .ok (.iconst 2, 1) := by decide +kernel
theorem dL_law_11 : decode cL_law 11 = .ok (.aload_n 0, 1) := by decide +kernel
theorem dL_law_12 : decode cL_law 12 = .ok (.iconst 0, 1) := by decide +kernel
theorem dL_law_13 : decode cL_law 13 = .ok (.invokestatic 148, 3) := by decide +kernel
theorem dL_law_16 : decode cL_law 16 = .ok (.iconst 4, 1) := by decide +kernel
theorem dL_law_17 : decode cL_law 17 = .ok (.invokestatic 129, 3) := by decide +kernel
theorem dL_law_20 : decode cL_law 20 = .ok (.iadd, 1) := by decide +kernel
theorem dL_law_21 : decode cL_law 21 = .ok (.invokestatic 157, 3) := by decide +kernel
theorem dL_law_24 : decode cL_law 24 = .ok (.istore_n 2, 1) := by decide +kernel
theorem dL_law_25 : decode cL_law 25 = .ok (.iconst 0, 1) := by decide +kernel
theorem dL_law_26 : decode cL_law 26 = .ok (.istore_n 3, 1) := by decide +kernel
theorem dL_law_27 : decode cL_law 27 = .ok (.iload_n 3, 1) := by decide +kernel
theorem dL_law_28 : decode cL_law 28 = .ok (.bipush 18, 2) := by decide +kernel
theorem dL_law_30 : decode cL_law 30 = .ok (.if_icmp .ge 336, 3) := by decide +kernel
theorem dL_law_33 : decode cL_law 33 = .ok (.iload_n 2, 1) := by decide +kernel
theorem dL_law_34 : decode cL_law 34 = .ok (.ifCond .eq 332, 3) := by decide +kernel
theorem dL_law_37 : decode cL_law 37 = .ok (.aload_n 0, 1) := by decide +kernel
theorem dL_law_38 : decode cL_law 38 = .ok (.iconst 2, 1) := by decide +kernel
theorem dL_law_39 : decode cL_law 39 = .ok (.iload_n 3, 1) := by decide +kernel
theorem dL_law_40 : decode cL_law 40 = .ok (.imul, 1) := by decide +kernel
theorem dL_law_41 : decode cL_law 41 = .ok (.bipush 10, 2) := by decide +kernel
theorem dL_law_43 : decode cL_law 43 = .ok (.iadd, 1) := by decide +kernel
theorem dL_law_44 : decode cL_law 44 = .ok (.invokestatic 148, 3) := by decide +kernel
theorem dL_law_47 : decode cL_law 47 = .ok (.istore 4, 2) := by decide +kernel
theorem dL_law_49 : decode cL_law 49 = .ok (.aload_n 0, 1) := by decide +kernel
theorem dL_law_50 : decode cL_law 50 = .ok (.iconst 2, 1) := by decide +kernel
theorem dL_law_51 : decode cL_law 51 = .ok (.iload_n 3, 1) := by decide +kernel
theorem dL_law_52 : decode cL_law 52 = .ok (.imul, 1) := by decide +kernel
theorem dL_law_53 : decode cL_law 53 = .ok (.bipush 11, 2) := by decide +kernel
theorem dL_law_55 : decode cL_law 55 = .ok (.iadd, 1) := by decide +kernel
theorem dL_law_56 : decode cL_law 56 = .ok (.invokestatic 148, 3) := by decide +kernel
theorem dL_law_59 : decode cL_law 59 = .ok (.istore 5, 2) := by decide +kernel
theorem dL_law_61 : decode cL_law 61 = .ok (.iload 4, 2) := by decide +kernel
theorem dL_law_63 : decode cL_law 63 = .ok (.iconst 4, 1) := by decide +kernel
theorem dL_law_64 : decode cL_law 64 = .ok (.ishr, 1) := by decide +kernel
theorem dL_law_65 : decode cL_law 65 = .ok (.bipush 17, 2) := by decide +kernel
theorem dL_law_67 : decode cL_law 67 = .ok (.invokestatic 129, 3) := by decide +kernel
theorem dL_law_70 : decode cL_law 70 = .ok (.istore 6, 2) := by decide +kernel
theorem dL_law_72 : decode cL_law 72 = .ok (.aload_n 1, 1) := by decide +kernel
theorem dL_law_73 : decode cL_law 73 = .ok (.bipush 27, 2) := by decide +kernel
theorem dL_law_75 : decode cL_law 75 = .ok (.lconst 0, 1) := by decide +kernel
theorem dL_law_76 : decode cL_law 76 = .ok (.iconst 0, 1) := by decide +kernel
theorem dL_law_77 : decode cL_law 77 = .ok (.invokestatic 125, 3) := by decide +kernel
theorem dL_law_80 : decode cL_law 80 = .ok (.l2i, 1) := by decide +kernel
theorem dL_law_81 : decode cL_law 81 = .ok (.istore 7, 2) := by decide +kernel
theorem dL_law_83 : decode cL_law 83 = .ok (.aload_n 1, 1) := by decide +kernel
theorem dL_law_84 : decode cL_law 84 = .ok (.bipush 27, 2) := by decide +kernel
theorem dL_law_86 : decode cL_law 86 = .ok (.ldc2_w 161, 3) := by decide +kernel
theorem dL_law_89 : decode cL_law 89 = .ok (.iconst 0, 1) := by decide +kernel
theorem dL_law_90 : decode cL_law 90 = .ok (.invokestatic 125, 3) := by decide +kernel
theorem dL_law_93 : decode cL_law 93 = .ok (.l2i, 1) := by decide +kernel
theorem dL_law_94 : decode cL_law 94 = .ok (.istore 8, 2) := by decide +kernel
theorem dL_law_96 : decode cL_law 96 = .ok (.iload 6, 2) := by decide +kernel
theorem dL_law_98 : decode cL_law 98 = .ok (.ifCond .ne 40, 3) := by decide +kernel
theorem dL_law_101 : decode cL_law 101 = .ok (.iload 7, 2) := by decide +kernel
theorem dL_law_103 : decode cL_law 103 = .ok (.iconst 5, 1) := by decide +kernel
theorem dL_law_104 : decode cL_law 104 = .ok (.if_icmp .le 34, 3) := by decide +kernel
theorem dL_law_107 : decode cL_law 107 = .ok (.aload_n 1, 1) := by decide +kernel
theorem dL_law_108 : decode cL_law 108 = .ok (.invokevirtual 163, 3) := by decide +kernel
theorem dL_law_111 : decode cL_law 111 = .ok (.iload 7, 2) := by decide +kernel
theorem dL_law_113 : decode cL_law 113 = .ok (.if_icmp .ne 20, 3) := by decide +kernel
theorem dL_law_116 : decode cL_law 116 = .ok (.aload_n 1, 1) := by decide +kernel
theorem dL_law_117 : decode cL_law 117 = .ok (.bipush 27, 2) := by decide +kernel
theorem dL_law_119 : decode cL_law 119 = .ok (.lconst 0, 1) := by decide +kernel
theorem dL_law_120 : decode cL_law 120 = .ok (.iconst 0, 1) := by decide +kernel
theorem dL_law_121 : decode cL_law 121 = .ok (.invokestatic 125, 3) := by decide +kernel
theorem dL_law_124 : decode cL_law 124 = .ok (.lconst 0, 1) := by decide +kernel
theorem dL_law_125 : decode cL_law 125 = .ok (.lcmp, 1) := by decide +kernel
theorem dL_law_126 : decode cL_law 126 = .ok (.ifCond .ne 7, 3) := by decide +kernel
theorem dL_law_129 : decode cL_law 129 = .ok (.iconst 1, 1) := by decide +kernel
theorem dL_law_130 : decode cL_law 130 = .ok (.goto 4, 3) := by decide +kernel
theorem dL_law_133 : decode cL_law 133 = .ok (.iconst 0, 1) := by decide +kernel
theorem dL_law_134 : decode cL_law 134 = .ok (.istore_n 2, 1) := by decide +kernel
theorem dL_law_135 : decode cL_law 135 = .ok (.goto 225, 3) := by decide +kernel
theorem dL_law_138 : decode cL_law 138 = .ok (.iload 6, 2) := by decide +kernel
theorem dL_law_140 : decode cL_law 140 = .ok (.bipush 10, 2) := by decide +kernel
theorem dL_law_142 : decode cL_law 142 = .ok (.if_icmp .ge 50, 3) := by decide +kernel
theorem dL_law_145 : decode cL_law 145 = .ok (.aload_n 1, 1) := by decide +kernel
theorem dL_law_146 : decode cL_law 146 = .ok (.invokestatic 167, 3) := by decide +kernel
theorem dL_law_149 : decode cL_law 149 = .ok (.astore 9, 2) := by decide +kernel
theorem dL_law_151 : decode cL_law 151 = .ok (.aload_n 1, 1) := by decide +kernel
theorem dL_law_152 : decode cL_law 152 = .ok (.iload 4, 2) := by decide +kernel
theorem dL_law_154 : decode cL_law 154 = .ok (.bipush 9, 2) := by decide +kernel
theorem dL_law_156 : decode cL_law 156 = .ok (.ishr, 1) := by decide +kernel
theorem dL_law_157 : decode cL_law 157 = .ok (.iload 5, 2) := by decide +kernel
theorem dL_law_159 : decode cL_law 159 = .ok (.iload 6, 2) := by decide +kernel
theorem dL_law_161 : decode cL_law 161 = .ok (.invokestatic 171, 3) := by decide +kernel
theorem dL_law_164 : decode cL_law 164 = .ok (.ldc2_w 175, 3) := by decide +kernel
theorem dL_law_167 : decode cL_law 167 = .ok (.lcmp, 1) := by decide +kernel
theorem dL_law_168 : decode cL_law 168 = .ok (.ifCond .gt 15, 3) := by decide +kernel
theorem dL_law_171 : decode cL_law 171 = .ok (.aload 9, 2) := by decide +kernel
theorem dL_law_173 : decode cL_law 173 = .ok (.aload_n 1, 1) := by decide +kernel
theorem dL_law_174 : decode cL_law 174 = .ok (.invokestatic 167, 3) := by decide +kernel
theorem dL_law_177 : decode cL_law 177 = .ok (.invokestatic 177, 3) := by decide +kernel
theorem dL_law_180 : decode cL_law 180 = .ok (.ifCond .eq 7, 3) := by decide +kernel
theorem dL_law_183 : decode cL_law 183 = .ok (.iconst 1, 1) := by decide +kernel
theorem dL_law_184 : decode cL_law 184 = .ok (.goto 4, 3) := by decide +kernel
theorem dL_law_187 : decode cL_law 187 = .ok (.iconst 0, 1) := by decide +kernel
theorem dL_law_188 : decode cL_law 188 = .ok (.istore_n 2, 1) := by decide +kernel
theorem dL_law_189 : decode cL_law 189 = .ok (.goto 171, 3) := by decide +kernel
theorem dL_law_192 : decode cL_law 192 = .ok (.iload 6, 2) := by decide +kernel
theorem dL_law_194 : decode cL_law 194 = .ok (.bipush 12, 2) := by decide +kernel
theorem dL_law_196 : decode cL_law 196 = .ok (.if_icmp .ge 20, 3) := by decide +kernel
theorem dL_law_199 : decode cL_law 199 = .ok (.aload_n 1, 1) := by decide +kernel
theorem dL_law_200 : decode cL_law 200 = .ok (.iload 4, 2) := by decide +kernel
theorem dL_law_202 : decode cL_law 202 = .ok (.bipush 9, 2) := by decide +kernel
theorem dL_law_204 : decode cL_law 204 = .ok (.ishr, 1) := by decide +kernel
theorem dL_law_205 : decode cL_law 205 = .ok (.iload 5, 2) := by decide +kernel
theorem dL_law_207 : decode cL_law 207 = .ok (.iload 8, 2) := by decide +kernel
theorem dL_law_209 : decode cL_law 209 = .ok (.invokestatic 181, 3) := by decide +kernel
theorem dL_law_212 : decode cL_law 212 = .ok (.istore_n 2, 1) := by decide +kernel
theorem dL_law_213 : decode cL_law 213 = .ok (.goto 147, 3) := by decide +kernel
theorem dL_law_216 : decode cL_law 216 = .ok (.iload 6, 2) := by decide +kernel
theorem dL_law_218 : decode cL_law 218 = .ok (.bipush 12, 2) := by decide +kernel
theorem dL_law_220 : decode cL_law 220 = .ok (.if_icmp .ne 42, 3) := by decide +kernel
theorem dL_law_223 : decode cL_law 223 = .ok (.aload_n 1, 1) := by decide +kernel
theorem dL_law_224 : decode cL_law 224 = .ok (.iload 5, 2) := by decide +kernel
theorem dL_law_226 : decode cL_law 226 = .ok (.bipush 7, 2) := by decide +kernel
theorem dL_law_228 : decode cL_law 228 = .ok (.invokestatic 129, 3) := by decide +kernel
theorem dL_law_231 : decode cL_law 231 = .ok (.ifCond .ne 16, 3) := by decide +kernel
theorem dL_law_234 : decode cL_law 234 = .ok (.iload 5, 2) := by decide +kernel
theorem dL_law_236 : decode cL_law 236 = .ok (.iconst 3, 1) := by decide +kernel
theorem dL_law_237 : decode cL_law 237 = .ok (.ishr, 1) := by decide +kernel
theorem dL_law_238 : decode cL_law 238 = .ok (.sipush 800, 3) := by decide +kernel
theorem dL_law_241 : decode cL_law 241 = .ok (.invokestatic 129, 3) := by decide +kernel
theorem dL_law_244 : decode cL_law 244 = .ok (.goto 11, 3) := by decide +kernel
theorem dL_law_247 : decode cL_law 247 = .ok (.iload 5, 2) := by decide +kernel
theorem dL_law_249 : decode cL_law 249 = .ok (.iconst 3, 1) := by decide +kernel
theorem dL_law_250 : decode cL_law 250 = .ok (.ishr, 1) := by decide +kernel
theorem dL_law_251 : decode cL_law 251 = .ok (.iconst 5, 1) := by decide +kernel
theorem dL_law_252 : decode cL_law 252 = .ok (.invokestatic 129, 3) := by decide +kernel
theorem dL_law_255 : decode cL_law 255 = .ok (.invokestatic 185, 3) := by decide +kernel
theorem dL_law_258 : decode cL_law 258 = .ok (.istore_n 2, 1) := by decide +kernel
theorem dL_law_259 : decode cL_law 259 = .ok (.goto 101, 3) := by decide +kernel
theorem dL_law_262 : decode cL_law 262 = .ok (.iload 6, 2) := by decide +kernel
theorem dL_law_264 : decode cL_law 264 = .ok (.bipush 13, 2) := by decide +kernel
theorem dL_law_266 : decode cL_law 266 = .ok (.if_icmp .ne 32, 3) := by decide +kernel
theorem dL_law_269 : decode cL_law 269 = .ok (.aload_n 1, 1) := by decide +kernel
theorem dL_law_270 : decode cL_law 270 = .ok (.iload 5, 2) := by decide +kernel
theorem dL_law_272 : decode cL_law 272 = .ok (.sipush 900, 3) := by decide +kernel
theorem dL_law_275 : decode cL_law 275 = .ok (.invokestatic 129, 3) := by decide +kernel
theorem dL_law_278 : decode cL_law 278 = .ok (.i2l, 1) := by decide +kernel
theorem dL_law_279 : decode cL_law 279 = .ok (.iconst 1, 1) := by decide +kernel
theorem dL_law_280 : decode cL_law 280 = .ok (.iload 5, 2) := by decide +kernel
theorem dL_law_282 : decode cL_law 282 = .ok (.bipush 10, 2) := by decide +kernel
theorem dL_law_284 : decode cL_law 284 = .ok (.ishr, 1) := by decide +kernel
theorem dL_law_285 : decode cL_law 285 = .ok (.bipush 6, 2) := by decide +kernel
theorem dL_law_287 : decode cL_law 287 = .ok (.invokestatic 129, 3) := by decide +kernel
theorem dL_law_290 : decode cL_law 290 = .ok (.iadd, 1) := by decide +kernel
theorem dL_law_291 : decode cL_law 291 = .ok (.invokestatic 189, 3) := by decide +kernel
theorem dL_law_294 : decode cL_law 294 = .ok (.istore_n 2, 1) := by decide +kernel
theorem dL_law_295 : decode cL_law 295 = .ok (.goto 65, 3) := by decide +kernel
theorem dL_law_298 : decode cL_law 298 = .ok (.iload 6, 2) := by decide +kernel
theorem dL_law_300 : decode cL_law 300 = .ok (.bipush 14, 2) := by decide +kernel
theorem dL_law_302 : decode cL_law 302 = .ok (.if_icmp .ne 37, 3) := by decide +kernel
theorem dL_law_305 : decode cL_law 305 = .ok (.aload_n 1, 1) := by decide +kernel
theorem dL_law_306 : decode cL_law 306 = .ok (.iload 5, 2) := by decide +kernel
theorem dL_law_308 : decode cL_law 308 = .ok (.iconst 3, 1) := by decide +kernel
theorem dL_law_309 : decode cL_law 309 = .ok (.invokestatic 129, 3) := by decide +kernel
theorem dL_law_312 : decode cL_law 312 = .ok (.ifCond .ne 7, 3) := by decide +kernel
theorem dL_law_315 : decode cL_law 315 = .ok (.lconst 0, 1) := by decide +kernel
theorem dL_law_316 : decode cL_law 316 = .ok (.goto 14, 3) := by decide +kernel
theorem dL_law_319 : decode cL_law 319 = .ok (.iload 5, 2) := by decide +kernel
theorem dL_law_321 : decode cL_law 321 = .ok (.iconst 2, 1) := by decide +kernel
theorem dL_law_322 : decode cL_law 322 = .ok (.ishr, 1) := by decide +kernel
theorem dL_law_323 : decode cL_law 323 = .ok (.sipush 1500, 3) := by decide +kernel
theorem dL_law_326 : decode cL_law 326 = .ok (.invokestatic 129, 3) := by decide +kernel
theorem dL_law_329 : decode cL_law 329 = .ok (.i2l, 1) := by decide +kernel
theorem dL_law_330 : decode cL_law 330 = .ok (.iload 7, 2) := by decide +kernel
theorem dL_law_332 : decode cL_law 332 = .ok (.invokestatic 193, 3) := by decide +kernel
theorem dL_law_335 : decode cL_law 335 = .ok (.istore_n 2, 1) := by decide +kernel
theorem dL_law_336 : decode cL_law 336 = .ok (.goto 24, 3) := by decide +kernel
theorem dL_law_339 : decode cL_law 339 = .ok (.iload 6, 2) := by decide +kernel
theorem dL_law_341 : decode cL_law 341 = .ok (.bipush 15, 2) := by decide +kernel
theorem dL_law_343 : decode cL_law 343 = .ok (.if_icmp .ne 12, 3) := by decide +kernel
theorem dL_law_346 : decode cL_law 346 = .ok (.aload_n 1, 1) := by decide +kernel
theorem dL_law_347 : decode cL_law 347 = .ok (.iload 7, 2) := by decide +kernel
theorem dL_law_349 : decode cL_law 349 = .ok (.invokestatic 196, 3) := by decide +kernel
theorem dL_law_352 : decode cL_law 352 = .ok (.goto 7, 3) := by decide +kernel
theorem dL_law_355 : decode cL_law 355 = .ok (.aload_n 1, 1) := by decide +kernel
theorem dL_law_356 : decode cL_law 356 = .ok (.invokestatic 199, 3) := by decide +kernel
theorem dL_law_359 : decode cL_law 359 = .ok (.istore_n 2, 1) := by decide +kernel
theorem dL_law_360 : decode cL_law 360 = .ok (.iinc 3 1, 3) := by decide +kernel
theorem dL_law_363 : decode cL_law 363 = .ok (.goto (-336), 3) := by decide +kernel
theorem dL_law_366 : decode cL_law 366 = .ok (.iload_n 2, 1) := by decide +kernel
theorem dL_law_367 : decode cL_law 367 = .ok (.ireturn, 1) := by decide +kernel
theorem dL_same_0 : decode cL_same 0 = .ok (.iconst 0, 1) := by decide +kernel
theorem dL_same_1 : decode cL_same 1 = .ok (.istore_n 2, 1) := by decide +kernel
theorem dL_same_2 : decode cL_same 2 = .ok (.iload_n 2, 1) := by decide +kernel
theorem dL_same_3 : decode cL_same 3 = .ok (.bipush 44, 2) := by decide +kernel
theorem dL_same_5 : decode cL_same 5 = .ok (.if_icmp .ge 21, 3) := by decide +kernel
theorem dL_same_8 : decode cL_same 8 = .ok (.aload_n 0, 1) := by decide +kernel
theorem dL_same_9 : decode cL_same 9 = .ok (.iload_n 2, 1) := by decide +kernel
theorem dL_same_10 : decode cL_same 10 = .ok (.laload, 1) := by decide +kernel
theorem dL_same_11 : decode cL_same 11 = .ok (.aload_n 1, 1) := by decide +kernel
theorem dL_same_12 : decode cL_same 12 = .ok (.iload_n 2, 1) := by decide +kernel
theorem dL_same_13 : decode cL_same 13 = .ok (.laload, 1) := by decide +kernel
theorem dL_same_14 : decode cL_same 14 = .ok (.lcmp, 1) := by decide +kernel
theorem dL_same_15 : decode cL_same 15 = .ok (.ifCond .eq 5, 3) := by decide +kernel
theorem dL_same_18 : decode cL_same 18 = .ok (.iconst 0, 1) := by decide +kernel
theorem dL_same_19 : decode cL_same 19 = .ok (.ireturn, 1) := by decide +kernel
theorem dL_same_20 : decode cL_same 20 = .ok (.iinc 2 1, 3) := by decide +kernel
theorem dL_same_23 : decode cL_same 23 = .ok (.goto (-21), 3) := by decide +kernel
theorem dL_same_26 : decode cL_same 26 = .ok (.iconst 1, 1) := by decide +kernel
theorem dL_same_27 : decode cL_same 27 = .ok (.ireturn, 1) := by decide +kernel
