theorem dL_does_0 : decode cL_does 0 = .ok (.lload_n 2, 1) := by decide +kernel
theorem dL_does_1 : decode cL_does 1 = .ok (.l2i, 1) := by decide +kernel
theorem dL_does_2 : decode cL_does 2 = .ok (.istore 7, 2) := by decide +kernel
theorem dL_does_4 : decode cL_does 4 = .ok (.iload_n 1, 1) := by decide +kernel
theorem dL_does_5 : decode cL_does 5 = .ok (.ifCond .ne 17, 3) := by decide +kernel
theorem dL_does_8 : decode cL_does 8 = .ok (.aload_n 0, 1) := by decide +kernel
theorem dL_does_9 : decode cL_does 9 = .ok (.iload 7, 2) := by decide +kernel
theorem dL_does_11 : decode cL_does 11 = .ok (.iload 4, 2) := by decide +kernel
theorem dL_does_13 : decode cL_does 13 = .ok (.iload 5, 2) := by decide +kernel
theorem dL_does_15 : decode cL_does 15 = .ok (.invokevirtual 9, 3) := by decide +kernel
theorem dL_does_18 : decode cL_does 18 = .ok (.i2l, 1) := by decide +kernel
theorem dL_does_19 : decode cL_does 19 = .ok (.goto 453, 3) := by decide +kernel
theorem dL_does_22 : decode cL_does 22 = .ok (.iload_n 1, 1) := by decide +kernel
theorem dL_does_23 : decode cL_does 23 = .ok (.iconst 1, 1) := by decide +kernel
theorem dL_does_24 : decode cL_does 24 = .ok (.if_icmp .ne 13, 3) := by decide +kernel
theorem dL_does_27 : decode cL_does 27 = .ok (.aload_n 0, 1) := by decide +kernel
theorem dL_does_28 : decode cL_does 28 = .ok (.iload 7, 2) := by decide +kernel
theorem dL_does_30 : decode cL_does 30 = .ok (.invokevirtual 15, 3) := by decide +kernel
theorem dL_does_33 : decode cL_does 33 = .ok (.i2l, 1) := by decide +kernel
theorem dL_does_34 : decode cL_does 34 = .ok (.goto 438, 3) := by decide +kernel
theorem dL_does_37 : decode cL_does 37 = .ok (.iload_n 1, 1) := by decide +kernel
theorem dL_does_38 : decode cL_does 38 = .ok (.iconst 2, 1) := by decide +kernel
theorem dL_does_39 : decode cL_does 39 = .ok (.if_icmp .ne 17, 3) := by decide +kernel
theorem dL_does_42 : decode cL_does 42 = .ok (.aload_n 0, 1) := by decide +kernel
theorem dL_does_43 : decode cL_does 43 = .ok (.iload 7, 2) := by decide +kernel
theorem dL_does_45 : decode cL_does 45 = .ok (.iload 4, 2) := by decide +kernel
theorem dL_does_47 : decode cL_does 47 = .ok (.iload 5, 2) := by decide +kernel
theorem dL_does_49 : decode cL_does 49 = .ok (.invokevirtual 19, 3) := by decide +kernel
theorem dL_does_52 : decode cL_does 52 = .ok (.i2l, 1) := by decide +kernel
theorem dL_does_53 : decode cL_does 53 = .ok (.goto 419, 3) := by decide +kernel
theorem dL_does_56 : decode cL_does 56 = .ok (.iload_n 1, 1) := by decide +kernel
theorem dL_does_57 : decode cL_does 57 = .ok (.iconst 3, 1) := by decide +kernel
theorem dL_does_58 : decode cL_does 58 = .ok (.if_icmp .ne 19, 3) := by decide +kernel
theorem dL_does_61 : decode cL_does 61 = .ok (.aload_n 0, 1) := by decide +kernel
theorem dL_does_62 : decode cL_does 62 = .ok (.iload 7, 2) := by decide +kernel
theorem dL_does_64 : decode cL_does 64 = .ok (.iload 4, 2) := by decide +kernel
theorem dL_does_66 : decode cL_does 66 = .ok (.iload 5, 2) := by decide +kernel
theorem dL_does_68 : decode cL_does 68 = .ok (.iload 6, 2) := by decide +kernel
theorem dL_does_70 : decode cL_does 70 = .ok (.invokevirtual 22, 3) := by decide +kernel
theorem dL_does_73 : decode cL_does 73 = .ok (.i2l, 1) := by decide +kernel
theorem dL_does_74 : decode cL_does 74 = .ok (.goto 398, 3) := by decide +kernel
theorem dL_does_77 : decode cL_does 77 = .ok (.iload_n 1, 1) := by decide +kernel
theorem dL_does_78 : decode cL_does 78 = .ok (.iconst 4, 1) := by decide +kernel
theorem dL_does_79 : decode cL_does 79 = .ok (.if_icmp .ne 19, 3) := by decide +kernel
theorem dL_does_82 : decode cL_does 82 = .ok (.aload_n 0, 1) := by decide +kernel
theorem dL_does_83 : decode cL_does 83 = .ok (.iload 7, 2) := by decide +kernel
theorem dL_does_85 : decode cL_does 85 = .ok (.iload 4, 2) := by decide +kernel
theorem dL_does_87 : decode cL_does 87 = .ok (.iload 5, 2) := by decide +kernel
theorem dL_does_89 : decode cL_does 89 = .ok (.iload 6, 2) := by decide +kernel
theorem dL_does_91 : decode cL_does 91 = .ok (.invokevirtual 26, 3) := by decide +kernel
theorem dL_does_94 : decode cL_does 94 = .ok (.i2l, 1) := by decide +kernel
theorem dL_does_95 : decode cL_does 95 = .ok (.goto 377, 3) := by decide +kernel
theorem dL_does_98 : decode cL_does 98 = .ok (.iload_n 1, 1) := by decide +kernel
theorem dL_does_99 : decode cL_does 99 = .ok (.iconst 5, 1) := by decide +kernel
theorem dL_does_100 : decode cL_does 100 = .ok (.if_icmp .ne 14, 3) := by decide +kernel
theorem dL_does_103 : decode cL_does 103 = .ok (.aload_n 0, 1) := by decide +kernel
theorem dL_does_104 : decode cL_does 104 = .ok (.iload 7, 2) := by decide +kernel
theorem dL_does_106 : decode cL_does 106 = .ok (.i2c, 1) := by decide +kernel
theorem dL_does_107 : decode cL_does 107 = .ok (.invokevirtual 29, 3) := by decide +kernel
theorem dL_does_110 : decode cL_does 110 = .ok (.i2l, 1) := by decide +kernel
theorem dL_does_111 : decode cL_does 111 = .ok (.goto 361, 3) := by decide +kernel
theorem dL_does_114 : decode cL_does 114 = .ok (.iload_n 1, 1) := by decide +kernel
theorem dL_does_115 : decode cL_does 115 = .ok (.bipush 6, 2) := by decide +kernel
theorem dL_does_117 : decode cL_does 117 = .ok (.if_icmp .ne 13, 3) := by decide +kernel
theorem dL_does_120 : decode cL_does 120 = .ok (.aload_n 0, 1) := by decide +kernel
theorem dL_does_121 : decode cL_does 121 = .ok (.iload 7, 2) := by decide +kernel
theorem dL_does_123 : decode cL_does 123 = .ok (.invokevirtual 33, 3) := by decide +kernel
theorem dL_does_126 : decode cL_does 126 = .ok (.i2l, 1) := by decide +kernel
theorem dL_does_127 : decode cL_does 127 = .ok (.goto 345, 3) := by decide +kernel
theorem dL_does_130 : decode cL_does 130 = .ok (.iload_n 1, 1) := by decide +kernel
theorem dL_does_131 : decode cL_does 131 = .ok (.bipush 7, 2) := by decide +kernel
theorem dL_does_133 : decode cL_does 133 = .ok (.if_icmp .ne 15, 3) := by decide +kernel
theorem dL_does_136 : decode cL_does 136 = .ok (.aload_n 0, 1) := by decide +kernel
theorem dL_does_137 : decode cL_does 137 = .ok (.iload 7, 2) := by decide +kernel
theorem dL_does_139 : decode cL_does 139 = .ok (.iload 4, 2) := by decide +kernel
theorem dL_does_141 : decode cL_does 141 = .ok (.invokevirtual 36, 3) := by decide +kernel
theorem dL_does_144 : decode cL_does 144 = .ok (.i2l, 1) := by decide +kernel
theorem dL_does_145 : decode cL_does 145 = .ok (.goto 327, 3) := by decide +kernel
theorem dL_does_148 : decode cL_does 148 = .ok (.iload_n 1, 1) := by decide +kernel
theorem dL_does_149 : decode cL_does 149 = .ok (.bipush 8, 2) := by decide +kernel
theorem dL_does_151 : decode cL_does 151 = .ok (.if_icmp .ne 17, 3) := by decide +kernel
theorem dL_does_154 : decode cL_does 154 = .ok (.aload_n 0, 1) := by decide +kernel
theorem dL_does_155 : decode cL_does 155 = .ok (.iload 7, 2) := by decide +kernel
theorem dL_does_157 : decode cL_does 157 = .ok (.iload 4, 2) := by decide +kernel
theorem dL_does_159 : decode cL_does 159 = .ok (.iload 5, 2) := by decide +kernel
theorem dL_does_161 : decode cL_does 161 = .ok (.invokevirtual 40, 3) := by decide +kernel
theorem dL_does_164 : decode cL_does 164 = .ok (.i2l, 1) := by decide +kernel
theorem dL_does_165 : decode cL_does 165 = .ok (.goto 307, 3) := by decide +kernel
theorem dL_does_168 : decode cL_does 168 = .ok (.iload_n 1, 1) := by decide +kernel
theorem dL_does_169 : decode cL_does 169 = .ok (.bipush 9, 2) := by decide +kernel
theorem dL_does_171 : decode cL_does 171 = .ok (.if_icmp .ne 16, 3) := by decide +kernel
theorem dL_does_174 : decode cL_does 174 = .ok (.aload_n 0, 1) := by decide +kernel
theorem dL_does_175 : decode cL_does 175 = .ok (.iload 7, 2) := by decide +kernel
theorem dL_does_177 : decode cL_does 177 = .ok (.iload 4, 2) := by decide +kernel
theorem dL_does_179 : decode cL_does 179 = .ok (.iload 5, 2) := by decide +kernel
theorem dL_does_181 : decode cL_does 181 = .ok (.invokevirtual 43, 3) := by decide +kernel
theorem dL_does_184 : decode cL_does 184 = .ok (.goto 288, 3) := by decide +kernel
theorem dL_does_187 : decode cL_does 187 = .ok (.iload_n 1, 1) := by decide +kernel
theorem dL_does_188 : decode cL_does 188 = .ok (.bipush 10, 2) := by decide +kernel
theorem dL_does_190 : decode cL_does 190 = .ok (.if_icmp .ne 16, 3) := by decide +kernel
theorem dL_does_193 : decode cL_does 193 = .ok (.aload_n 0, 1) := by decide +kernel
theorem dL_does_194 : decode cL_does 194 = .ok (.iload 7, 2) := by decide +kernel
theorem dL_does_196 : decode cL_does 196 = .ok (.iload 4, 2) := by decide +kernel
theorem dL_does_198 : decode cL_does 198 = .ok (.iload 5, 2) := by decide +kernel
theorem dL_does_200 : decode cL_does 200 = .ok (.invokevirtual 47, 3) := by decide +kernel
theorem dL_does_203 : decode cL_does 203 = .ok (.goto 269, 3) := by decide +kernel
theorem dL_does_206 : decode cL_does 206 = .ok (.iload_n 1, 1) := by decide +kernel
theorem dL_does_207 : decode cL_does 207 = .ok (.bipush 11, 2) := by decide +kernel
theorem dL_does_209 : decode cL_does 209 = .ok (.if_icmp .ne 13, 3) := by decide +kernel
theorem dL_does_212 : decode cL_does 212 = .ok (.aload_n 0, 1) := by decide +kernel
theorem dL_does_213 : decode cL_does 213 = .ok (.iload 7, 2) := by decide +kernel
theorem dL_does_215 : decode cL_does 215 = .ok (.invokevirtual 50, 3) := by decide +kernel
theorem dL_does_218 : decode cL_does 218 = .ok (.i2l, 1) := by decide +kernel
theorem dL_does_219 : decode cL_does 219 = .ok (.goto 253, 3) := by decide +kernel
theorem dL_does_222 : decode cL_does 222 = .ok (.iload_n 1, 1) := by decide +kernel
theorem dL_does_223 : decode cL_does 223 = .ok (.bipush 12, 2) := by decide +kernel
theorem dL_does_225 : decode cL_does 225 = .ok (.if_icmp .ne 13, 3) := by decide +kernel
theorem dL_does_228 : decode cL_does 228 = .ok (.aload_n 0, 1) := by decide +kernel
theorem dL_does_229 : decode cL_does 229 = .ok (.iload 7, 2) := by decide +kernel
theorem dL_does_231 : decode cL_does 231 = .ok (.invokevirtual 53, 3) := by decide +kernel
theorem dL_does_234 : decode cL_does 234 = .ok (.i2l, 1) := by decide +kernel
theorem dL_does_235 : decode cL_does 235 = .ok (.goto 237, 3) := by decide +kernel
theorem dL_does_238 : decode cL_does 238 = .ok (.iload_n 1, 1) := by decide +kernel
theorem dL_does_239 : decode cL_does 239 = .ok (.bipush 13, 2) := by decide +kernel
theorem dL_does_241 : decode cL_does 241 = .ok (.if_icmp .ne 13, 3) := by decide +kernel
theorem dL_does_244 : decode cL_does 244 = .ok (.aload_n 0, 1) := by decide +kernel
theorem dL_does_245 : decode cL_does 245 = .ok (.iload 7, 2) := by decide +kernel
theorem dL_does_247 : decode cL_does 247 = .ok (.invokevirtual 56, 3) := by decide +kernel
theorem dL_does_250 : decode cL_does 250 = .ok (.i2l, 1) := by decide +kernel
theorem dL_does_251 : decode cL_does 251 = .ok (.goto 221, 3) := by decide +kernel
theorem dL_does_254 : decode cL_does 254 = .ok (.iload_n 1, 1) := by decide +kernel
theorem dL_does_255 : decode cL_does 255 = .ok (.bipush 14, 2) := by decide +kernel
theorem dL_does_257 : decode cL_does 257 = .ok (.if_icmp .ne 14, 3) := by decide +kernel
theorem dL_does_260 : decode cL_does 260 = .ok (.aload_n 0, 1) := by decide +kernel
theorem dL_does_261 : decode cL_does 261 = .ok (.iload 7, 2) := by decide +kernel
theorem dL_does_263 : decode cL_does 263 = .ok (.iload 4, 2) := by decide +kernel
theorem dL_does_265 : decode cL_does 265 = .ok (.invokevirtual 59, 3) := by decide +kernel
theorem dL_does_268 : decode cL_does 268 = .ok (.goto 204, 3) := by decide +kernel
theorem dL_does_271 : decode cL_does 271 = .ok (.iload_n 1, 1) := by decide +kernel
theorem dL_does_272 : decode cL_does 272 = .ok (.bipush 15, 2) := by decide +kernel
theorem dL_does_274 : decode cL_does 274 = .ok (.if_icmp .ne 12, 3) := by decide +kernel
theorem dL_does_277 : decode cL_does 277 = .ok (.aload_n 0, 1) := by decide +kernel
theorem dL_does_278 : decode cL_does 278 = .ok (.iload 7, 2) := by decide +kernel
theorem dL_does_280 : decode cL_does 280 = .ok (.invokevirtual 63, 3) := by decide +kernel
theorem dL_does_283 : decode cL_does 283 = .ok (.goto 189, 3) := by decide +kernel
theorem dL_does_286 : decode cL_does 286 = .ok (.iload_n 1, 1) := by decide +kernel
theorem dL_does_287 : decode cL_does 287 = .ok (.bipush 16, 2) := by decide +kernel
theorem dL_does_289 : decode cL_does 289 = .ok (.if_icmp .ne 12, 3) := by decide +kernel
theorem dL_does_292 : decode cL_does 292 = .ok (.aload_n 0, 1) := by decide +kernel
theorem dL_does_293 : decode cL_does 293 = .ok (.iload 7, 2) := by decide +kernel
theorem dL_does_295 : decode cL_does 295 = .ok (.invokevirtual 67, 3) := by decide +kernel
theorem dL_does_298 : decode cL_does 298 = .ok (.goto 174, 3) := by decide +kernel
theorem dL_does_301 : decode cL_does 301 = .ok (.iload_n 1, 1) := by decide +kernel
theorem dL_does_302 : decode cL_does 302 = .ok (.bipush 17, 2) := by decide +kernel
theorem dL_does_304 : decode cL_does 304 = .ok (.if_icmp .ne 13, 3) := by decide +kernel
theorem dL_does_307 : decode cL_does 307 = .ok (.aload_n 0, 1) := by decide +kernel
theorem dL_does_308 : decode cL_does 308 = .ok (.iload 7, 2) := by decide +kernel
theorem dL_does_310 : decode cL_does 310 = .ok (.invokevirtual 70, 3) := by decide +kernel
theorem dL_does_313 : decode cL_does 313 = .ok (.i2l, 1) := by decide +kernel
theorem dL_does_314 : decode cL_does 314 = .ok (.goto 158, 3) := by decide +kernel
theorem dL_does_317 : decode cL_does 317 = .ok (.iload_n 1, 1) := by decide +kernel
theorem dL_does_318 : decode cL_does 318 = .ok (.bipush 18, 2) := by decide +kernel
theorem dL_does_320 : decode cL_does 320 = .ok (.if_icmp .ne 15, 3) := by decide +kernel
theorem dL_does_323 : decode cL_does 323 = .ok (.aload_n 0, 1) := by decide +kernel
theorem dL_does_324 : decode cL_does 324 = .ok (.lload_n 2, 1) := by decide +kernel
theorem dL_does_325 : decode cL_does 325 = .ok (.iload 4, 2) := by decide +kernel
theorem dL_does_327 : decode cL_does 327 = .ok (.iload 5, 2) := by decide +kernel
theorem dL_does_329 : decode cL_does 329 = .ok (.invokevirtual 73, 3) := by decide +kernel
theorem dL_does_332 : decode cL_does 332 = .ok (.goto 140, 3) := by decide +kernel
theorem dL_does_335 : decode cL_does 335 = .ok (.iload_n 1, 1) := by decide +kernel
theorem dL_does_336 : decode cL_does 336 = .ok (.bipush 19, 2) := by decide +kernel
theorem dL_does_338 : decode cL_does 338 = .ok (.if_icmp .ne 12, 3) := by decide +kernel
theorem dL_does_341 : decode cL_does 341 = .ok (.aload_n 0, 1) := by decide +kernel
theorem dL_does_342 : decode cL_does 342 = .ok (.lload_n 2, 1) := by decide +kernel
theorem dL_does_343 : decode cL_does 343 = .ok (.invokevirtual 77, 3) := by decide +kernel
theorem dL_does_346 : decode cL_does 346 = .ok (.i2l, 1) := by decide +kernel
theorem dL_does_347 : decode cL_does 347 = .ok (.goto 125, 3) := by decide +kernel
theorem dL_does_350 : decode cL_does 350 = .ok (.iload_n 1, 1) := by decide +kernel
theorem dL_does_351 : decode cL_does 351 = .ok (.bipush 20, 2) := by decide +kernel
theorem dL_does_353 : decode cL_does 353 = .ok (.if_icmp .ne 15, 3) := by decide +kernel
theorem dL_does_356 : decode cL_does 356 = .ok (.aload_n 0, 1) := by decide +kernel
theorem dL_does_357 : decode cL_does 357 = .ok (.lload_n 2, 1) := by decide +kernel
theorem dL_does_358 : decode cL_does 358 = .ok (.iload 4, 2) := by decide +kernel
theorem dL_does_360 : decode cL_does 360 = .ok (.iload 5, 2) := by decide +kernel
theorem dL_does_362 : decode cL_does 362 = .ok (.invokevirtual 81, 3) := by decide +kernel
theorem dL_does_365 : decode cL_does 365 = .ok (.goto 107, 3) := by decide +kernel
theorem dL_does_368 : decode cL_does 368 = .ok (.iload_n 1, 1) := by decide +kernel
theorem dL_does_369 : decode cL_does 369 = .ok (.bipush 21, 2) := by decide +kernel
theorem dL_does_371 : decode cL_does 371 = .ok (.if_icmp .ne 12, 3) := by decide +kernel
theorem dL_does_374 : decode cL_does 374 = .ok (.aload_n 0, 1) := by decide +kernel
theorem dL_does_375 : decode cL_does 375 = .ok (.iload 7, 2) := by decide +kernel
theorem dL_does_377 : decode cL_does 377 = .ok (.invokevirtual 84, 3) := by decide +kernel
theorem dL_does_380 : decode cL_does 380 = .ok (.goto 92, 3) := by decide +kernel
theorem dL_does_383 : decode cL_does 383 = .ok (.iload_n 1, 1) := by decide +kernel
theorem dL_does_384 : decode cL_does 384 = .ok (.bipush 22, 2) := by decide +kernel
theorem dL_does_386 : decode cL_does 386 = .ok (.if_icmp .ne 14, 3) := by decide +kernel
theorem dL_does_389 : decode cL_does 389 = .ok (.aload_n 0, 1) := by decide +kernel
theorem dL_does_390 : decode cL_does 390 = .ok (.lload_n 2, 1) := by decide +kernel
theorem dL_does_391 : decode cL_does 391 = .ok (.iload 4, 2) := by decide +kernel
theorem dL_does_393 : decode cL_does 393 = .ok (.invokevirtual 87, 3) := by decide +kernel
theorem dL_does_396 : decode cL_does 396 = .ok (.i2l, 1) := by decide +kernel
theorem dL_does_397 : decode cL_does 397 = .ok (.goto 75, 3) := by decide +kernel
theorem dL_does_400 : decode cL_does 400 = .ok (.iload_n 1, 1) := by decide +kernel
theorem dL_does_401 : decode cL_does 401 = .ok (.bipush 23, 2) := by decide +kernel
theorem dL_does_403 : decode cL_does 403 = .ok (.if_icmp .ne 15, 3) := by decide +kernel
theorem dL_does_406 : decode cL_does 406 = .ok (.aload_n 0, 1) := by decide +kernel
theorem dL_does_407 : decode cL_does 407 = .ok (.iload 7, 2) := by decide +kernel
theorem dL_does_409 : decode cL_does 409 = .ok (.iload 4, 2) := by decide +kernel
theorem dL_does_411 : decode cL_does 411 = .ok (.invokevirtual 91, 3) := by decide +kernel
theorem dL_does_414 : decode cL_does 414 = .ok (.i2l, 1) := by decide +kernel
theorem dL_does_415 : decode cL_does 415 = .ok (.goto 57, 3) := by decide +kernel
theorem dL_does_418 : decode cL_does 418 = .ok (.iload_n 1, 1) := by decide +kernel
theorem dL_does_419 : decode cL_does 419 = .ok (.bipush 24, 2) := by decide +kernel
theorem dL_does_421 : decode cL_does 421 = .ok (.if_icmp .ne 13, 3) := by decide +kernel
theorem dL_does_424 : decode cL_does 424 = .ok (.aload_n 0, 1) := by decide +kernel
theorem dL_does_425 : decode cL_does 425 = .ok (.iload 7, 2) := by decide +kernel
theorem dL_does_427 : decode cL_does 427 = .ok (.invokevirtual 94, 3) := by decide +kernel
theorem dL_does_430 : decode cL_does 430 = .ok (.i2l, 1) := by decide +kernel
theorem dL_does_431 : decode cL_does 431 = .ok (.goto 41, 3) := by decide +kernel
theorem dL_does_434 : decode cL_does 434 = .ok (.iload_n 1, 1) := by decide +kernel
theorem dL_does_435 : decode cL_does 435 = .ok (.bipush 25, 2) := by decide +kernel
theorem dL_does_437 : decode cL_does 437 = .ok (.if_icmp .ne 10, 3) := by decide +kernel
theorem dL_does_440 : decode cL_does 440 = .ok (.aload_n 0, 1) := by decide +kernel
theorem dL_does_441 : decode cL_does 441 = .ok (.invokevirtual 97, 3) := by decide +kernel
theorem dL_does_444 : decode cL_does 444 = .ok (.goto 28, 3) := by decide +kernel
theorem dL_does_447 : decode cL_does 447 = .ok (.iload_n 1, 1) := by decide +kernel
theorem dL_does_448 : decode cL_does 448 = .ok (.bipush 26, 2) := by decide +kernel
theorem dL_does_450 : decode cL_does 450 = .ok (.if_icmp .ne 15, 3) := by decide +kernel
theorem dL_does_453 : decode cL_does 453 = .ok (.aload_n 0, 1) := by decide +kernel
theorem dL_does_454 : decode cL_does 454 = .ok (.iload 7, 2) := by decide +kernel
theorem dL_does_456 : decode cL_does 456 = .ok (.iload 4, 2) := by decide +kernel
theorem dL_does_458 : decode cL_does 458 = .ok (.invokevirtual 101, 3) := by decide +kernel
theorem dL_does_461 : decode cL_does 461 = .ok (.i2l, 1) := by decide +kernel
theorem dL_does_462 : decode cL_does 462 = .ok (.goto 10, 3) := by decide +kernel
theorem dL_does_465 : decode cL_does 465 = .ok (.aload_n 0, 1) := by decide +kernel
theorem dL_does_466 : decode cL_does 466 = .ok (.iload 7, 2) := by decide +kernel
theorem dL_does_468 : decode cL_does 468 = .ok (.invokevirtual 104, 3) := by decide +kernel
theorem dL_does_471 : decode cL_does 471 = .ok (.i2l, 1) := by decide +kernel
theorem dL_does_472 : decode cL_does 472 = .ok (.lreturn, 1) := by decide +kernel
theorem dL_does_473 : decode cL_does 473 = .ok (.astore 8, 2) := by decide +kernel
theorem dL_does_475 : decode cL_does 475 = .ok (.ldc2_w 109, 3) := by decide +kernel
theorem dL_does_478 : decode cL_does 478 = .ok (.lreturn, 1) := by decide +kernel
theorem dL_does_479 : decode cL_does 479 = .ok (.astore 8, 2) := by decide +kernel
theorem dL_does_481 : decode cL_does 481 = .ok (.ldc2_w 113, 3) := by decide +kernel
theorem dL_does_484 : decode cL_does 484 = .ok (.lreturn, 1) := by decide +kernel
theorem dL_does_485 : decode cL_does 485 = .ok (.astore 8, 2) := by decide +kernel
theorem dL_does_487 : decode cL_does 487 = .ok (.ldc2_w 117, 3) := by decide +kernel
theorem dL_does_490 : decode cL_does 490 = .ok (.lreturn, 1) := by decide +kernel
theorem w_does_x {κ : zK} {a : Nat → Nat} {L : List (Nat × Value)} {pc lam mc ms e : Nat} {s : z_St} {r : Int × z_St} (hp1 : 4 ≤ pc) (hp2 : pc < 472) (hc : z_C κ RL cL_does 9 lam mc ms) (he : z_EH 1 1 κ hL_does (some .long) z_T z_N a r.1 r.2) (h : (e = 3 ∧ r = (-1002, s)) ∨ (e = 1 ∧ r = (-1003, s)) ∨ (e = 2 ∧ r = (-1004, s))) : z_VX κ z_T z_N a 1 6 pc L (z_en e) s := by
  refine z_subX ?_
  have hcv : ∀ {x y : Nat}, covers ⟨4, 472, x, y⟩ pc = true := fun {x y} => by simp [covers]; omega
  rcases h with ⟨rfl, rfl⟩ | ⟨rfl, rfl⟩ | ⟨rfl, rfl⟩
  · refine z_catch (e9 := 3) [] ⟨4, 472, 473, 107⟩ [⟨4, 472, 479, 111⟩, ⟨4, 472, 485, 115⟩] hc he rfl (by decide) (fun z hz => nomatch hz) hcv (by decide) cl_RL_107 (fun q9 => ?_)
    refine z_astore [(8, .ref q9)] hc dL_does_473 (by decide) rfl ?_
    refine z_ldc2 (-1002) hc kc_RL_109 dL_does_475 rfl ?_
    exact z_retUJ hc he.u dL_does_478
  · refine z_catch (e9 := 1) [⟨4, 472, 473, 107⟩] ⟨4, 472, 479, 111⟩ [⟨4, 472, 485, 115⟩] hc he rfl (by decide) (fun z hz => by
      rcases List.mem_cons.mp hz with e | hz
      · subst e; exact ⟨3, by decide, by decide, cl_RL_107, by decide⟩
      · cases hz) hcv (by decide) cl_RL_111 (fun q9 => ?_)
    refine z_astore [(8, .ref q9)] hc dL_does_479 (by decide) rfl ?_
    refine z_ldc2 (-1003) hc kc_RL_113 dL_does_481 rfl ?_
    exact z_retUJ hc he.u dL_does_484
  · refine z_catch (e9 := 2) [⟨4, 472, 473, 107⟩, ⟨4, 472, 479, 111⟩] ⟨4, 472, 485, 115⟩ [] hc he rfl (by decide) (fun z hz => by
      rcases List.mem_cons.mp hz with e | hz
      · subst e; exact ⟨3, by decide, by decide, cl_RL_107, by decide⟩
      · rcases List.mem_cons.mp hz with e | hz
        · subst e; exact ⟨1, by decide, by decide, cl_RL_111, by decide⟩
        · cases hz) hcv (by decide) cl_RL_115 (fun q9 => ?_)
    refine z_astore [(8, .ref q9)] hc dL_does_485 (by decide) rfl ?_
    refine z_ldc2 (-1004) hc kc_RL_117 dL_does_487 rfl ?_
    exact z_retUJ hc he.u dL_does_490
noncomputable def J_L_does_472 (s0 : Int) (st : z_St) : Option (Int × z_St) :=
  some (s0, st)
set_option maxRecDepth 100000 in
set_option maxHeartbeats 4000000 in
theorem w_L_does_472 {κ : zK} {a : Nat → Nat} {s0 : Int} {st : z_St} {o : Int × z_St} (hc : z_C κ RL cL_does 9 26 1 (6 * 1)) (hap : z_AP κ a z_N) (he : z_EH 1 1 κ hL_does (some .long) z_T z_N a o.1 o.2) (h : J_L_does_472 s0 st = some o) : z_V κ z_T z_N a 0 (6 * 0) 472 [] [.long (zJ s0)] st := by
  unfold J_L_does_472 at h
  refine z_wide (cells' := 1) (slots' := 6 * 1) (Nat.le_of_ble_eq_true rfl) (Nat.le_of_ble_eq_true rfl) ?_
  have h := Option.some.inj h
  subst h
  exact z_retUJ hc he.u dL_does_472
noncomputable def J_L_does (x1 x2 x4 x5 x6 : Int) (st : z_St) : Option (Int × z_St) :=
  z_g (z32 x1) (if x1 = 0 then
    z_xd (J_X11_frame x2 x4 x5 st) fun r1 =>
      z_let (z_gh r1.2) fun st2 =>
      z_g (z32 r1.1) <|
      J_L_does_472 r1.1 st2
  else
    z_g (z32 x1 ∧ z32 1) (if x1 = 1 then
      z_xd (J_X11_speak x2 st) fun r3 =>
        z_let (z_gh r3.2) fun st4 =>
        z_g (z32 r3.1) <|
        J_L_does_472 r3.1 st4
    else
      z_g (z32 x1 ∧ z32 2) (if x1 = 2 then
        z_xd (J_X11_shift x2 x4 x5 st) fun r5 =>
          z_let (z_gh r5.2) fun st6 =>
          z_g (z32 r5.1) <|
          J_L_does_472 r5.1 st6
      else
        z_g (z32 x1 ∧ z32 3) (if x1 = 3 then
          z_xd (J_X11_sound x2 x4 x5 x6 st) fun r7 =>
            z_let (z_gh r7.2) fun st8 =>
            z_g (z32 r7.1) <|
            J_L_does_472 r7.1 st8
        else
          z_g (z32 x1 ∧ z32 4) (if x1 = 4 then
            z_xd (J_X11_question x2 x4 x5 x6 st) fun r9 =>
              z_let (z_gh r9.2) fun st10 =>
              z_g (z32 r9.1) <|
              J_L_does_472 r9.1 st10
          else
            z_g (z32 x1 ∧ z32 5) (if x1 = 5 then
              z_xd (J_X11_type (z_i2cv x2) st) fun r11 =>
                z_let (z_gh r11.2) fun st12 =>
                z_g (z32 r11.1) <|
                J_L_does_472 r11.1 st12
            else
              z_g (z32 x1 ∧ z32 6) (if x1 = 6 then
                z_xd (J_X11_word x2 st) fun r13 =>
                  z_let (z_gh r13.2) fun st14 =>
                  z_g (z32 r13.1) <|
                  J_L_does_472 r13.1 st14
              else
                z_g (z32 x1 ∧ z32 7) (if x1 = 7 then
                  z_xd (J_X11_saying x2 x4 st) fun r15 =>
                    z_let (z_gh r15.2) fun st16 =>
                    z_g (z32 r15.1) <|
                    J_L_does_472 r15.1 st16
                else
                  z_g (z32 x1 ∧ z32 8) (if x1 = 8 then
                    z_xd (J_X11_form x2 x4 x5 st) fun r17 =>
                      z_g (z32 r17) <|
                      J_L_does_472 r17 st
                  else
                    z_g (z32 x1 ∧ z32 9) (if x1 = 9 then
                      z_xd (J_X11_cost x2 x4 x5 st) fun r18 =>
                        J_L_does_472 r18 st
                    else
                      z_g (z32 x1 ∧ z32 10) (if x1 = 10 then
                        z_xd (J_X11_over x2 x4 x5 st) fun r19 =>
                          J_L_does_472 r19.1 r19.2
                      else
                        z_g (z32 x1 ∧ z32 11) (if x1 = 11 then
                          z_xd (J_X11_learn x2 st) fun r20 =>
                            z_let (z_gh r20.2) fun st21 =>
                            z_g (z32 r20.1) <|
                            J_L_does_472 r20.1 st21
                        else
                          z_g (z32 x1 ∧ z32 12) (if x1 = 12 then
                            z_xd (J_X11_back x2 st) fun r22 =>
                              z_let (z_gh r22.2) fun st23 =>
                              z_g (z32 r22.1) <|
                              J_L_does_472 r22.1 st23
                          else
                            z_g (z32 x1 ∧ z32 13) (if x1 = 13 then
                              z_xd (J_X11_factor x2 st) fun r24 =>
                                z_let (z_gh r24.2) fun st25 =>
                                z_g (z32 r24.1) <|
                                J_L_does_472 r24.1 st25
                            else
                              z_g (z32 x1 ∧ z32 14) (if x1 = 14 then
                                z_xd (J_X11_price x2 x4 st) fun r26 =>
                                  J_L_does_472 r26 st
                              else
                                z_g (z32 x1 ∧ z32 15) (if x1 = 15 then
                                  z_xd (J_X11_weight x2 st) fun r27 =>
                                    J_L_does_472 r27.1 r27.2
                                else
                                  z_g (z32 x1 ∧ z32 16) (if x1 = 16 then
                                    z_xd (J_X11_weightAnew x2 st) fun r28 =>
                                      J_L_does_472 r28.1 r28.2
                                  else
                                    z_g (z32 x1 ∧ z32 17) (if x1 = 17 then
                                      z_xd (J_X11_best x2 st) fun r29 =>
                                        z_g (z32 r29.1) <|
                                        J_L_does_472 r29.1 r29.2
                                    else
                                      z_g (z32 x1 ∧ z32 18) (if x1 = 18 then
                                        z_xd (J_X11_found x2 x4 x5 st) fun r30 =>
                                          J_L_does_472 r30.1 r30.2
                                      else
                                        z_g (z32 x1 ∧ z32 19) (if x1 = 19 then
                                          z_xd (J_X11_arcs x2 st) fun r31 =>
                                            z_g (z32 r31.1) <|
                                            J_L_does_472 r31.1 r31.2
                                        else
                                          z_g (z32 x1 ∧ z32 20) (if x1 = 20 then
                                            z_xd (J_X11_arc x2 x4 x5 st) fun r32 =>
                                              J_L_does_472 r32.1 r32.2
                                          else
                                            z_g (z32 x1 ∧ z32 21) (if x1 = 21 then
                                              z_xd (J_X11_keyword x2 st) fun r33 =>
                                                J_L_does_472 r33.1 r33.2
                                            else
                                              z_g (z32 x1 ∧ z32 22) (if x1 = 22 then
                                                z_xd (J_X11_sure x2 x4 st) fun r34 =>
                                                  z_g (z32 r34.1) <|
                                                  J_L_does_472 r34.1 r34.2
                                              else
                                                z_g (z32 x1 ∧ z32 23) (if x1 = 23 then
                                                  z_xd (J_X11_path x2 x4 st) fun r35 =>
                                                    z_g (z32 r35.1) <|
                                                    J_L_does_472 r35.1 r35.2
                                                else
                                                  z_g (z32 x1 ∧ z32 24) (if x1 = 24 then
                                                    z_xd (J_X11_errors x2 st) fun r36 =>
                                                      z_g (z32 r36.1) <|
                                                      J_L_does_472 r36.1 r36.2
                                                  else
                                                    z_g (z32 x1 ∧ z32 25) (if x1 = 25 then
                                                      z_xd (J_X11_fit st) fun r37 =>
                                                        z_let (z_gh r37.2) fun st38 =>
                                                        J_L_does_472 r37.1 st38
                                                    else
                                                      z_g (z32 x1 ∧ z32 26) (if x1 = 26 then
                                                        z_xd (J_X11_shiftOf x2 x4 st) fun r39 =>
                                                          z_g (z32 r39) <|
                                                          J_L_does_472 r39 st
                                                      else
                                                        z_xd (J_X11_sum x2 st) fun r40 =>
                                                          z_g (z32 r40.1) <|
                                                          J_L_does_472 r40.1 r40.2)))))))))))))))))))))))))))
set_option maxRecDepth 100000 in
set_option maxHeartbeats 4000000 in
theorem w_L_does {κ : zK} {a : Nat → Nat} {x1 x2 x4 x5 x6 : Int} {st : z_St} {o : Int × z_St} (hc : z_C κ RL cL_does 9 26 1 (6 * 1)) (hap : z_AP κ a z_N) (he : z_EH 1 1 κ hL_does (some .long) z_T z_N a o.1 o.2) (h : J_L_does x1 x2 x4 x5 x6 st = some o) : z_V κ z_T z_N a 0 (6 * 0) 0 [(0, .ref (a 0)), (1, .int (zI x1)), (2, .long (zJ x2)), (4, .int (zI x4)), (5, .int (zI x5)), (6, .int (zI x6))] [] st := by
  unfold J_L_does at h
  refine z_lload_n (i := 2) 2 hc dL_does_0 rfl rfl ?_
  refine z_l2i hc dL_does_1 ?_
  refine z_istore [(7, .int (zI x2)), (0, .ref (a 0)), (1, .int (zI x1)), (2, .long (zJ x2)), (4, .int (zI x4)), (5, .int (zI x5)), (6, .int (zI x6))] hc dL_does_2 (by decide) rfl ?_
  refine z_iload_n (i := 1) 2 hc dL_does_4 rfl rfl ?_
  refine z_if_ne (tgt := 22) hc dL_does_5 (by decide) h (fun c5 h => ?_) (fun c5 h => ?_)
  · refine z_aload_n (i := 0) 1 hc dL_does_8 rfl rfl ?_
    refine z_iload 0 hc dL_does_9 rfl ?_
    refine z_iload 4 hc dL_does_11 rfl ?_
    refine z_iload 5 hc dL_does_13 rfl ?_
    rcases z_xd_cases h with ⟨r1, hr1, h⟩ | ⟨e9, s9, hr1, h9⟩
    · refine z_xcallVI [.int (zI x2), .int (zI x4), .int (zI x5)] hc hap o_X11_frame ml_RL_9 (fun l hl => c_X11_frame_r hl hr1) (by decide) tT_0 (by decide) ⟨_, rfl, rfl⟩ rfl rfl (Nat.le_of_ble_eq_true rfl) (Nat.zero_le _) (Nat.zero_le _) dL_does_15 ?_
      refine z_V_gh h (fun st2 h => ?_)
      refine z_i2l hc dL_does_18 h (fun h => ?_)
      refine z_goto (tgt := 472) hc dL_does_19 (by decide) ?_
      refine z_sub [] [] rfl ?_
      exact w_L_does_472 hc hap he h
    · refine z_xthrV (kd := 0) [.int (zI x2), .int (zI x4), .int (zI x5)] hc hap o_X11_frame ml_RL_9 (fun l hl => c_X11_frame_t hl hr1) (by decide) tT_0 (by decide) ⟨_, rfl, rfl⟩ rfl rfl (Nat.le_of_ble_eq_true rfl) (Nat.le_refl 1) (Nat.le_refl 6) dL_does_15 ?_
      exact w_does_x (by decide) (by decide) hc he h9
  · refine z_iload_n (i := 1) 2 hc dL_does_22 rfl rfl ?_
    refine z_iconst hc dL_does_23 ?_
    refine z_icmp_ne (tgt := 37) hc dL_does_24 (by decide) h (fun c24 h => ?_) (fun c24 h => ?_)
    · refine z_aload_n (i := 0) 1 hc dL_does_27 rfl rfl ?_
      refine z_iload 0 hc dL_does_28 rfl ?_
      rcases z_xd_cases h with ⟨r3, hr3, h⟩ | ⟨e9, s9, hr3, h9⟩
      · refine z_xcallVI [.int (zI x2)] hc hap o_X11_speak ml_RL_15 (fun l hl => c_X11_speak_r hl hr3) (by decide) tT_0 (by decide) ⟨_, rfl, rfl⟩ rfl rfl (Nat.le_of_ble_eq_true rfl) (Nat.zero_le _) (Nat.zero_le _) dL_does_30 ?_
        refine z_V_gh h (fun st4 h => ?_)
        refine z_i2l hc dL_does_33 h (fun h => ?_)
        refine z_goto (tgt := 472) hc dL_does_34 (by decide) ?_
        refine z_sub [] [] rfl ?_
        exact w_L_does_472 hc hap he h
      · refine z_xthrV (kd := 0) [.int (zI x2)] hc hap o_X11_speak ml_RL_15 (fun l hl => c_X11_speak_t hl hr3) (by decide) tT_0 (by decide) ⟨_, rfl, rfl⟩ rfl rfl (Nat.le_of_ble_eq_true rfl) (Nat.le_refl 1) (Nat.le_refl 6) dL_does_30 ?_
        exact w_does_x (by decide) (by decide) hc he h9
    · refine z_iload_n (i := 1) 2 hc dL_does_37 rfl rfl ?_
      refine z_iconst hc dL_does_38 ?_
      refine z_icmp_ne (tgt := 56) hc dL_does_39 (by decide) h (fun c39 h => ?_) (fun c39 h => ?_)
      · refine z_aload_n (i := 0) 1 hc dL_does_42 rfl rfl ?_
        refine z_iload 0 hc dL_does_43 rfl ?_
        refine z_iload 4 hc dL_does_45 rfl ?_
        refine z_iload 5 hc dL_does_47 rfl ?_
        rcases z_xd_cases h with ⟨r5, hr5, h⟩ | ⟨e9, s9, hr5, h9⟩
        · refine z_xcallVI [.int (zI x2), .int (zI x4), .int (zI x5)] hc hap o_X11_shift ml_RL_19 (fun l hl => c_X11_shift_r hl hr5) (by decide) tT_0 (by decide) ⟨_, rfl, rfl⟩ rfl rfl (Nat.le_of_ble_eq_true rfl) (Nat.zero_le _) (Nat.zero_le _) dL_does_49 ?_
          refine z_V_gh h (fun st6 h => ?_)
          refine z_i2l hc dL_does_52 h (fun h => ?_)
          refine z_goto (tgt := 472) hc dL_does_53 (by decide) ?_
          refine z_sub [] [] rfl ?_
          exact w_L_does_472 hc hap he h
        · refine z_xthrV (kd := 0) [.int (zI x2), .int (zI x4), .int (zI x5)] hc hap o_X11_shift ml_RL_19 (fun l hl => c_X11_shift_t hl hr5) (by decide) tT_0 (by decide) ⟨_, rfl, rfl⟩ rfl rfl (Nat.le_of_ble_eq_true rfl) (Nat.le_refl 1) (Nat.le_refl 6) dL_does_49 ?_
          exact w_does_x (by decide) (by decide) hc he h9
      · refine z_iload_n (i := 1) 2 hc dL_does_56 rfl rfl ?_
        refine z_iconst hc dL_does_57 ?_
        refine z_icmp_ne (tgt := 77) hc dL_does_58 (by decide) h (fun c58 h => ?_) (fun c58 h => ?_)
        · refine z_aload_n (i := 0) 1 hc dL_does_61 rfl rfl ?_
          refine z_iload 0 hc dL_does_62 rfl ?_
          refine z_iload 4 hc dL_does_64 rfl ?_
          refine z_iload 5 hc dL_does_66 rfl ?_
          refine z_iload 6 hc dL_does_68 rfl ?_
          rcases z_xd_cases h with ⟨r7, hr7, h⟩ | ⟨e9, s9, hr7, h9⟩
          · refine z_xcallVI [.int (zI x2), .int (zI x4), .int (zI x5), .int (zI x6)] hc hap o_X11_sound ml_RL_22 (fun l hl => c_X11_sound_r hl hr7) (by decide) tT_0 (by decide) ⟨_, rfl, rfl⟩ rfl rfl (Nat.le_of_ble_eq_true rfl) (Nat.zero_le _) (Nat.zero_le _) dL_does_70 ?_
            refine z_V_gh h (fun st8 h => ?_)
            refine z_i2l hc dL_does_73 h (fun h => ?_)
            refine z_goto (tgt := 472) hc dL_does_74 (by decide) ?_
            refine z_sub [] [] rfl ?_
            exact w_L_does_472 hc hap he h
          · refine z_xthrV (kd := 0) [.int (zI x2), .int (zI x4), .int (zI x5), .int (zI x6)] hc hap o_X11_sound ml_RL_22 (fun l hl => c_X11_sound_t hl hr7) (by decide) tT_0 (by decide) ⟨_, rfl, rfl⟩ rfl rfl (Nat.le_of_ble_eq_true rfl) (Nat.le_refl 1) (Nat.le_refl 6) dL_does_70 ?_
            exact w_does_x (by decide) (by decide) hc he h9
        · refine z_iload_n (i := 1) 2 hc dL_does_77 rfl rfl ?_
          refine z_iconst hc dL_does_78 ?_
          refine z_icmp_ne (tgt := 98) hc dL_does_79 (by decide) h (fun c79 h => ?_) (fun c79 h => ?_)
          · refine z_aload_n (i := 0) 1 hc dL_does_82 rfl rfl ?_
            refine z_iload 0 hc dL_does_83 rfl ?_
            refine z_iload 4 hc dL_does_85 rfl ?_
            refine z_iload 5 hc dL_does_87 rfl ?_
            refine z_iload 6 hc dL_does_89 rfl ?_
            rcases z_xd_cases h with ⟨r9, hr9, h⟩ | ⟨e9, s9, hr9, h9⟩
            · refine z_xcallVI [.int (zI x2), .int (zI x4), .int (zI x5), .int (zI x6)] hc hap o_X11_question ml_RL_26 (fun l hl => c_X11_question_r hl hr9) (by decide) tT_0 (by decide) ⟨_, rfl, rfl⟩ rfl rfl (Nat.le_of_ble_eq_true rfl) (Nat.zero_le _) (Nat.zero_le _) dL_does_91 ?_
              refine z_V_gh h (fun st10 h => ?_)
              refine z_i2l hc dL_does_94 h (fun h => ?_)
              refine z_goto (tgt := 472) hc dL_does_95 (by decide) ?_
              refine z_sub [] [] rfl ?_
              exact w_L_does_472 hc hap he h
            · refine z_xthrV (kd := 0) [.int (zI x2), .int (zI x4), .int (zI x5), .int (zI x6)] hc hap o_X11_question ml_RL_26 (fun l hl => c_X11_question_t hl hr9) (by decide) tT_0 (by decide) ⟨_, rfl, rfl⟩ rfl rfl (Nat.le_of_ble_eq_true rfl) (Nat.le_refl 1) (Nat.le_refl 6) dL_does_91 ?_
              exact w_does_x (by decide) (by decide) hc he h9
          · refine z_iload_n (i := 1) 2 hc dL_does_98 rfl rfl ?_
            refine z_iconst hc dL_does_99 ?_
            refine z_icmp_ne (tgt := 114) hc dL_does_100 (by decide) h (fun c100 h => ?_) (fun c100 h => ?_)
            · refine z_aload_n (i := 0) 1 hc dL_does_103 rfl rfl ?_
              refine z_iload 0 hc dL_does_104 rfl ?_
              refine z_i2c_r hc dL_does_106 ?_
              rcases z_xd_cases h with ⟨r11, hr11, h⟩ | ⟨e9, s9, hr11, h9⟩
              · refine z_xcallVI [.int (zI (z_i2cv x2))] hc hap o_X11_type ml_RL_29 (fun l hl => c_X11_type_r hl hr11) (by decide) tT_0 (by decide) ⟨_, rfl, rfl⟩ rfl rfl (Nat.le_of_ble_eq_true rfl) (Nat.zero_le _) (Nat.zero_le _) dL_does_107 ?_
                refine z_V_gh h (fun st12 h => ?_)
                refine z_i2l hc dL_does_110 h (fun h => ?_)
                refine z_goto (tgt := 472) hc dL_does_111 (by decide) ?_
                refine z_sub [] [] rfl ?_
                exact w_L_does_472 hc hap he h
              · refine z_xthrV (kd := 0) [.int (zI (z_i2cv x2))] hc hap o_X11_type ml_RL_29 (fun l hl => c_X11_type_t hl hr11) (by decide) tT_0 (by decide) ⟨_, rfl, rfl⟩ rfl rfl (Nat.le_of_ble_eq_true rfl) (Nat.le_refl 1) (Nat.le_refl 6) dL_does_107 ?_
                exact w_does_x (by decide) (by decide) hc he h9
            · refine z_iload_n (i := 1) 2 hc dL_does_114 rfl rfl ?_
              refine z_bipush hc dL_does_115 rfl ?_
              refine z_icmp_ne (tgt := 130) hc dL_does_117 (by decide) h (fun c117 h => ?_) (fun c117 h => ?_)
              · refine z_aload_n (i := 0) 1 hc dL_does_120 rfl rfl ?_
                refine z_iload 0 hc dL_does_121 rfl ?_
                rcases z_xd_cases h with ⟨r13, hr13, h⟩ | ⟨e9, s9, hr13, h9⟩
                · refine z_xcallVI [.int (zI x2)] hc hap o_X11_word ml_RL_33 (fun l hl => c_X11_word_r hl hr13) (by decide) tT_0 (by decide) ⟨_, rfl, rfl⟩ rfl rfl (Nat.le_of_ble_eq_true rfl) (Nat.zero_le _) (Nat.zero_le _) dL_does_123 ?_
                  refine z_V_gh h (fun st14 h => ?_)
                  refine z_i2l hc dL_does_126 h (fun h => ?_)
                  refine z_goto (tgt := 472) hc dL_does_127 (by decide) ?_
                  refine z_sub [] [] rfl ?_
                  exact w_L_does_472 hc hap he h
                · refine z_xthrV (kd := 0) [.int (zI x2)] hc hap o_X11_word ml_RL_33 (fun l hl => c_X11_word_t hl hr13) (by decide) tT_0 (by decide) ⟨_, rfl, rfl⟩ rfl rfl (Nat.le_of_ble_eq_true rfl) (Nat.le_refl 1) (Nat.le_refl 6) dL_does_123 ?_
                  exact w_does_x (by decide) (by decide) hc he h9
              · refine z_iload_n (i := 1) 2 hc dL_does_130 rfl rfl ?_
                refine z_bipush hc dL_does_131 rfl ?_
                refine z_icmp_ne (tgt := 148) hc dL_does_133 (by decide) h (fun c133 h => ?_) (fun c133 h => ?_)
                · refine z_aload_n (i := 0) 1 hc dL_does_136 rfl rfl ?_
                  refine z_iload 0 hc dL_does_137 rfl ?_
                  refine z_iload 4 hc dL_does_139 rfl ?_
                  rcases z_xd_cases h with ⟨r15, hr15, h⟩ | ⟨e9, s9, hr15, h9⟩
                  · refine z_xcallVI [.int (zI x2), .int (zI x4)] hc hap o_X11_saying ml_RL_36 (fun l hl => c_X11_saying_r hl hr15) (by decide) tT_0 (by decide) ⟨_, rfl, rfl⟩ rfl rfl (Nat.le_of_ble_eq_true rfl) (Nat.zero_le _) (Nat.zero_le _) dL_does_141 ?_
                    refine z_V_gh h (fun st16 h => ?_)
                    refine z_i2l hc dL_does_144 h (fun h => ?_)
                    refine z_goto (tgt := 472) hc dL_does_145 (by decide) ?_
                    refine z_sub [] [] rfl ?_
                    exact w_L_does_472 hc hap he h
                  · refine z_xthrV (kd := 0) [.int (zI x2), .int (zI x4)] hc hap o_X11_saying ml_RL_36 (fun l hl => c_X11_saying_t hl hr15) (by decide) tT_0 (by decide) ⟨_, rfl, rfl⟩ rfl rfl (Nat.le_of_ble_eq_true rfl) (Nat.le_refl 1) (Nat.le_refl 6) dL_does_141 ?_
                    exact w_does_x (by decide) (by decide) hc he h9
                · refine z_iload_n (i := 1) 2 hc dL_does_148 rfl rfl ?_
                  refine z_bipush hc dL_does_149 rfl ?_
                  refine z_icmp_ne (tgt := 168) hc dL_does_151 (by decide) h (fun c151 h => ?_) (fun c151 h => ?_)
                  · refine z_aload_n (i := 0) 1 hc dL_does_154 rfl rfl ?_
                    refine z_iload 0 hc dL_does_155 rfl ?_
                    refine z_iload 4 hc dL_does_157 rfl ?_
                    refine z_iload 5 hc dL_does_159 rfl ?_
                    rcases z_xd_cases h with ⟨r17, hr17, h⟩ | ⟨e9, s9, hr17, h9⟩
                    · refine z_xcallVI [.int (zI x2), .int (zI x4), .int (zI x5)] hc hap o_X11_form ml_RL_40 (fun l hl => c_X11_form_r hl hr17) (by decide) tT_0 (by decide) ⟨_, rfl, rfl⟩ rfl rfl (Nat.le_of_ble_eq_true rfl) (Nat.zero_le _) (Nat.zero_le _) dL_does_161 ?_
                      refine z_i2l hc dL_does_164 h (fun h => ?_)
                      refine z_goto (tgt := 472) hc dL_does_165 (by decide) ?_
                      refine z_sub [] [] rfl ?_
                      exact w_L_does_472 hc hap he h
                    · refine z_xthrV (kd := 0) [.int (zI x2), .int (zI x4), .int (zI x5)] hc hap o_X11_form ml_RL_40 (fun l hl => c_X11_form_t hl hr17) (by decide) tT_0 (by decide) ⟨_, rfl, rfl⟩ rfl rfl (Nat.le_of_ble_eq_true rfl) (Nat.le_refl 1) (Nat.le_refl 6) dL_does_161 ?_
                      exact w_does_x (by decide) (by decide) hc he h9
                  · refine z_iload_n (i := 1) 2 hc dL_does_168 rfl rfl ?_
                    refine z_bipush hc dL_does_169 rfl ?_
                    refine z_icmp_ne (tgt := 187) hc dL_does_171 (by decide) h (fun c171 h => ?_) (fun c171 h => ?_)
                    · refine z_aload_n (i := 0) 1 hc dL_does_174 rfl rfl ?_
                      refine z_iload 0 hc dL_does_175 rfl ?_
                      refine z_iload 4 hc dL_does_177 rfl ?_
                      refine z_iload 5 hc dL_does_179 rfl ?_
                      rcases z_xd_cases h with ⟨r18, hr18, h⟩ | ⟨e9, s9, hr18, h9⟩
                      · refine z_xcallVJ [.int (zI x2), .int (zI x4), .int (zI x5)] hc hap o_X11_cost ml_RL_43 (fun l hl => c_X11_cost_r hl hr18) (by decide) tT_0 (by decide) ⟨_, rfl, rfl⟩ rfl rfl (Nat.le_of_ble_eq_true rfl) (Nat.zero_le _) (Nat.zero_le _) dL_does_181 ?_
                        refine z_goto (tgt := 472) hc dL_does_184 (by decide) ?_
                        refine z_sub [] [] rfl ?_
                        exact w_L_does_472 hc hap he h
                      · refine z_xthrV (kd := 1) [.int (zI x2), .int (zI x4), .int (zI x5)] hc hap o_X11_cost ml_RL_43 (fun l hl => c_X11_cost_t hl hr18) (by decide) tT_0 (by decide) ⟨_, rfl, rfl⟩ rfl rfl (Nat.le_of_ble_eq_true rfl) (Nat.le_refl 1) (Nat.le_refl 6) dL_does_181 ?_
                        exact w_does_x (by decide) (by decide) hc he h9
                    · refine z_iload_n (i := 1) 2 hc dL_does_187 rfl rfl ?_
                      refine z_bipush hc dL_does_188 rfl ?_
                      refine z_icmp_ne (tgt := 206) hc dL_does_190 (by decide) h (fun c190 h => ?_) (fun c190 h => ?_)
                      · refine z_aload_n (i := 0) 1 hc dL_does_193 rfl rfl ?_
                        refine z_iload 0 hc dL_does_194 rfl ?_
                        refine z_iload 4 hc dL_does_196 rfl ?_
                        refine z_iload 5 hc dL_does_198 rfl ?_
                        rcases z_xd_cases h with ⟨r19, hr19, h⟩ | ⟨e9, s9, hr19, h9⟩
                        · refine z_xcallVJ [.int (zI x2), .int (zI x4), .int (zI x5)] hc hap o_X11_over ml_RL_47 (fun l hl => c_X11_over_r hl hr19) (by decide) tT_0 (by decide) ⟨_, rfl, rfl⟩ rfl rfl (Nat.le_of_ble_eq_true rfl) (Nat.zero_le _) (Nat.zero_le _) dL_does_200 ?_
                          refine z_goto (tgt := 472) hc dL_does_203 (by decide) ?_
                          refine z_sub [] [] rfl ?_
                          exact w_L_does_472 hc hap he h
                        · refine z_xthrV (kd := 1) [.int (zI x2), .int (zI x4), .int (zI x5)] hc hap o_X11_over ml_RL_47 (fun l hl => c_X11_over_t hl hr19) (by decide) tT_0 (by decide) ⟨_, rfl, rfl⟩ rfl rfl (Nat.le_of_ble_eq_true rfl) (Nat.le_refl 1) (Nat.le_refl 6) dL_does_200 ?_
                          exact w_does_x (by decide) (by decide) hc he h9
                      · refine z_iload_n (i := 1) 2 hc dL_does_206 rfl rfl ?_
                        refine z_bipush hc dL_does_207 rfl ?_
                        refine z_icmp_ne (tgt := 222) hc dL_does_209 (by decide) h (fun c209 h => ?_) (fun c209 h => ?_)
                        · refine z_aload_n (i := 0) 1 hc dL_does_212 rfl rfl ?_
                          refine z_iload 0 hc dL_does_213 rfl ?_
                          rcases z_xd_cases h with ⟨r20, hr20, h⟩ | ⟨e9, s9, hr20, h9⟩
                          · refine z_xcallVI [.int (zI x2)] hc hap o_X11_learn ml_RL_50 (fun l hl => c_X11_learn_r hl hr20) (by decide) tT_0 (by decide) ⟨_, rfl, rfl⟩ rfl rfl (Nat.le_of_ble_eq_true rfl) (Nat.zero_le _) (Nat.zero_le _) dL_does_215 ?_
                            refine z_V_gh h (fun st21 h => ?_)
                            refine z_i2l hc dL_does_218 h (fun h => ?_)
                            refine z_goto (tgt := 472) hc dL_does_219 (by decide) ?_
                            refine z_sub [] [] rfl ?_
                            exact w_L_does_472 hc hap he h
                          · refine z_xthrV (kd := 0) [.int (zI x2)] hc hap o_X11_learn ml_RL_50 (fun l hl => c_X11_learn_t hl hr20) (by decide) tT_0 (by decide) ⟨_, rfl, rfl⟩ rfl rfl (Nat.le_of_ble_eq_true rfl) (Nat.le_refl 1) (Nat.le_refl 6) dL_does_215 ?_
                            exact w_does_x (by decide) (by decide) hc he h9
                        · refine z_iload_n (i := 1) 2 hc dL_does_222 rfl rfl ?_
                          refine z_bipush hc dL_does_223 rfl ?_
                          refine z_icmp_ne (tgt := 238) hc dL_does_225 (by decide) h (fun c225 h => ?_) (fun c225 h => ?_)
                          · refine z_aload_n (i := 0) 1 hc dL_does_228 rfl rfl ?_
                            refine z_iload 0 hc dL_does_229 rfl ?_
                            rcases z_xd_cases h with ⟨r22, hr22, h⟩ | ⟨e9, s9, hr22, h9⟩
                            · refine z_xcallVI [.int (zI x2)] hc hap o_X11_back ml_RL_53 (fun l hl => c_X11_back_r hl hr22) (by decide) tT_0 (by decide) ⟨_, rfl, rfl⟩ rfl rfl (Nat.le_of_ble_eq_true rfl) (Nat.zero_le _) (Nat.zero_le _) dL_does_231 ?_
                              refine z_V_gh h (fun st23 h => ?_)
                              refine z_i2l hc dL_does_234 h (fun h => ?_)
                              refine z_goto (tgt := 472) hc dL_does_235 (by decide) ?_
                              refine z_sub [] [] rfl ?_
                              exact w_L_does_472 hc hap he h
                            · refine z_xthrV (kd := 0) [.int (zI x2)] hc hap o_X11_back ml_RL_53 (fun l hl => c_X11_back_t hl hr22) (by decide) tT_0 (by decide) ⟨_, rfl, rfl⟩ rfl rfl (Nat.le_of_ble_eq_true rfl) (Nat.le_refl 1) (Nat.le_refl 6) dL_does_231 ?_
                              exact w_does_x (by decide) (by decide) hc he h9
                          · refine z_iload_n (i := 1) 2 hc dL_does_238 rfl rfl ?_
                            refine z_bipush hc dL_does_239 rfl ?_
                            refine z_icmp_ne (tgt := 254) hc dL_does_241 (by decide) h (fun c241 h => ?_) (fun c241 h => ?_)
                            · refine z_aload_n (i := 0) 1 hc dL_does_244 rfl rfl ?_
                              refine z_iload 0 hc dL_does_245 rfl ?_
                              rcases z_xd_cases h with ⟨r24, hr24, h⟩ | ⟨e9, s9, hr24, h9⟩
                              · refine z_xcallVI [.int (zI x2)] hc hap o_X11_factor ml_RL_56 (fun l hl => c_X11_factor_r hl hr24) (by decide) tT_0 (by decide) ⟨_, rfl, rfl⟩ rfl rfl (Nat.le_of_ble_eq_true rfl) (Nat.zero_le _) (Nat.zero_le _) dL_does_247 ?_
                                refine z_V_gh h (fun st25 h => ?_)
                                refine z_i2l hc dL_does_250 h (fun h => ?_)
                                refine z_goto (tgt := 472) hc dL_does_251 (by decide) ?_
                                refine z_sub [] [] rfl ?_
                                exact w_L_does_472 hc hap he h
                              · refine z_xthrV (kd := 0) [.int (zI x2)] hc hap o_X11_factor ml_RL_56 (fun l hl => c_X11_factor_t hl hr24) (by decide) tT_0 (by decide) ⟨_, rfl, rfl⟩ rfl rfl (Nat.le_of_ble_eq_true rfl) (Nat.le_refl 1) (Nat.le_refl 6) dL_does_247 ?_
                                exact w_does_x (by decide) (by decide) hc he h9
                            · refine z_iload_n (i := 1) 2 hc dL_does_254 rfl rfl ?_
                              refine z_bipush hc dL_does_255 rfl ?_
                              refine z_icmp_ne (tgt := 271) hc dL_does_257 (by decide) h (fun c257 h => ?_) (fun c257 h => ?_)
                              · refine z_aload_n (i := 0) 1 hc dL_does_260 rfl rfl ?_
                                refine z_iload 0 hc dL_does_261 rfl ?_
                                refine z_iload 4 hc dL_does_263 rfl ?_
                                rcases z_xd_cases h with ⟨r26, hr26, h⟩ | ⟨e9, s9, hr26, h9⟩
                                · refine z_xcallVJ [.int (zI x2), .int (zI x4)] hc hap o_X11_price ml_RL_59 (fun l hl => c_X11_price_r hl hr26) (by decide) tT_0 (by decide) ⟨_, rfl, rfl⟩ rfl rfl (Nat.le_of_ble_eq_true rfl) (Nat.zero_le _) (Nat.zero_le _) dL_does_265 ?_
                                  refine z_goto (tgt := 472) hc dL_does_268 (by decide) ?_
                                  refine z_sub [] [] rfl ?_
                                  exact w_L_does_472 hc hap he h
                                · refine z_xthrV (kd := 1) [.int (zI x2), .int (zI x4)] hc hap o_X11_price ml_RL_59 (fun l hl => c_X11_price_t hl hr26) (by decide) tT_0 (by decide) ⟨_, rfl, rfl⟩ rfl rfl (Nat.le_of_ble_eq_true rfl) (Nat.le_refl 1) (Nat.le_refl 6) dL_does_265 ?_
                                  exact w_does_x (by decide) (by decide) hc he h9
                              · refine z_iload_n (i := 1) 2 hc dL_does_271 rfl rfl ?_
                                refine z_bipush hc dL_does_272 rfl ?_
                                refine z_icmp_ne (tgt := 286) hc dL_does_274 (by decide) h (fun c274 h => ?_) (fun c274 h => ?_)
                                · refine z_aload_n (i := 0) 1 hc dL_does_277 rfl rfl ?_
                                  refine z_iload 0 hc dL_does_278 rfl ?_
                                  rcases z_xd_cases h with ⟨r27, hr27, h⟩ | ⟨e9, s9, hr27, h9⟩
                                  · refine z_xcallVJ [.int (zI x2)] hc hap o_X11_weight ml_RL_63 (fun l hl => c_X11_weight_r hl hr27) (by decide) tT_0 (by decide) ⟨_, rfl, rfl⟩ rfl rfl (Nat.le_of_ble_eq_true rfl) (Nat.zero_le _) (Nat.zero_le _) dL_does_280 ?_
                                    refine z_goto (tgt := 472) hc dL_does_283 (by decide) ?_
                                    refine z_sub [] [] rfl ?_
                                    exact w_L_does_472 hc hap he h
                                  · refine z_xthrV (kd := 1) [.int (zI x2)] hc hap o_X11_weight ml_RL_63 (fun l hl => c_X11_weight_t hl hr27) (by decide) tT_0 (by decide) ⟨_, rfl, rfl⟩ rfl rfl (Nat.le_of_ble_eq_true rfl) (Nat.le_refl 1) (Nat.le_refl 6) dL_does_280 ?_
                                    exact w_does_x (by decide) (by decide) hc he h9
                                · refine z_iload_n (i := 1) 2 hc dL_does_286 rfl rfl ?_
                                  refine z_bipush hc dL_does_287 rfl ?_
                                  refine z_icmp_ne (tgt := 301) hc dL_does_289 (by decide) h (fun c289 h => ?_) (fun c289 h => ?_)
                                  · refine z_aload_n (i := 0) 1 hc dL_does_292 rfl rfl ?_
                                    refine z_iload 0 hc dL_does_293 rfl ?_
                                    rcases z_xd_cases h with ⟨r28, hr28, h⟩ | ⟨e9, s9, hr28, h9⟩
                                    · refine z_xcallVJ [.int (zI x2)] hc hap o_X11_weightAnew ml_RL_67 (fun l hl => c_X11_weightAnew_r hl hr28) (by decide) tT_0 (by decide) ⟨_, rfl, rfl⟩ rfl rfl (Nat.le_of_ble_eq_true rfl) (Nat.zero_le _) (Nat.zero_le _) dL_does_295 ?_
                                      refine z_goto (tgt := 472) hc dL_does_298 (by decide) ?_
                                      refine z_sub [] [] rfl ?_
                                      exact w_L_does_472 hc hap he h
                                    · refine z_xthrV (kd := 1) [.int (zI x2)] hc hap o_X11_weightAnew ml_RL_67 (fun l hl => c_X11_weightAnew_t hl hr28) (by decide) tT_0 (by decide) ⟨_, rfl, rfl⟩ rfl rfl (Nat.le_of_ble_eq_true rfl) (Nat.le_refl 1) (Nat.le_refl 6) dL_does_295 ?_
                                      exact w_does_x (by decide) (by decide) hc he h9
                                  · refine z_iload_n (i := 1) 2 hc dL_does_301 rfl rfl ?_
                                    refine z_bipush hc dL_does_302 rfl ?_
                                    refine z_icmp_ne (tgt := 317) hc dL_does_304 (by decide) h (fun c304 h => ?_) (fun c304 h => ?_)
                                    · refine z_aload_n (i := 0) 1 hc dL_does_307 rfl rfl ?_
                                      refine z_iload 0 hc dL_does_308 rfl ?_
                                      rcases z_xd_cases h with ⟨r29, hr29, h⟩ | ⟨e9, s9, hr29, h9⟩
                                      · refine z_xcallVI [.int (zI x2)] hc hap o_X11_best ml_RL_70 (fun l hl => c_X11_best_r hl hr29) (by decide) tT_0 (by decide) ⟨_, rfl, rfl⟩ rfl rfl (Nat.le_of_ble_eq_true rfl) (Nat.zero_le _) (Nat.zero_le _) dL_does_310 ?_
                                        refine z_i2l hc dL_does_313 h (fun h => ?_)
                                        refine z_goto (tgt := 472) hc dL_does_314 (by decide) ?_
                                        refine z_sub [] [] rfl ?_
                                        exact w_L_does_472 hc hap he h
                                      · refine z_xthrV (kd := 0) [.int (zI x2)] hc hap o_X11_best ml_RL_70 (fun l hl => c_X11_best_t hl hr29) (by decide) tT_0 (by decide) ⟨_, rfl, rfl⟩ rfl rfl (Nat.le_of_ble_eq_true rfl) (Nat.le_refl 1) (Nat.le_refl 6) dL_does_310 ?_
                                        exact w_does_x (by decide) (by decide) hc he h9
                                    · refine z_iload_n (i := 1) 2 hc dL_does_317 rfl rfl ?_
                                      refine z_bipush hc dL_does_318 rfl ?_
                                      refine z_icmp_ne (tgt := 335) hc dL_does_320 (by decide) h (fun c320 h => ?_) (fun c320 h => ?_)
                                      · refine z_aload_n (i := 0) 1 hc dL_does_323 rfl rfl ?_
                                        refine z_lload_n (i := 2) 3 hc dL_does_324 rfl rfl ?_
                                        refine z_iload 4 hc dL_does_325 rfl ?_
                                        refine z_iload 5 hc dL_does_327 rfl ?_
                                        rcases z_xd_cases h with ⟨r30, hr30, h⟩ | ⟨e9, s9, hr30, h9⟩
                                        · refine z_xcallVJ [.long (zJ x2), .int (zI x4), .int (zI x5)] hc hap o_X11_found ml_RL_73 (fun l hl => c_X11_found_r hl hr30) (by decide) tT_0 (by decide) ⟨_, rfl, rfl⟩ rfl rfl (Nat.le_of_ble_eq_true rfl) (Nat.zero_le _) (Nat.zero_le _) dL_does_329 ?_
                                          refine z_goto (tgt := 472) hc dL_does_332 (by decide) ?_
                                          refine z_sub [] [] rfl ?_
                                          exact w_L_does_472 hc hap he h
                                        · refine z_xthrV (kd := 1) [.long (zJ x2), .int (zI x4), .int (zI x5)] hc hap o_X11_found ml_RL_73 (fun l hl => c_X11_found_t hl hr30) (by decide) tT_0 (by decide) ⟨_, rfl, rfl⟩ rfl rfl (Nat.le_of_ble_eq_true rfl) (Nat.le_refl 1) (Nat.le_refl 6) dL_does_329 ?_
                                          exact w_does_x (by decide) (by decide) hc he h9
                                      · refine z_iload_n (i := 1) 2 hc dL_does_335 rfl rfl ?_
                                        refine z_bipush hc dL_does_336 rfl ?_
                                        refine z_icmp_ne (tgt := 350) hc dL_does_338 (by decide) h (fun c338 h => ?_) (fun c338 h => ?_)
                                        · refine z_aload_n (i := 0) 1 hc dL_does_341 rfl rfl ?_
                                          refine z_lload_n (i := 2) 3 hc dL_does_342 rfl rfl ?_
                                          rcases z_xd_cases h with ⟨r31, hr31, h⟩ | ⟨e9, s9, hr31, h9⟩
                                          · refine z_xcallVI [.long (zJ x2)] hc hap o_X11_arcs ml_RL_77 (fun l hl => c_X11_arcs_r hl hr31) (by decide) tT_0 (by decide) ⟨_, rfl, rfl⟩ rfl rfl (Nat.le_of_ble_eq_true rfl) (Nat.zero_le _) (Nat.zero_le _) dL_does_343 ?_
                                            refine z_i2l hc dL_does_346 h (fun h => ?_)
                                            refine z_goto (tgt := 472) hc dL_does_347 (by decide) ?_
                                            refine z_sub [] [] rfl ?_
                                            exact w_L_does_472 hc hap he h
                                          · refine z_xthrV (kd := 0) [.long (zJ x2)] hc hap o_X11_arcs ml_RL_77 (fun l hl => c_X11_arcs_t hl hr31) (by decide) tT_0 (by decide) ⟨_, rfl, rfl⟩ rfl rfl (Nat.le_of_ble_eq_true rfl) (Nat.le_refl 1) (Nat.le_refl 6) dL_does_343 ?_
                                            exact w_does_x (by decide) (by decide) hc he h9
                                        · refine z_iload_n (i := 1) 2 hc dL_does_350 rfl rfl ?_
                                          refine z_bipush hc dL_does_351 rfl ?_
                                          refine z_icmp_ne (tgt := 368) hc dL_does_353 (by decide) h (fun c353 h => ?_) (fun c353 h => ?_)
                                          · refine z_aload_n (i := 0) 1 hc dL_does_356 rfl rfl ?_
                                            refine z_lload_n (i := 2) 3 hc dL_does_357 rfl rfl ?_
                                            refine z_iload 4 hc dL_does_358 rfl ?_
                                            refine z_iload 5 hc dL_does_360 rfl ?_
                                            rcases z_xd_cases h with ⟨r32, hr32, h⟩ | ⟨e9, s9, hr32, h9⟩
                                            · refine z_xcallVJ [.long (zJ x2), .int (zI x4), .int (zI x5)] hc hap o_X11_arc ml_RL_81 (fun l hl => c_X11_arc_r hl hr32) (by decide) tT_0 (by decide) ⟨_, rfl, rfl⟩ rfl rfl (Nat.le_of_ble_eq_true rfl) (Nat.zero_le _) (Nat.zero_le _) dL_does_362 ?_
                                              refine z_goto (tgt := 472) hc dL_does_365 (by decide) ?_
                                              refine z_sub [] [] rfl ?_
                                              exact w_L_does_472 hc hap he h
                                            · refine z_xthrV (kd := 1) [.long (zJ x2), .int (zI x4), .int (zI x5)] hc hap o_X11_arc ml_RL_81 (fun l hl => c_X11_arc_t hl hr32) (by decide) tT_0 (by decide) ⟨_, rfl, rfl⟩ rfl rfl (Nat.le_of_ble_eq_true rfl) (Nat.le_refl 1) (Nat.le_refl 6) dL_does_362 ?_
                                              exact w_does_x (by decide) (by decide) hc he h9
                                          · refine z_iload_n (i := 1) 2 hc dL_does_368 rfl rfl ?_
                                            refine z_bipush hc dL_does_369 rfl ?_
                                            refine z_icmp_ne (tgt := 383) hc dL_does_371 (by decide) h (fun c371 h => ?_) (fun c371 h => ?_)
                                            · refine z_aload_n (i := 0) 1 hc dL_does_374 rfl rfl ?_
                                              refine z_iload 0 hc dL_does_375 rfl ?_
                                              rcases z_xd_cases h with ⟨r33, hr33, h⟩ | ⟨e9, s9, hr33, h9⟩
                                              · refine z_xcallVJ [.int (zI x2)] hc hap o_X11_keyword ml_RL_84 (fun l hl => c_X11_keyword_r hl hr33) (by decide) tT_0 (by decide) ⟨_, rfl, rfl⟩ rfl rfl (Nat.le_of_ble_eq_true rfl) (Nat.zero_le _) (Nat.zero_le _) dL_does_377 ?_
                                                refine z_goto (tgt := 472) hc dL_does_380 (by decide) ?_
                                                refine z_sub [] [] rfl ?_
                                                exact w_L_does_472 hc hap he h
                                              · refine z_xthrV (kd := 1) [.int (zI x2)] hc hap o_X11_keyword ml_RL_84 (fun l hl => c_X11_keyword_t hl hr33) (by decide) tT_0 (by decide) ⟨_, rfl, rfl⟩ rfl rfl (Nat.le_of_ble_eq_true rfl) (Nat.le_refl 1) (Nat.le_refl 6) dL_does_377 ?_
                                                exact w_does_x (by decide) (by decide) hc he h9
                                            · refine z_iload_n (i := 1) 2 hc dL_does_383 rfl rfl ?_
                                              refine z_bipush hc dL_does_384 rfl ?_
                                              refine z_icmp_ne (tgt := 400) hc dL_does_386 (by decide) h (fun c386 h => ?_) (fun c386 h => ?_)
                                              · refine z_aload_n (i := 0) 1 hc dL_does_389 rfl rfl ?_
                                                refine z_lload_n (i := 2) 3 hc dL_does_390 rfl rfl ?_
                                                refine z_iload 4 hc dL_does_391 rfl ?_
                                                rcases z_xd_cases h with ⟨r34, hr34, h⟩ | ⟨e9, s9, hr34, h9⟩
                                                · refine z_xcallVI [.long (zJ x2), .int (zI x4)] hc hap o_X11_sure ml_RL_87 (fun l hl => c_X11_sure_r hl hr34) (by decide) tT_0 (by decide) ⟨_, rfl, rfl⟩ rfl rfl (Nat.le_of_ble_eq_true rfl) (Nat.zero_le _) (Nat.zero_le _) dL_does_393 ?_
                                                  refine z_i2l hc dL_does_396 h (fun h => ?_)
                                                  refine z_goto (tgt := 472) hc dL_does_397 (by decide) ?_
                                                  refine z_sub [] [] rfl ?_
                                                  exact w_L_does_472 hc hap he h
                                                · refine z_xthrV (kd := 0) [.long (zJ x2), .int (zI x4)] hc hap o_X11_sure ml_RL_87 (fun l hl => c_X11_sure_t hl hr34) (by decide) tT_0 (by decide) ⟨_, rfl, rfl⟩ rfl rfl (Nat.le_of_ble_eq_true rfl) (Nat.le_refl 1) (Nat.le_refl 6) dL_does_393 ?_
                                                  exact w_does_x (by decide) (by decide) hc he h9
                                              · refine z_iload_n (i := 1) 2 hc dL_does_400 rfl rfl ?_
                                                refine z_bipush hc dL_does_401 rfl ?_
                                                refine z_icmp_ne (tgt := 418) hc dL_does_403 (by decide) h (fun c403 h => ?_) (fun c403 h => ?_)
                                                · refine z_aload_n (i := 0) 1 hc dL_does_406 rfl rfl ?_
                                                  refine z_iload 0 hc dL_does_407 rfl ?_
                                                  refine z_iload 4 hc dL_does_409 rfl ?_
                                                  rcases z_xd_cases h with ⟨r35, hr35, h⟩ | ⟨e9, s9, hr35, h9⟩
                                                  · refine z_xcallVI [.int (zI x2), .int (zI x4)] hc hap o_X11_path ml_RL_91 (fun l hl => c_X11_path_r hl hr35) (by decide) tT_0 (by decide) ⟨_, rfl, rfl⟩ rfl rfl (Nat.le_of_ble_eq_true rfl) (Nat.zero_le _) (Nat.zero_le _) dL_does_411 ?_
                                                    refine z_i2l hc dL_does_414 h (fun h => ?_)
                                                    refine z_goto (tgt := 472) hc dL_does_415 (by decide) ?_
                                                    refine z_sub [] [] rfl ?_
                                                    exact w_L_does_472 hc hap he h
                                                  · refine z_xthrV (kd := 0) [.int (zI x2), .int (zI x4)] hc hap o_X11_path ml_RL_91 (fun l hl => c_X11_path_t hl hr35) (by decide) tT_0 (by decide) ⟨_, rfl, rfl⟩ rfl rfl (Nat.le_of_ble_eq_true rfl) (Nat.le_refl 1) (Nat.le_refl 6) dL_does_411 ?_
                                                    exact w_does_x (by decide) (by decide) hc he h9
                                                · refine z_iload_n (i := 1) 2 hc dL_does_418 rfl rfl ?_
                                                  refine z_bipush hc dL_does_419 rfl ?_
                                                  refine z_icmp_ne (tgt := 434) hc dL_does_421 (by decide) h (fun c421 h => ?_) (fun c421 h => ?_)
                                                  · refine z_aload_n (i := 0) 1 hc dL_does_424 rfl rfl ?_
                                                    refine z_iload 0 hc dL_does_425 rfl ?_
                                                    rcases z_xd_cases h with ⟨r36, hr36, h⟩ | ⟨e9, s9, hr36, h9⟩
                                                    · refine z_xcallVI [.int (zI x2)] hc hap o_X11_errors ml_RL_94 (fun l hl => c_X11_errors_r hl hr36) (by decide) tT_0 (by decide) ⟨_, rfl, rfl⟩ rfl rfl (Nat.le_of_ble_eq_true rfl) (Nat.zero_le _) (Nat.zero_le _) dL_does_427 ?_
                                                      refine z_i2l hc dL_does_430 h (fun h => ?_)
                                                      refine z_goto (tgt := 472) hc dL_does_431 (by decide) ?_
                                                      refine z_sub [] [] rfl ?_
                                                      exact w_L_does_472 hc hap he h
                                                    · refine z_xthrV (kd := 0) [.int (zI x2)] hc hap o_X11_errors ml_RL_94 (fun l hl => c_X11_errors_t hl hr36) (by decide) tT_0 (by decide) ⟨_, rfl, rfl⟩ rfl rfl (Nat.le_of_ble_eq_true rfl) (Nat.le_refl 1) (Nat.le_refl 6) dL_does_427 ?_
                                                      exact w_does_x (by decide) (by decide) hc he h9
                                                  · refine z_iload_n (i := 1) 2 hc dL_does_434 rfl rfl ?_
                                                    refine z_bipush hc dL_does_435 rfl ?_
                                                    refine z_icmp_ne (tgt := 447) hc dL_does_437 (by decide) h (fun c437 h => ?_) (fun c437 h => ?_)
                                                    · refine z_aload_n (i := 0) 1 hc dL_does_440 rfl rfl ?_
                                                      rcases z_xd_cases h with ⟨r37, hr37, h⟩ | ⟨e9, s9, hr37, h9⟩
                                                      · refine z_xcallVJ [] hc hap o_X11_fit ml_RL_97 (fun l hl => c_X11_fit_r hl hr37) (by decide) tT_0 (by decide) ⟨_, rfl, rfl⟩ rfl rfl (Nat.le_of_ble_eq_true rfl) (Nat.zero_le _) (Nat.zero_le _) dL_does_441 ?_
                                                        refine z_V_gh h (fun st38 h => ?_)
                                                        refine z_goto (tgt := 472) hc dL_does_444 (by decide) ?_
                                                        refine z_sub [] [] rfl ?_
                                                        exact w_L_does_472 hc hap he h
                                                      · refine z_xthrV (kd := 1) [] hc hap o_X11_fit ml_RL_97 (fun l hl => c_X11_fit_t hl hr37) (by decide) tT_0 (by decide) ⟨_, rfl, rfl⟩ rfl rfl (Nat.le_of_ble_eq_true rfl) (Nat.le_refl 1) (Nat.le_refl 6) dL_does_441 ?_
                                                        exact w_does_x (by decide) (by decide) hc he h9
                                                    · refine z_iload_n (i := 1) 2 hc dL_does_447 rfl rfl ?_
                                                      refine z_bipush hc dL_does_448 rfl ?_
                                                      refine z_icmp_ne (tgt := 465) hc dL_does_450 (by decide) h (fun c450 h => ?_) (fun c450 h => ?_)
                                                      · refine z_aload_n (i := 0) 1 hc dL_does_453 rfl rfl ?_
                                                        refine z_iload 0 hc dL_does_454 rfl ?_
                                                        refine z_iload 4 hc dL_does_456 rfl ?_
                                                        rcases z_xd_cases h with ⟨r39, hr39, h⟩ | ⟨e9, s9, hr39, h9⟩
                                                        · refine z_xcallVI [.int (zI x2), .int (zI x4)] hc hap o_X11_shiftOf ml_RL_101 (fun l hl => c_X11_shiftOf_r hl hr39) (by decide) tT_0 (by decide) ⟨_, rfl, rfl⟩ rfl rfl (Nat.le_of_ble_eq_true rfl) (Nat.zero_le _) (Nat.zero_le _) dL_does_458 ?_
                                                          refine z_i2l hc dL_does_461 h (fun h => ?_)
                                                          refine z_goto (tgt := 472) hc dL_does_462 (by decide) ?_
                                                          refine z_sub [] [] rfl ?_
                                                          exact w_L_does_472 hc hap he h
                                                        · refine z_xthrV (kd := 0) [.int (zI x2), .int (zI x4)] hc hap o_X11_shiftOf ml_RL_101 (fun l hl => c_X11_shiftOf_t hl hr39) (by decide) tT_0 (by decide) ⟨_, rfl, rfl⟩ rfl rfl (Nat.le_of_ble_eq_true rfl) (Nat.le_refl 1) (Nat.le_refl 6) dL_does_458 ?_
                                                          exact w_does_x (by decide) (by decide) hc he h9
                                                      · refine z_aload_n (i := 0) 1 hc dL_does_465 rfl rfl ?_
                                                        refine z_iload 0 hc dL_does_466 rfl ?_
                                                        rcases z_xd_cases h with ⟨r40, hr40, h⟩ | ⟨e9, s9, hr40, h9⟩
                                                        · refine z_xcallVI [.int (zI x2)] hc hap o_X11_sum ml_RL_104 (fun l hl => c_X11_sum_r hl hr40) (by decide) tT_0 (by decide) ⟨_, rfl, rfl⟩ rfl rfl (Nat.le_of_ble_eq_true rfl) (Nat.zero_le _) (Nat.zero_le _) dL_does_468 ?_
                                                          refine z_i2l hc dL_does_471 h (fun h => ?_)
                                                          refine z_sub [] [] rfl ?_
                                                          exact w_L_does_472 hc hap he h
                                                        · refine z_xthrV (kd := 0) [.int (zI x2)] hc hap o_X11_sum ml_RL_104 (fun l hl => c_X11_sum_t hl hr40) (by decide) tT_0 (by decide) ⟨_, rfl, rfl⟩ rfl rfl (Nat.le_of_ble_eq_true rfl) (Nat.le_refl 1) (Nat.le_refl 6) dL_does_468 ?_
                                                          exact w_does_x (by decide) (by decide) hc he h9
set_option maxRecDepth 100000 in
set_option maxHeartbeats 4000000 in
theorem c_L_does {l : Launch} (hl : l.stackTraces = false) {a : Nat → Nat} {x1 x2 x4 x5 x6 : Int} {st : z_St} {o : Int × z_St} (h : J_L_does x1 x2 x4 x5 x6 st = some o) : z_MU 1 1 l yL_does (z_wH yL_does cL_does 9 (some .long) hL_does) 26 z_T z_N a [.ref (a 0), .int (zI x1), .long (zJ x2), .int (zI x4), .int (zI x5), .int (zI x6)] st o.1 o.2 := z_ofH hl (by decide +kernel) (Nat.le_of_ble_eq_true rfl) kL_does (fun κ hc hap he => w_L_does hc hap he h)
