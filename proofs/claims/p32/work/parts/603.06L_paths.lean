theorem dL_paths_0 : decode cL_paths 0 = .ok (.aload_n 0, 1) := by decide +kernel
theorem dL_paths_1 : decode cL_paths 1 = .ok (.bipush 17, 2) := by decide +kernel
theorem dL_paths_3 : decode cL_paths 3 = .ok (.lconst 0, 1) := by decide +kernel
theorem dL_paths_4 : decode cL_paths 4 = .ok (.iconst 0, 1) := by decide +kernel
theorem dL_paths_5 : decode cL_paths 5 = .ok (.invokestatic 125, 3) := by decide +kernel
theorem dL_paths_8 : decode cL_paths 8 = .ok (.l2i, 1) := by decide +kernel
theorem dL_paths_9 : decode cL_paths 9 = .ok (.istore_n 2, 1) := by decide +kernel
theorem dL_paths_10 : decode cL_paths 10 = .ok (.iload_n 2, 1) := by decide +kernel
theorem dL_paths_11 : decode cL_paths 11 = .ok (.ifCond .ge 49, 3) := by decide +kernel
theorem dL_paths_14 : decode cL_paths 14 = .ok (.aload_n 0, 1) := by decide +kernel
theorem dL_paths_15 : decode cL_paths 15 = .ok (.bipush 23, 2) := by decide +kernel
theorem dL_paths_17 : decode cL_paths 17 = .ok (.lconst 0, 1) := by decide +kernel
theorem dL_paths_18 : decode cL_paths 18 = .ok (.iconst 0, 1) := by decide +kernel
theorem dL_paths_19 : decode cL_paths 19 = .ok (.invokestatic 125, 3) := by decide +kernel
theorem dL_paths_22 : decode cL_paths 22 = .ok (.iload_n 1, 1) := by decide +kernel
theorem dL_paths_23 : decode cL_paths 23 = .ok (.ifCond .ne 9, 3) := by decide +kernel
theorem dL_paths_26 : decode cL_paths 26 = .ok (.ldc2_w 109, 3) := by decide +kernel
theorem dL_paths_29 : decode cL_paths 29 = .ok (.goto 6, 3) := by decide +kernel
theorem dL_paths_32 : decode cL_paths 32 = .ok (.ldc2_w 117, 3) := by decide +kernel
theorem dL_paths_35 : decode cL_paths 35 = .ok (.lcmp, 1) := by decide +kernel
theorem dL_paths_36 : decode cL_paths 36 = .ok (.ifCond .ne 22, 3) := by decide +kernel
theorem dL_paths_39 : decode cL_paths 39 = .ok (.aload_n 0, 1) := by decide +kernel
theorem dL_paths_40 : decode cL_paths 40 = .ok (.bipush 25, 2) := by decide +kernel
theorem dL_paths_42 : decode cL_paths 42 = .ok (.lconst 0, 1) := by decide +kernel
theorem dL_paths_43 : decode cL_paths 43 = .ok (.iconst 0, 1) := by decide +kernel
theorem dL_paths_44 : decode cL_paths 44 = .ok (.invokestatic 125, 3) := by decide +kernel
theorem dL_paths_47 : decode cL_paths 47 = .ok (.ldc2_w 117, 3) := by decide +kernel
theorem dL_paths_50 : decode cL_paths 50 = .ok (.lcmp, 1) := by decide +kernel
theorem dL_paths_51 : decode cL_paths 51 = .ok (.ifCond .ne 7, 3) := by decide +kernel
theorem dL_paths_54 : decode cL_paths 54 = .ok (.iconst 1, 1) := by decide +kernel
theorem dL_paths_55 : decode cL_paths 55 = .ok (.goto 4, 3) := by decide +kernel
theorem dL_paths_58 : decode cL_paths 58 = .ok (.iconst 0, 1) := by decide +kernel
theorem dL_paths_59 : decode cL_paths 59 = .ok (.ireturn, 1) := by decide +kernel
theorem dL_paths_60 : decode cL_paths 60 = .ok (.iload_n 2, 1) := by decide +kernel
theorem dL_paths_61 : decode cL_paths 61 = .ok (.bipush 10, 2) := by decide +kernel
theorem dL_paths_63 : decode cL_paths 63 = .ok (.if_icmp .ge 7, 3) := by decide +kernel
theorem dL_paths_66 : decode cL_paths 66 = .ok (.iconst 1, 1) := by decide +kernel
theorem dL_paths_67 : decode cL_paths 67 = .ok (.goto 25, 3) := by decide +kernel
theorem dL_paths_70 : decode cL_paths 70 = .ok (.iload_n 2, 1) := by decide +kernel
theorem dL_paths_71 : decode cL_paths 71 = .ok (.bipush 100, 2) := by decide +kernel
theorem dL_paths_73 : decode cL_paths 73 = .ok (.if_icmp .ge 7, 3) := by decide +kernel
theorem dL_paths_76 : decode cL_paths 76 = .ok (.iconst 2, 1) := by decide +kernel
theorem dL_paths_77 : decode cL_paths 77 = .ok (.goto 15, 3) := by decide +kernel
theorem dL_paths_80 : decode cL_paths 80 = .ok (.iload_n 2, 1) := by decide +kernel
theorem dL_paths_81 : decode cL_paths 81 = .ok (.sipush 1000, 3) := by decide +kernel
theorem dL_paths_84 : decode cL_paths 84 = .ok (.if_icmp .ge 7, 3) := by decide +kernel
theorem dL_paths_87 : decode cL_paths 87 = .ok (.iconst 3, 1) := by decide +kernel
theorem dL_paths_88 : decode cL_paths 88 = .ok (.goto 4, 3) := by decide +kernel
theorem dL_paths_91 : decode cL_paths 91 = .ok (.iconst 4, 1) := by decide +kernel
theorem dL_paths_92 : decode cL_paths 92 = .ok (.istore_n 3, 1) := by decide +kernel
theorem dL_paths_93 : decode cL_paths 93 = .ok (.aload_n 0, 1) := by decide +kernel
theorem dL_paths_94 : decode cL_paths 94 = .ok (.bipush 24, 2) := by decide +kernel
theorem dL_paths_96 : decode cL_paths 96 = .ok (.iload_n 2, 1) := by decide +kernel
theorem dL_paths_97 : decode cL_paths 97 = .ok (.i2l, 1) := by decide +kernel
theorem dL_paths_98 : decode cL_paths 98 = .ok (.iconst 0, 1) := by decide +kernel
theorem dL_paths_99 : decode cL_paths 99 = .ok (.invokestatic 125, 3) := by decide +kernel
theorem dL_paths_102 : decode cL_paths 102 = .ok (.lconst 0, 1) := by decide +kernel
theorem dL_paths_103 : decode cL_paths 103 = .ok (.lcmp, 1) := by decide +kernel
theorem dL_paths_104 : decode cL_paths 104 = .ok (.ifCond .ne 7, 3) := by decide +kernel
theorem dL_paths_107 : decode cL_paths 107 = .ok (.iconst 1, 1) := by decide +kernel
theorem dL_paths_108 : decode cL_paths 108 = .ok (.goto 4, 3) := by decide +kernel
theorem dL_paths_111 : decode cL_paths 111 = .ok (.iconst 0, 1) := by decide +kernel
theorem dL_paths_112 : decode cL_paths 112 = .ok (.istore 4, 2) := by decide +kernel
theorem dL_paths_114 : decode cL_paths 114 = .ok (.iconst 0, 1) := by decide +kernel
theorem dL_paths_115 : decode cL_paths 115 = .ok (.istore 5, 2) := by decide +kernel
theorem dL_paths_117 : decode cL_paths 117 = .ok (.iconst 0, 1) := by decide +kernel
theorem dL_paths_118 : decode cL_paths 118 = .ok (.istore 6, 2) := by decide +kernel
theorem dL_paths_120 : decode cL_paths 120 = .ok (.iconst 0, 1) := by decide +kernel
theorem dL_paths_121 : decode cL_paths 121 = .ok (.istore 7, 2) := by decide +kernel
theorem dL_paths_123 : decode cL_paths 123 = .ok (.iload 7, 2) := by decide +kernel
theorem dL_paths_125 : decode cL_paths 125 = .ok (.iload_n 1, 1) := by decide +kernel
theorem dL_paths_126 : decode cL_paths 126 = .ok (.if_icmp .ge 211, 3) := by decide +kernel
theorem dL_paths_129 : decode cL_paths 129 = .ok (.iload 4, 2) := by decide +kernel
theorem dL_paths_131 : decode cL_paths 131 = .ok (.ifCond .eq 206, 3) := by decide +kernel
theorem dL_paths_134 : decode cL_paths 134 = .ok (.aload_n 0, 1) := by decide +kernel
theorem dL_paths_135 : decode cL_paths 135 = .ok (.bipush 23, 2) := by decide +kernel
theorem dL_paths_137 : decode cL_paths 137 = .ok (.iload 7, 2) := by decide +kernel
theorem dL_paths_139 : decode cL_paths 139 = .ok (.i2l, 1) := by decide +kernel
theorem dL_paths_140 : decode cL_paths 140 = .ok (.iconst 0, 1) := by decide +kernel
theorem dL_paths_141 : decode cL_paths 141 = .ok (.invokestatic 125, 3) := by decide +kernel
theorem dL_paths_144 : decode cL_paths 144 = .ok (.l2i, 1) := by decide +kernel
theorem dL_paths_145 : decode cL_paths 145 = .ok (.istore 8, 2) := by decide +kernel
theorem dL_paths_147 : decode cL_paths 147 = .ok (.aload_n 0, 1) := by decide +kernel
theorem dL_paths_148 : decode cL_paths 148 = .ok (.bipush 23, 2) := by decide +kernel
theorem dL_paths_150 : decode cL_paths 150 = .ok (.iload 7, 2) := by decide +kernel
theorem dL_paths_152 : decode cL_paths 152 = .ok (.i2l, 1) := by decide +kernel
theorem dL_paths_153 : decode cL_paths 153 = .ok (.iconst 1, 1) := by decide +kernel
theorem dL_paths_154 : decode cL_paths 154 = .ok (.invokestatic 125, 3) := by decide +kernel
theorem dL_paths_157 : decode cL_paths 157 = .ok (.l2i, 1) := by decide +kernel
theorem dL_paths_158 : decode cL_paths 158 = .ok (.istore 9, 2) := by decide +kernel
theorem dL_paths_160 : decode cL_paths 160 = .ok (.aload_n 0, 1) := by decide +kernel
theorem dL_paths_161 : decode cL_paths 161 = .ok (.bipush 23, 2) := by decide +kernel
theorem dL_paths_163 : decode cL_paths 163 = .ok (.iload 7, 2) := by decide +kernel
theorem dL_paths_165 : decode cL_paths 165 = .ok (.i2l, 1) := by decide +kernel
theorem dL_paths_166 : decode cL_paths 166 = .ok (.iconst 2, 1) := by decide +kernel
theorem dL_paths_167 : decode cL_paths 167 = .ok (.invokestatic 125, 3) := by decide +kernel
theorem dL_paths_170 : decode cL_paths 170 = .ok (.l2i, 1) := by decide +kernel
theorem dL_paths_171 : decode cL_paths 171 = .ok (.istore 10, 2) := by decide +kernel
theorem dL_paths_173 : decode cL_paths 173 = .ok (.aload_n 0, 1) := by decide +kernel
theorem dL_paths_174 : decode cL_paths 174 = .ok (.bipush 23, 2) := by decide +kernel
theorem dL_paths_176 : decode cL_paths 176 = .ok (.iload 7, 2) := by decide +kernel
theorem dL_paths_178 : decode cL_paths 178 = .ok (.i2l, 1) := by decide +kernel
theorem dL_paths_179 : decode cL_paths 179 = .ok (.iconst 3, 1) := by decide +kernel
theorem dL_paths_180 : decode cL_paths 180 = .ok (.invokestatic 125, 3) := by decide +kernel
theorem dL_paths_183 : decode cL_paths 183 = .ok (.l2i, 1) := by decide +kernel
theorem dL_paths_184 : decode cL_paths 184 = .ok (.istore 11, 2) := by decide +kernel
theorem dL_paths_186 : decode cL_paths 186 = .ok (.iload_n 2, 1) := by decide +kernel
theorem dL_paths_187 : decode cL_paths 187 = .ok (.istore 12, 2) := by decide +kernel
theorem dL_paths_189 : decode cL_paths 189 = .ok (.iload_n 3, 1) := by decide +kernel
theorem dL_paths_190 : decode cL_paths 190 = .ok (.iconst 1, 1) := by decide +kernel
theorem dL_paths_191 : decode cL_paths 191 = .ok (.isub, 1) := by decide +kernel
theorem dL_paths_192 : decode cL_paths 192 = .ok (.istore 13, 2) := by decide +kernel
theorem dL_paths_194 : decode cL_paths 194 = .ok (.iload 13, 2) := by decide +kernel
theorem dL_paths_196 : decode cL_paths 196 = .ok (.iload 8, 2) := by decide +kernel
theorem dL_paths_198 : decode cL_paths 198 = .ok (.if_icmp .le 16, 3) := by decide +kernel
theorem dL_paths_201 : decode cL_paths 201 = .ok (.iload 12, 2) := by decide +kernel
theorem dL_paths_203 : decode cL_paths 203 = .ok (.bipush 10, 2) := by decide +kernel
theorem dL_paths_205 : decode cL_paths 205 = .ok (.idiv, 1) := by decide +kernel
theorem dL_paths_206 : decode cL_paths 206 = .ok (.istore 12, 2) := by decide +kernel
theorem dL_paths_208 : decode cL_paths 208 = .ok (.iinc 13 (-1), 3) := by decide +kernel
theorem dL_paths_211 : decode cL_paths 211 = .ok (.goto (-17), 3) := by decide +kernel
theorem dL_paths_214 : decode cL_paths 214 = .ok (.iload 9, 2) := by decide +kernel
theorem dL_paths_216 : decode cL_paths 216 = .ok (.iload 12, 2) := by decide +kernel
theorem dL_paths_218 : decode cL_paths 218 = .ok (.bipush 10, 2) := by decide +kernel
theorem dL_paths_220 : decode cL_paths 220 = .ok (.irem, 1) := by decide +kernel
theorem dL_paths_221 : decode cL_paths 221 = .ok (.iconst 1, 1) := by decide +kernel
theorem dL_paths_222 : decode cL_paths 222 = .ok (.isub, 1) := by decide +kernel
theorem dL_paths_223 : decode cL_paths 223 = .ok (.if_icmp .ne 59, 3) := by decide +kernel
theorem dL_paths_226 : decode cL_paths 226 = .ok (.iload 8, 2) := by decide +kernel
theorem dL_paths_228 : decode cL_paths 228 = .ok (.iload 5, 2) := by decide +kernel
theorem dL_paths_230 : decode cL_paths 230 = .ok (.if_icmp .ne 19, 3) := by decide +kernel
theorem dL_paths_233 : decode cL_paths 233 = .ok (.iload 11, 2) := by decide +kernel
theorem dL_paths_235 : decode cL_paths 235 = .ok (.iload 6, 2) := by decide +kernel
theorem dL_paths_237 : decode cL_paths 237 = .ok (.if_icmp .eq 26, 3) := by decide +kernel
theorem dL_paths_240 : decode cL_paths 240 = .ok (.iload 11, 2) := by decide +kernel
theorem dL_paths_242 : decode cL_paths 242 = .ok (.iload 6, 2) := by decide +kernel
theorem dL_paths_244 : decode cL_paths 244 = .ok (.iconst 1, 1) := by decide +kernel
theorem dL_paths_245 : decode cL_paths 245 = .ok (.iadd, 1) := by decide +kernel
theorem dL_paths_246 : decode cL_paths 246 = .ok (.if_icmp .eq 17, 3) := by decide +kernel
theorem dL_paths_249 : decode cL_paths 249 = .ok (.iload 8, 2) := by decide +kernel
theorem dL_paths_251 : decode cL_paths 251 = .ok (.iload 5, 2) := by decide +kernel
theorem dL_paths_253 : decode cL_paths 253 = .ok (.iconst 1, 1) := by decide +kernel
theorem dL_paths_254 : decode cL_paths 254 = .ok (.iadd, 1) := by decide +kernel
theorem dL_paths_255 : decode cL_paths 255 = .ok (.if_icmp .ne 27, 3) := by decide +kernel
theorem dL_paths_258 : decode cL_paths 258 = .ok (.iload 11, 2) := by decide +kernel
theorem dL_paths_260 : decode cL_paths 260 = .ok (.ifCond .ne 22, 3) := by decide +kernel
theorem dL_paths_263 : decode cL_paths 263 = .ok (.iload 7, 2) := by decide +kernel
theorem dL_paths_265 : decode cL_paths 265 = .ok (.ifCond .gt 13, 3) := by decide +kernel
theorem dL_paths_268 : decode cL_paths 268 = .ok (.iload 8, 2) := by decide +kernel
theorem dL_paths_270 : decode cL_paths 270 = .ok (.ifCond .ne 12, 3) := by decide +kernel
theorem dL_paths_273 : decode cL_paths 273 = .ok (.iload 11, 2) := by decide +kernel
theorem dL_paths_275 : decode cL_paths 275 = .ok (.ifCond .ne 7, 3) := by decide +kernel
theorem dL_paths_278 : decode cL_paths 278 = .ok (.iconst 1, 1) := by decide +kernel
theorem dL_paths_279 : decode cL_paths 279 = .ok (.goto 4, 3) := by decide +kernel
theorem dL_paths_282 : decode cL_paths 282 = .ok (.iconst 0, 1) := by decide +kernel
theorem dL_paths_283 : decode cL_paths 283 = .ok (.istore 4, 2) := by decide +kernel
theorem dL_paths_285 : decode cL_paths 285 = .ok (.iload 4, 2) := by decide +kernel
theorem dL_paths_287 : decode cL_paths 287 = .ok (.aload_n 0, 1) := by decide +kernel
theorem dL_paths_288 : decode cL_paths 288 = .ok (.bipush 8, 2) := by decide +kernel
theorem dL_paths_290 : decode cL_paths 290 = .ok (.iload 9, 2) := by decide +kernel
theorem dL_paths_292 : decode cL_paths 292 = .ok (.i2l, 1) := by decide +kernel
theorem dL_paths_293 : decode cL_paths 293 = .ok (.iload 10, 2) := by decide +kernel
theorem dL_paths_295 : decode cL_paths 295 = .ok (.iload 11, 2) := by decide +kernel
theorem dL_paths_297 : decode cL_paths 297 = .ok (.iconst 0, 1) := by decide +kernel
theorem dL_paths_298 : decode cL_paths 298 = .ok (.invokestatic 119, 3) := by decide +kernel
theorem dL_paths_301 : decode cL_paths 301 = .ok (.aload_n 0, 1) := by decide +kernel
theorem dL_paths_302 : decode cL_paths 302 = .ok (.bipush 23, 2) := by decide +kernel
theorem dL_paths_304 : decode cL_paths 304 = .ok (.iload 7, 2) := by decide +kernel
theorem dL_paths_306 : decode cL_paths 306 = .ok (.i2l, 1) := by decide +kernel
theorem dL_paths_307 : decode cL_paths 307 = .ok (.iconst 5, 1) := by decide +kernel
theorem dL_paths_308 : decode cL_paths 308 = .ok (.invokestatic 125, 3) := by decide +kernel
theorem dL_paths_311 : decode cL_paths 311 = .ok (.lcmp, 1) := by decide +kernel
theorem dL_paths_312 : decode cL_paths 312 = .ok (.ifCond .ne 7, 3) := by decide +kernel
theorem dL_paths_315 : decode cL_paths 315 = .ok (.iconst 1, 1) := by decide +kernel
theorem dL_paths_316 : decode cL_paths 316 = .ok (.goto 4, 3) := by decide +kernel
theorem dL_paths_319 : decode cL_paths 319 = .ok (.iconst 0, 1) := by decide +kernel
theorem dL_paths_320 : decode cL_paths 320 = .ok (.iand, 1) := by decide +kernel
theorem dL_paths_321 : decode cL_paths 321 = .ok (.istore 4, 2) := by decide +kernel
theorem dL_paths_323 : decode cL_paths 323 = .ok (.iload 8, 2) := by decide +kernel
theorem dL_paths_325 : decode cL_paths 325 = .ok (.istore 5, 2) := by decide +kernel
theorem dL_paths_327 : decode cL_paths 327 = .ok (.iload 11, 2) := by decide +kernel
theorem dL_paths_329 : decode cL_paths 329 = .ok (.istore 6, 2) := by decide +kernel
theorem dL_paths_331 : decode cL_paths 331 = .ok (.iinc 7 1, 3) := by decide +kernel
theorem dL_paths_334 : decode cL_paths 334 = .ok (.goto (-211), 3) := by decide +kernel
theorem dL_paths_337 : decode cL_paths 337 = .ok (.iload 4, 2) := by decide +kernel
theorem dL_paths_339 : decode cL_paths 339 = .ok (.ifCond .eq 15, 3) := by decide +kernel
theorem dL_paths_342 : decode cL_paths 342 = .ok (.iload 5, 2) := by decide +kernel
theorem dL_paths_344 : decode cL_paths 344 = .ok (.iload_n 3, 1) := by decide +kernel
theorem dL_paths_345 : decode cL_paths 345 = .ok (.iconst 1, 1) := by decide +kernel
theorem dL_paths_346 : decode cL_paths 346 = .ok (.isub, 1) := by decide +kernel
theorem dL_paths_347 : decode cL_paths 347 = .ok (.if_icmp .ne 7, 3) := by decide +kernel
theorem dL_paths_350 : decode cL_paths 350 = .ok (.iconst 1, 1) := by decide +kernel
theorem dL_paths_351 : decode cL_paths 351 = .ok (.goto 4, 3) := by decide +kernel
theorem dL_paths_354 : decode cL_paths 354 = .ok (.iconst 0, 1) := by decide +kernel
theorem dL_paths_355 : decode cL_paths 355 = .ok (.ireturn, 1) := by decide +kernel
noncomputable def J_L_paths_59 (s0 : Int) (st : z_St) : Option (Int × z_St) :=
  z_g (s0 = 0 ∨ s0 = 1) <|
  some (s0, st)
set_option maxRecDepth 100000 in
set_option maxHeartbeats 4000000 in
theorem w_L_paths_59 {κ : zK} {a : Nat → Nat} {s0 : Int} {st : z_St} {o : Int × z_St} (hc : z_C κ RL cL_paths 14 28 110 (6 * 110)) (hap : z_AP κ a z_N) (he : z_EU 0 110 κ (some .boolean) z_T z_N a o.1 o.2) (h : J_L_paths_59 s0 st = some o) : z_V κ z_T z_N a 3 (6 * 3) 59 [] [.int (zI s0)] st := by
  unfold J_L_paths_59 at h
  obtain ⟨hz, h⟩ := z_g_some h
  refine z_wide (cells' := 110) (slots' := 6 * 110) (Nat.le_of_ble_eq_true rfl) (Nat.le_of_ble_eq_true rfl) ?_
  have h := Option.some.inj h
  subst h
  exact z_retUZ hc he hz dL_paths_59
noncomputable def J_L_paths_58 (st : z_St) : Option (Int × z_St) :=
  J_L_paths_59 0 st
set_option maxRecDepth 100000 in
set_option maxHeartbeats 4000000 in
theorem w_L_paths_58 {κ : zK} {a : Nat → Nat} {st : z_St} {o : Int × z_St} (hc : z_C κ RL cL_paths 14 28 110 (6 * 110)) (hap : z_AP κ a z_N) (he : z_EU 0 110 κ (some .boolean) z_T z_N a o.1 o.2) (h : J_L_paths_58 st = some o) : z_V κ z_T z_N a 3 (6 * 3) 58 [] [] st := by
  unfold J_L_paths_58 at h
  refine z_iconst hc dL_paths_58 ?_
  refine z_sub [] [] rfl ?_
  exact w_L_paths_59 hc hap he h
noncomputable def J_L_paths_35 (s0 s1 : Int) (st : z_St) : Option (Int × z_St) :=
  z_g (z64 s1 ∧ z64 s0) (if s1 = s0 then
    z_b (J_L_ask 25 0 0 st) fun r3 =>
    z_g (z64 r3.1 ∧ z64 (-1004)) (if r3.1 = (-1004) then
      J_L_paths_59 1 r3.2
    else
      J_L_paths_58 r3.2)
  else
    J_L_paths_58 st)
set_option maxRecDepth 100000 in
set_option maxHeartbeats 4000000 in
theorem w_L_paths_35 {κ : zK} {a : Nat → Nat} {s0 s1 : Int} {st : z_St} {o : Int × z_St} (hc : z_C κ RL cL_paths 14 28 110 (6 * 110)) (hap : z_AP κ a z_N) (he : z_EU 0 110 κ (some .boolean) z_T z_N a o.1 o.2) (h : J_L_paths_35 s0 s1 st = some o) : z_V κ z_T z_N a 2 (6 * 2) 35 [(0, .ref (a 0))] [.long (zJ s0), .long (zJ s1)] st := by
  unfold J_L_paths_35 at h
  refine z_lcmp_ne (tgt := 58) hc dL_paths_35 dL_paths_36 (by decide) h (fun c35 h => ?_) (fun c35 h => ?_)
  · refine z_aload_n (i := 0) 0 hc dL_paths_39 rfl rfl ?_
    refine z_bipush hc dL_paths_40 rfl ?_
    refine z_lconst 0 hc dL_paths_42 rfl ?_
    refine z_iconst hc dL_paths_43 ?_
    obtain ⟨r3, hr3, h⟩ := z_b_some h
    refine z_callUJ 3 (6 * 3) (mu := 1) [.ref (a 0), .int (zI 25), .long (zJ 0), .int (zI 0)] hc hap o_L_ask ml_RL_125 (fun l hl => c_L_ask hl hr3) (by decide) rfl rfl (Nat.le_of_ble_eq_true rfl) (by omega) (by omega) (by omega) (by omega) dL_paths_44 ?_
    refine z_ldc2 (-1004) hc kc_RL_117 dL_paths_47 rfl ?_
    refine z_lcmp_ne (tgt := 58) hc dL_paths_50 dL_paths_51 (by decide) h (fun c50 h => ?_) (fun c50 h => ?_)
    · refine z_iconst hc dL_paths_54 ?_
      refine z_goto (tgt := 59) hc dL_paths_55 (by decide) ?_
      refine z_sub [] [] rfl ?_
      exact w_L_paths_59 hc hap he h
    · refine z_sub [] [] rfl ?_
      exact w_L_paths_58 hc hap he h
  · refine z_sub [] [] rfl ?_
    refine z_wide (cells' := 3) (slots' := 6 * 3) (Nat.le_of_ble_eq_true rfl) (Nat.le_of_ble_eq_true rfl) ?_
    exact w_L_paths_58 hc hap he h
noncomputable def J_L_paths_b194 (v1 v2 v3 v5 v6 v7 v8 v9 v10 v11 v12 v13 : Int) (st : z_St) : Option ((Int × Int × z_St) ⊕ (Int × z_St)) :=
  z_g (z32 v13 ∧ z32 v8) (if v8 < v13 then
    z_g (z32 v12 ∧ z32 10 ∧ (10 : Int) ≠ 0) <|
    some (.inl (v12.tdiv 10, v13 + (-1), st))
  else
    some (.inr (v12, st)))
set_option maxRecDepth 100000 in
set_option maxHeartbeats 4000000 in
theorem w_L_paths_b194 {κ : zK} {a : Nat → Nat} {v1 v2 v3 v5 v6 v7 v8 v9 v10 v11 v12 v13 : Int} {st : z_St} {o : (Int × Int × z_St) ⊕ (Int × z_St)} (hc : z_C κ RL cL_paths 14 28 110 (6 * 110)) (hap : z_AP κ a z_N) (k1 : ∀ s9 : (Int × Int × z_St), o = .inl s9 → z_V κ z_T z_N a ((2 + 6 * (v7 : Int).toNat) + 4) (6 * ((2 + 6 * (v7 : Int).toNat) + 4)) 194 [(0, .ref (a 0)), (1, .int (zI v1)), (2, .int (zI v2)), (3, .int (zI v3)), (5, .int (zI v5)), (6, .int (zI v6)), (7, .int (zI v7)), (8, .int (zI v8)), (9, .int (zI v9)), (10, .int (zI v10)), (11, .int (zI v11)), (12, .int (zI s9.1)), (13, .int (zI s9.2.1))] [] s9.2.2) (k2 : ∀ x9 : (Int × z_St), o = .inr x9 → z_V κ z_T z_N a ((2 + 6 * (v7 : Int).toNat) + 4) (6 * ((2 + 6 * (v7 : Int).toNat) + 4)) 214 [(0, .ref (a 0)), (1, .int (zI v1)), (2, .int (zI v2)), (3, .int (zI v3)), (5, .int (zI v5)), (6, .int (zI v6)), (7, .int (zI v7)), (8, .int (zI v8)), (9, .int (zI v9)), (10, .int (zI v10)), (11, .int (zI v11)), (12, .int (zI x9.1))] [] x9.2) (hv9 : 0 ≤ v7 ∧ v7 ≤ 17) (h : J_L_paths_b194 v1 v2 v3 v5 v6 v7 v8 v9 v10 v11 v12 v13 st = some o) : z_V κ z_T z_N a ((2 + 6 * (v7 : Int).toNat) + 4) (6 * ((2 + 6 * (v7 : Int).toNat) + 4)) 194 [(0, .ref (a 0)), (1, .int (zI v1)), (2, .int (zI v2)), (3, .int (zI v3)), (5, .int (zI v5)), (6, .int (zI v6)), (7, .int (zI v7)), (8, .int (zI v8)), (9, .int (zI v9)), (10, .int (zI v10)), (11, .int (zI v11)), (12, .int (zI v12)), (13, .int (zI v13))] [] st := by
  unfold J_L_paths_b194 at h
  refine z_iload 12 hc dL_paths_194 rfl ?_
  refine z_iload 7 hc dL_paths_196 rfl ?_
  refine z_icmp_le (tgt := 214) hc dL_paths_198 (by decide) h (fun c198 h => ?_) (fun c198 h => ?_)
  · refine z_iload 11 hc dL_paths_201 rfl ?_
    refine z_bipush hc dL_paths_203 rfl ?_
    refine z_idiv hc dL_paths_205 h (fun h => ?_)
    refine z_istore [(12, .int (zI (v12.tdiv 10))), (0, .ref (a 0)), (1, .int (zI v1)), (2, .int (zI v2)), (3, .int (zI v3)), (5, .int (zI v5)), (6, .int (zI v6)), (7, .int (zI v7)), (8, .int (zI v8)), (9, .int (zI v9)), (10, .int (zI v10)), (11, .int (zI v11)), (13, .int (zI v13))] hc dL_paths_206 (by decide) rfl ?_
    refine z_iinc [(13, .int (zI (v13 + (-1)))), (12, .int (zI (v12.tdiv 10))), (0, .ref (a 0)), (1, .int (zI v1)), (2, .int (zI v2)), (3, .int (zI v3)), (5, .int (zI v5)), (6, .int (zI v6)), (7, .int (zI v7)), (8, .int (zI v8)), (9, .int (zI v9)), (10, .int (zI v10)), (11, .int (zI v11))] 12 hc dL_paths_208 rfl (by decide) rfl ?_
    refine z_goto (tgt := 194) hc dL_paths_211 (by decide) ?_
    refine z_sub [(0, .ref (a 0)), (1, .int (zI v1)), (2, .int (zI v2)), (3, .int (zI v3)), (5, .int (zI v5)), (6, .int (zI v6)), (7, .int (zI v7)), (8, .int (zI v8)), (9, .int (zI v9)), (10, .int (zI v10)), (11, .int (zI v11)), (12, .int (zI (v12.tdiv 10))), (13, .int (zI (v13 + (-1))))] [2, 3, 4, 5, 6, 7, 8, 9, 10, 11, 12, 1, 0] rfl ?_
    exact k1 _ (Option.some.inj h).symm
  · refine z_sub [(0, .ref (a 0)), (1, .int (zI v1)), (2, .int (zI v2)), (3, .int (zI v3)), (5, .int (zI v5)), (6, .int (zI v6)), (7, .int (zI v7)), (8, .int (zI v8)), (9, .int (zI v9)), (10, .int (zI v10)), (11, .int (zI v11)), (12, .int (zI v12))] [0, 1, 2, 3, 4, 5, 6, 7, 8, 9, 10, 11] rfl ?_
    exact k2 (v12, st) (Option.some.inj h).symm
noncomputable def J_L_paths_320 (v1 v2 v3 v7 v8 v11 s0 s1 : Int) (st : z_St) : Option ((Int × Int × Int × Int × z_St) ⊕ (Int × Int × z_St)) :=
  some (.inl (z_iand s1 s0, v8, v11, v7 + 1, st))
set_option maxRecDepth 100000 in
set_option maxHeartbeats 4000000 in
theorem w_L_paths_320 {κ : zK} {a : Nat → Nat} {v1 v2 v3 v7 v8 v11 s0 s1 : Int} {st : z_St} {o : (Int × Int × Int × Int × z_St) ⊕ (Int × Int × z_St)} (hc : z_C κ RL cL_paths 14 28 110 (6 * 110)) (hap : z_AP κ a z_N) (k1 : ∀ s9 : (Int × Int × Int × Int × z_St), o = .inl s9 → z_V κ z_T z_N a (2 + 6 * (s9.2.2.2.1 : Int).toNat) (6 * (2 + 6 * (s9.2.2.2.1 : Int).toNat)) 123 [(0, .ref (a 0)), (1, .int (zI v1)), (2, .int (zI v2)), (3, .int (zI v3)), (4, .int (zI s9.1)), (5, .int (zI s9.2.1)), (6, .int (zI s9.2.2.1)), (7, .int (zI s9.2.2.2.1))] [] s9.2.2.2.2) (k2 : ∀ x9 : (Int × Int × z_St), o = .inr x9 → z_V κ z_T z_N a 110 (6 * 110) 337 [(3, .int (zI v3)), (4, .int (zI x9.1)), (5, .int (zI x9.2.1))] [] x9.2.2) (hv9 : 0 ≤ v7 ∧ v7 ≤ 17) (h : J_L_paths_320 v1 v2 v3 v7 v8 v11 s0 s1 st = some o) : z_V κ z_T z_N a ((2 + 6 * (v7 : Int).toNat) + 6) (6 * ((2 + 6 * (v7 : Int).toNat) + 6)) 320 [(0, .ref (a 0)), (1, .int (zI v1)), (2, .int (zI v2)), (3, .int (zI v3)), (7, .int (zI v7)), (8, .int (zI v8)), (11, .int (zI v11))] [.int (zI s0), .int (zI s1)] st := by
  unfold J_L_paths_320 at h
  refine z_iand_r hc dL_paths_320 ?_
  refine z_istore [(4, .int (zI (z_iand s1 s0))), (0, .ref (a 0)), (1, .int (zI v1)), (2, .int (zI v2)), (3, .int (zI v3)), (7, .int (zI v7)), (8, .int (zI v8)), (11, .int (zI v11))] hc dL_paths_321 (by decide) rfl ?_
  refine z_iload 6 hc dL_paths_323 rfl ?_
  refine z_istore [(5, .int (zI v8)), (4, .int (zI (z_iand s1 s0))), (0, .ref (a 0)), (1, .int (zI v1)), (2, .int (zI v2)), (3, .int (zI v3)), (7, .int (zI v7)), (8, .int (zI v8)), (11, .int (zI v11))] hc dL_paths_325 (by decide) rfl ?_
  refine z_iload 8 hc dL_paths_327 rfl ?_
  refine z_istore [(6, .int (zI v11)), (5, .int (zI v8)), (4, .int (zI (z_iand s1 s0))), (0, .ref (a 0)), (1, .int (zI v1)), (2, .int (zI v2)), (3, .int (zI v3)), (7, .int (zI v7)), (8, .int (zI v8)), (11, .int (zI v11))] hc dL_paths_329 (by decide) rfl ?_
  refine z_iinc [(7, .int (zI (v7 + 1))), (6, .int (zI v11)), (5, .int (zI v8)), (4, .int (zI (z_iand s1 s0))), (0, .ref (a 0)), (1, .int (zI v1)), (2, .int (zI v2)), (3, .int (zI v3)), (8, .int (zI v8)), (11, .int (zI v11))] 7 hc dL_paths_331 rfl (by decide) rfl ?_
  refine z_goto (tgt := 123) hc dL_paths_334 (by decide) ?_
  refine z_sub [(0, .ref (a 0)), (1, .int (zI v1)), (2, .int (zI v2)), (3, .int (zI v3)), (4, .int (zI (z_iand s1 s0))), (5, .int (zI v8)), (6, .int (zI v11)), (7, .int (zI (v7 + 1)))] [4, 5, 6, 7, 3, 2, 1, 0] rfl ?_
  refine z_wide (cells' := (2 + 6 * (v7 + 1 : Int).toNat)) (slots' := 6 * (2 + 6 * (v7 + 1 : Int).toNat)) (by omega) (by omega) ?_
  exact k1 _ (Option.some.inj h).symm
noncomputable def J_L_paths_283 (v1 v2 v3 v7 v8 v9 v10 v11 s0 : Int) (st : z_St) : Option ((Int × Int × Int × Int × z_St) ⊕ (Int × Int × z_St)) :=
  z_g (z32 v9) <|
  z_b (J_L_does 8 v9 v10 v11 0 st) fun r10 =>
  z_g (z32 v7) <|
  z_b (J_L_ask 23 v7 5 r10.2) fun r11 =>
  z_g (z64 r10.1 ∧ z64 r11.1) (if r10.1 = r11.1 then
    J_L_paths_320 v1 v2 v3 v7 v8 v11 1 s0 r11.2
  else
    J_L_paths_320 v1 v2 v3 v7 v8 v11 0 s0 r11.2)
set_option maxRecDepth 100000 in
set_option maxHeartbeats 4000000 in
theorem w_L_paths_283 {κ : zK} {a : Nat → Nat} {v1 v2 v3 v7 v8 v9 v10 v11 s0 : Int} {st : z_St} {o : (Int × Int × Int × Int × z_St) ⊕ (Int × Int × z_St)} (hc : z_C κ RL cL_paths 14 28 110 (6 * 110)) (hap : z_AP κ a z_N) (k1 : ∀ s9 : (Int × Int × Int × Int × z_St), o = .inl s9 → z_V κ z_T z_N a (2 + 6 * (s9.2.2.2.1 : Int).toNat) (6 * (2 + 6 * (s9.2.2.2.1 : Int).toNat)) 123 [(0, .ref (a 0)), (1, .int (zI v1)), (2, .int (zI v2)), (3, .int (zI v3)), (4, .int (zI s9.1)), (5, .int (zI s9.2.1)), (6, .int (zI s9.2.2.1)), (7, .int (zI s9.2.2.2.1))] [] s9.2.2.2.2) (k2 : ∀ x9 : (Int × Int × z_St), o = .inr x9 → z_V κ z_T z_N a 110 (6 * 110) 337 [(3, .int (zI v3)), (4, .int (zI x9.1)), (5, .int (zI x9.2.1))] [] x9.2.2) (hv9 : 0 ≤ v7 ∧ v7 ≤ 17) (h : J_L_paths_283 v1 v2 v3 v7 v8 v9 v10 v11 s0 st = some o) : z_V κ z_T z_N a ((2 + 6 * (v7 : Int).toNat) + 4) (6 * ((2 + 6 * (v7 : Int).toNat) + 4)) 283 [(0, .ref (a 0)), (1, .int (zI v1)), (2, .int (zI v2)), (3, .int (zI v3)), (7, .int (zI v7)), (8, .int (zI v8)), (9, .int (zI v9)), (10, .int (zI v10)), (11, .int (zI v11))] [.int (zI s0)] st := by
  unfold J_L_paths_283 at h
  refine z_istore [(4, .int (zI s0)), (0, .ref (a 0)), (1, .int (zI v1)), (2, .int (zI v2)), (3, .int (zI v3)), (7, .int (zI v7)), (8, .int (zI v8)), (9, .int (zI v9)), (10, .int (zI v10)), (11, .int (zI v11))] hc dL_paths_283 (by decide) rfl ?_
  refine z_iload 0 hc dL_paths_285 rfl ?_
  refine z_aload_n (i := 0) 1 hc dL_paths_287 rfl rfl ?_
  refine z_bipush hc dL_paths_288 rfl ?_
  refine z_iload 7 hc dL_paths_290 rfl ?_
  refine z_i2l hc dL_paths_292 h (fun h => ?_)
  refine z_iload 8 hc dL_paths_293 rfl ?_
  refine z_iload 9 hc dL_paths_295 rfl ?_
  refine z_iconst hc dL_paths_297 ?_
  obtain ⟨r10, hr10, h⟩ := z_b_some h
  refine z_callHJ ((2 + 6 * (v7 : Int).toNat) + 5) (6 * ((2 + 6 * (v7 : Int).toNat) + 5)) (mu := 1) (np := 6) [.ref (a 0), .int (zI 8), .long (zJ v9), .int (zI v10), .int (zI v11), .int (zI 0)] hc hap kL_does ml_RL_119 (z_t2 168 rfl rfl) (z_t1 0 rfl rfl) (by decide +kernel) (by decide) (fun l hl => c_L_does hl hr10) (by decide) rfl rfl (Nat.le_of_ble_eq_true rfl) (by omega) (by omega) (by omega) (by omega) dL_paths_298 ?_
  refine z_aload_n (i := 0) 1 hc dL_paths_301 rfl rfl ?_
  refine z_bipush hc dL_paths_302 rfl ?_
  refine z_iload 5 hc dL_paths_304 rfl ?_
  refine z_i2l hc dL_paths_306 h (fun h => ?_)
  refine z_iconst hc dL_paths_307 ?_
  obtain ⟨r11, hr11, h⟩ := z_b_some h
  refine z_callUJ ((2 + 6 * (v7 : Int).toNat) + 6) (6 * ((2 + 6 * (v7 : Int).toNat) + 6)) (mu := 1) [.ref (a 0), .int (zI 23), .long (zJ v7), .int (zI 5)] hc hap o_L_ask ml_RL_125 (fun l hl => c_L_ask hl hr11) (by decide) rfl rfl (Nat.le_of_ble_eq_true rfl) (by omega) (by omega) (by omega) (by omega) dL_paths_308 ?_
  refine z_lcmp_ne (tgt := 319) hc dL_paths_311 dL_paths_312 (by decide) h (fun c311 h => ?_) (fun c311 h => ?_)
  · refine z_iconst hc dL_paths_315 ?_
    refine z_goto (tgt := 320) hc dL_paths_316 (by decide) ?_
    refine z_sub [(0, .ref (a 0)), (1, .int (zI v1)), (2, .int (zI v2)), (3, .int (zI v3)), (7, .int (zI v7)), (8, .int (zI v8)), (11, .int (zI v11))] [1, 2, 3, 4, 5, 6, 9] rfl ?_
    exact w_L_paths_320 hc hap k1 k2 hv9 h
  · refine z_iconst hc dL_paths_319 ?_
    refine z_sub [(0, .ref (a 0)), (1, .int (zI v1)), (2, .int (zI v2)), (3, .int (zI v3)), (7, .int (zI v7)), (8, .int (zI v8)), (11, .int (zI v11))] [1, 2, 3, 4, 5, 6, 9] rfl ?_
    exact w_L_paths_320 hc hap k1 k2 hv9 h
noncomputable def J_L_paths_278 (v1 v2 v3 v7 v8 v9 v10 v11 : Int) (st : z_St) : Option ((Int × Int × Int × Int × z_St) ⊕ (Int × Int × z_St)) :=
  J_L_paths_283 v1 v2 v3 v7 v8 v9 v10 v11 1 st
set_option maxRecDepth 100000 in
set_option maxHeartbeats 4000000 in
theorem w_L_paths_278 {κ : zK} {a : Nat → Nat} {v1 v2 v3 v7 v8 v9 v10 v11 : Int} {st : z_St} {o : (Int × Int × Int × Int × z_St) ⊕ (Int × Int × z_St)} (hc : z_C κ RL cL_paths 14 28 110 (6 * 110)) (hap : z_AP κ a z_N) (k1 : ∀ s9 : (Int × Int × Int × Int × z_St), o = .inl s9 → z_V κ z_T z_N a (2 + 6 * (s9.2.2.2.1 : Int).toNat) (6 * (2 + 6 * (s9.2.2.2.1 : Int).toNat)) 123 [(0, .ref (a 0)), (1, .int (zI v1)), (2, .int (zI v2)), (3, .int (zI v3)), (4, .int (zI s9.1)), (5, .int (zI s9.2.1)), (6, .int (zI s9.2.2.1)), (7, .int (zI s9.2.2.2.1))] [] s9.2.2.2.2) (k2 : ∀ x9 : (Int × Int × z_St), o = .inr x9 → z_V κ z_T z_N a 110 (6 * 110) 337 [(3, .int (zI v3)), (4, .int (zI x9.1)), (5, .int (zI x9.2.1))] [] x9.2.2) (hv9 : 0 ≤ v7 ∧ v7 ≤ 17) (h : J_L_paths_278 v1 v2 v3 v7 v8 v9 v10 v11 st = some o) : z_V κ z_T z_N a ((2 + 6 * (v7 : Int).toNat) + 4) (6 * ((2 + 6 * (v7 : Int).toNat) + 4)) 278 [(0, .ref (a 0)), (1, .int (zI v1)), (2, .int (zI v2)), (3, .int (zI v3)), (7, .int (zI v7)), (8, .int (zI v8)), (9, .int (zI v9)), (10, .int (zI v10)), (11, .int (zI v11))] [] st := by
  unfold J_L_paths_278 at h
  refine z_iconst hc dL_paths_278 ?_
  refine z_goto (tgt := 283) hc dL_paths_279 (by decide) ?_
  refine z_sub [(0, .ref (a 0)), (1, .int (zI v1)), (2, .int (zI v2)), (3, .int (zI v3)), (7, .int (zI v7)), (8, .int (zI v8)), (9, .int (zI v9)), (10, .int (zI v10)), (11, .int (zI v11))] [0, 1, 2, 3, 4, 5, 6, 7, 8] rfl ?_
  exact w_L_paths_283 hc hap k1 k2 hv9 h
noncomputable def J_L_paths_282 (v1 v2 v3 v7 v8 v9 v10 v11 : Int) (st : z_St) : Option ((Int × Int × Int × Int × z_St) ⊕ (Int × Int × z_St)) :=
  J_L_paths_283 v1 v2 v3 v7 v8 v9 v10 v11 0 st
set_option maxRecDepth 100000 in
set_option maxHeartbeats 4000000 in
theorem w_L_paths_282 {κ : zK} {a : Nat → Nat} {v1 v2 v3 v7 v8 v9 v10 v11 : Int} {st : z_St} {o : (Int × Int × Int × Int × z_St) ⊕ (Int × Int × z_St)} (hc : z_C κ RL cL_paths 14 28 110 (6 * 110)) (hap : z_AP κ a z_N) (k1 : ∀ s9 : (Int × Int × Int × Int × z_St), o = .inl s9 → z_V κ z_T z_N a (2 + 6 * (s9.2.2.2.1 : Int).toNat) (6 * (2 + 6 * (s9.2.2.2.1 : Int).toNat)) 123 [(0, .ref (a 0)), (1, .int (zI v1)), (2, .int (zI v2)), (3, .int (zI v3)), (4, .int (zI s9.1)), (5, .int (zI s9.2.1)), (6, .int (zI s9.2.2.1)), (7, .int (zI s9.2.2.2.1))] [] s9.2.2.2.2) (k2 : ∀ x9 : (Int × Int × z_St), o = .inr x9 → z_V κ z_T z_N a 110 (6 * 110) 337 [(3, .int (zI v3)), (4, .int (zI x9.1)), (5, .int (zI x9.2.1))] [] x9.2.2) (hv9 : 0 ≤ v7 ∧ v7 ≤ 17) (h : J_L_paths_282 v1 v2 v3 v7 v8 v9 v10 v11 st = some o) : z_V κ z_T z_N a ((2 + 6 * (v7 : Int).toNat) + 4) (6 * ((2 + 6 * (v7 : Int).toNat) + 4)) 282 [(0, .ref (a 0)), (1, .int (zI v1)), (2, .int (zI v2)), (3, .int (zI v3)), (7, .int (zI v7)), (8, .int (zI v8)), (9, .int (zI v9)), (10, .int (zI v10)), (11, .int (zI v11))] [] st := by
  unfold J_L_paths_282 at h
  refine z_iconst hc dL_paths_282 ?_
  refine z_sub [(0, .ref (a 0)), (1, .int (zI v1)), (2, .int (zI v2)), (3, .int (zI v3)), (7, .int (zI v7)), (8, .int (zI v8)), (9, .int (zI v9)), (10, .int (zI v10)), (11, .int (zI v11))] [0, 1, 2, 3, 4, 5, 6, 7, 8] rfl ?_
  exact w_L_paths_283 hc hap k1 k2 hv9 h
noncomputable def J_L_paths_263 (v1 v2 v3 v7 v8 v9 v10 v11 : Int) (st : z_St) : Option ((Int × Int × Int × Int × z_St) ⊕ (Int × Int × z_St)) :=
  z_g (z32 v7) (if 0 < v7 then
    J_L_paths_278 v1 v2 v3 v7 v8 v9 v10 v11 st
  else
    z_g (z32 v8) (if v8 = 0 then
      z_g (z32 v11) (if v11 = 0 then
        J_L_paths_278 v1 v2 v3 v7 v8 v9 v10 v11 st
      else
        J_L_paths_282 v1 v2 v3 v7 v8 v9 v10 v11 st)
    else
      J_L_paths_282 v1 v2 v3 v7 v8 v9 v10 v11 st))
set_option maxRecDepth 100000 in
set_option maxHeartbeats 4000000 in
theorem w_L_paths_263 {κ : zK} {a : Nat → Nat} {v1 v2 v3 v7 v8 v9 v10 v11 : Int} {st : z_St} {o : (Int × Int × Int × Int × z_St) ⊕ (Int × Int × z_St)} (hc : z_C κ RL cL_paths 14 28 110 (6 * 110)) (hap : z_AP κ a z_N) (k1 : ∀ s9 : (Int × Int × Int × Int × z_St), o = .inl s9 → z_V κ z_T z_N a (2 + 6 * (s9.2.2.2.1 : Int).toNat) (6 * (2 + 6 * (s9.2.2.2.1 : Int).toNat)) 123 [(0, .ref (a 0)), (1, .int (zI v1)), (2, .int (zI v2)), (3, .int (zI v3)), (4, .int (zI s9.1)), (5, .int (zI s9.2.1)), (6, .int (zI s9.2.2.1)), (7, .int (zI s9.2.2.2.1))] [] s9.2.2.2.2) (k2 : ∀ x9 : (Int × Int × z_St), o = .inr x9 → z_V κ z_T z_N a 110 (6 * 110) 337 [(3, .int (zI v3)), (4, .int (zI x9.1)), (5, .int (zI x9.2.1))] [] x9.2.2) (hv9 : 0 ≤ v7 ∧ v7 ≤ 17) (h : J_L_paths_263 v1 v2 v3 v7 v8 v9 v10 v11 st = some o) : z_V κ z_T z_N a ((2 + 6 * (v7 : Int).toNat) + 4) (6 * ((2 + 6 * (v7 : Int).toNat) + 4)) 263 [(0, .ref (a 0)), (1, .int (zI v1)), (2, .int (zI v2)), (3, .int (zI v3)), (7, .int (zI v7)), (8, .int (zI v8)), (9, .int (zI v9)), (10, .int (zI v10)), (11, .int (zI v11))] [] st := by
  unfold J_L_paths_263 at h
  refine z_iload 4 hc dL_paths_263 rfl ?_
  refine z_if_gt (tgt := 278) hc dL_paths_265 (by decide) h (fun c265 h => ?_) (fun c265 h => ?_)
  · refine z_sub [(0, .ref (a 0)), (1, .int (zI v1)), (2, .int (zI v2)), (3, .int (zI v3)), (7, .int (zI v7)), (8, .int (zI v8)), (9, .int (zI v9)), (10, .int (zI v10)), (11, .int (zI v11))] [0, 1, 2, 3, 4, 5, 6, 7, 8] rfl ?_
    exact w_L_paths_278 hc hap k1 k2 hv9 h
  · refine z_iload 5 hc dL_paths_268 rfl ?_
    refine z_if_ne (tgt := 282) hc dL_paths_270 (by decide) h (fun c270 h => ?_) (fun c270 h => ?_)
    · refine z_iload 8 hc dL_paths_273 rfl ?_
      refine z_if_ne (tgt := 282) hc dL_paths_275 (by decide) h (fun c275 h => ?_) (fun c275 h => ?_)
      · refine z_sub [(0, .ref (a 0)), (1, .int (zI v1)), (2, .int (zI v2)), (3, .int (zI v3)), (7, .int (zI v7)), (8, .int (zI v8)), (9, .int (zI v9)), (10, .int (zI v10)), (11, .int (zI v11))] [0, 1, 2, 3, 4, 5, 6, 7, 8] rfl ?_
        exact w_L_paths_278 hc hap k1 k2 hv9 h
      · refine z_sub [(0, .ref (a 0)), (1, .int (zI v1)), (2, .int (zI v2)), (3, .int (zI v3)), (7, .int (zI v7)), (8, .int (zI v8)), (9, .int (zI v9)), (10, .int (zI v10)), (11, .int (zI v11))] [0, 1, 2, 3, 4, 5, 6, 7, 8] rfl ?_
        exact w_L_paths_282 hc hap k1 k2 hv9 h
    · refine z_sub [(0, .ref (a 0)), (1, .int (zI v1)), (2, .int (zI v2)), (3, .int (zI v3)), (7, .int (zI v7)), (8, .int (zI v8)), (9, .int (zI v9)), (10, .int (zI v10)), (11, .int (zI v11))] [0, 1, 2, 3, 4, 5, 6, 7, 8] rfl ?_
      exact w_L_paths_282 hc hap k1 k2 hv9 h
noncomputable def J_L_paths_249 (v1 v2 v3 v5 v7 v8 v9 v10 v11 : Int) (st : z_St) : Option ((Int × Int × Int × Int × z_St) ⊕ (Int × Int × z_St)) :=
  z_g (z32 v8 ∧ z32 (v5 + 1)) (if v8 = v5 + 1 then
    z_g (z32 v11) (if v11 = 0 then
      J_L_paths_263 v1 v2 v3 v7 v8 v9 v10 v11 st
    else
      J_L_paths_282 v1 v2 v3 v7 v8 v9 v10 v11 st)
  else
    J_L_paths_282 v1 v2 v3 v7 v8 v9 v10 v11 st)
set_option maxRecDepth 100000 in
set_option maxHeartbeats 4000000 in
theorem w_L_paths_249 {κ : zK} {a : Nat → Nat} {v1 v2 v3 v5 v7 v8 v9 v10 v11 : Int} {st : z_St} {o : (Int × Int × Int × Int × z_St) ⊕ (Int × Int × z_St)} (hc : z_C κ RL cL_paths 14 28 110 (6 * 110)) (hap : z_AP κ a z_N) (k1 : ∀ s9 : (Int × Int × Int × Int × z_St), o = .inl s9 → z_V κ z_T z_N a (2 + 6 * (s9.2.2.2.1 : Int).toNat) (6 * (2 + 6 * (s9.2.2.2.1 : Int).toNat)) 123 [(0, .ref (a 0)), (1, .int (zI v1)), (2, .int (zI v2)), (3, .int (zI v3)), (4, .int (zI s9.1)), (5, .int (zI s9.2.1)), (6, .int (zI s9.2.2.1)), (7, .int (zI s9.2.2.2.1))] [] s9.2.2.2.2) (k2 : ∀ x9 : (Int × Int × z_St), o = .inr x9 → z_V κ z_T z_N a 110 (6 * 110) 337 [(3, .int (zI v3)), (4, .int (zI x9.1)), (5, .int (zI x9.2.1))] [] x9.2.2) (hv9 : 0 ≤ v7 ∧ v7 ≤ 17) (h : J_L_paths_249 v1 v2 v3 v5 v7 v8 v9 v10 v11 st = some o) : z_V κ z_T z_N a ((2 + 6 * (v7 : Int).toNat) + 4) (6 * ((2 + 6 * (v7 : Int).toNat) + 4)) 249 [(0, .ref (a 0)), (1, .int (zI v1)), (2, .int (zI v2)), (3, .int (zI v3)), (5, .int (zI v5)), (7, .int (zI v7)), (8, .int (zI v8)), (9, .int (zI v9)), (10, .int (zI v10)), (11, .int (zI v11))] [] st := by
  unfold J_L_paths_249 at h
  refine z_iload 6 hc dL_paths_249 rfl ?_
  refine z_iload 4 hc dL_paths_251 rfl ?_
  refine z_iconst hc dL_paths_253 ?_
  refine z_iadd hc dL_paths_254 ?_
  refine z_icmp_ne (tgt := 282) hc dL_paths_255 (by decide) h (fun c255 h => ?_) (fun c255 h => ?_)
  · refine z_iload 9 hc dL_paths_258 rfl ?_
    refine z_if_ne (tgt := 282) hc dL_paths_260 (by decide) h (fun c260 h => ?_) (fun c260 h => ?_)
    · refine z_sub [(0, .ref (a 0)), (1, .int (zI v1)), (2, .int (zI v2)), (3, .int (zI v3)), (7, .int (zI v7)), (8, .int (zI v8)), (9, .int (zI v9)), (10, .int (zI v10)), (11, .int (zI v11))] [0, 1, 2, 3, 5, 6, 7, 8, 9] rfl ?_
      exact w_L_paths_263 hc hap k1 k2 hv9 h
    · refine z_sub [(0, .ref (a 0)), (1, .int (zI v1)), (2, .int (zI v2)), (3, .int (zI v3)), (7, .int (zI v7)), (8, .int (zI v8)), (9, .int (zI v9)), (10, .int (zI v10)), (11, .int (zI v11))] [0, 1, 2, 3, 5, 6, 7, 8, 9] rfl ?_
      exact w_L_paths_282 hc hap k1 k2 hv9 h
  · refine z_sub [(0, .ref (a 0)), (1, .int (zI v1)), (2, .int (zI v2)), (3, .int (zI v3)), (7, .int (zI v7)), (8, .int (zI v8)), (9, .int (zI v9)), (10, .int (zI v10)), (11, .int (zI v11))] [0, 1, 2, 3, 5, 6, 7, 8, 9] rfl ?_
    exact w_L_paths_282 hc hap k1 k2 hv9 h
noncomputable def J_L_paths_b123 (v1 v2 v3 v4 v5 v6 v7 : Int) (st : z_St) : Option ((Int × Int × Int × Int × z_St) ⊕ (Int × Int × z_St)) :=
  z_g (0 ≤ v7 ∧ v7 ≤ 17) <|
  z_g (z32 v7 ∧ z32 v1) (if v7 < v1 then
    z_g (z32 v4) (if v4 = 0 then
      some (.inr (v4, v5, st))
    else
      z_g (z32 v7) <|
      z_b (J_L_ask 23 v7 0 st) fun r5 =>
      z_g (z32 v7) <|
      z_b (J_L_ask 23 v7 1 r5.2) fun r6 =>
      z_g (z32 v7) <|
      z_b (J_L_ask 23 v7 2 r6.2) fun r7 =>
      z_g (z32 v7) <|
      z_b (J_L_ask 23 v7 3 r7.2) fun r8 =>
      z_b (z_iter z_F (fun q9 : (Int × Int × z_St) => J_L_paths_b194 v1 v2 v3 v5 v6 v7 r5.1 r6.1 r7.1 r8.1 q9.1 q9.2.1 q9.2.2) (v2, v3 - 1, r8.2)) fun lx9 =>
        z_g (z32 lx9.1 ∧ z32 10 ∧ (10 : Int) ≠ 0) <|
        z_g (z32 r6.1 ∧ z32 ((lx9.1.tmod 10) - 1)) (if r6.1 = (lx9.1.tmod 10) - 1 then
          z_g (z32 r5.1 ∧ z32 v5) (if r5.1 = v5 then
            z_g (z32 r8.1 ∧ z32 v6) (if r8.1 = v6 then
              J_L_paths_263 v1 v2 v3 v7 r5.1 r6.1 r7.1 r8.1 lx9.2
            else
              z_g (z32 r8.1 ∧ z32 (v6 + 1)) (if r8.1 = v6 + 1 then
                J_L_paths_263 v1 v2 v3 v7 r5.1 r6.1 r7.1 r8.1 lx9.2
              else
                J_L_paths_249 v1 v2 v3 v5 v7 r5.1 r6.1 r7.1 r8.1 lx9.2))
          else
            J_L_paths_249 v1 v2 v3 v5 v7 r5.1 r6.1 r7.1 r8.1 lx9.2)
        else
          J_L_paths_282 v1 v2 v3 v7 r5.1 r6.1 r7.1 r8.1 lx9.2))
  else
    some (.inr (v4, v5, st)))
set_option maxRecDepth 100000 in
set_option maxHeartbeats 4000000 in
theorem w_L_paths_b123 {κ : zK} {a : Nat → Nat} {v1 v2 v3 v4 v5 v6 v7 : Int} {st : z_St} {o : (Int × Int × Int × Int × z_St) ⊕ (Int × Int × z_St)} (hc : z_C κ RL cL_paths 14 28 110 (6 * 110)) (hap : z_AP κ a z_N) (k1 : ∀ s9 : (Int × Int × Int × Int × z_St), o = .inl s9 → z_V κ z_T z_N a (2 + 6 * (s9.2.2.2.1 : Int).toNat) (6 * (2 + 6 * (s9.2.2.2.1 : Int).toNat)) 123 [(0, .ref (a 0)), (1, .int (zI v1)), (2, .int (zI v2)), (3, .int (zI v3)), (4, .int (zI s9.1)), (5, .int (zI s9.2.1)), (6, .int (zI s9.2.2.1)), (7, .int (zI s9.2.2.2.1))] [] s9.2.2.2.2) (k2 : ∀ x9 : (Int × Int × z_St), o = .inr x9 → z_V κ z_T z_N a 110 (6 * 110) 337 [(3, .int (zI v3)), (4, .int (zI x9.1)), (5, .int (zI x9.2.1))] [] x9.2.2) (h : J_L_paths_b123 v1 v2 v3 v4 v5 v6 v7 st = some o) : z_V κ z_T z_N a (2 + 6 * (v7 : Int).toNat) (6 * (2 + 6 * (v7 : Int).toNat)) 123 [(0, .ref (a 0)), (1, .int (zI v1)), (2, .int (zI v2)), (3, .int (zI v3)), (4, .int (zI v4)), (5, .int (zI v5)), (6, .int (zI v6)), (7, .int (zI v7))] [] st := by
  unfold J_L_paths_b123 at h
  obtain ⟨hv9, h⟩ := z_g_some h
  refine z_iload 7 hc dL_paths_123 rfl ?_
  refine z_iload_n (i := 1) 1 hc dL_paths_125 rfl rfl ?_
  refine z_icmp_ge (tgt := 337) hc dL_paths_126 (by decide) h (fun c126 h => ?_) (fun c126 h => ?_)
  · refine z_iload 4 hc dL_paths_129 rfl ?_
    refine z_if_eq (tgt := 337) hc dL_paths_131 (by decide) h (fun c131 h => ?_) (fun c131 h => ?_)
    · refine z_sub [(3, .int (zI v3)), (4, .int (zI v4)), (5, .int (zI v5))] [3, 4, 5] rfl ?_
      refine z_wide (cells' := 110) (slots' := 6 * 110) (by omega) (by omega) ?_
      exact k2 (v4, v5, st) (Option.some.inj h).symm
    · refine z_aload_n (i := 0) 0 hc dL_paths_134 rfl rfl ?_
      refine z_bipush hc dL_paths_135 rfl ?_
      refine z_iload 7 hc dL_paths_137 rfl ?_
      refine z_i2l hc dL_paths_139 h (fun h => ?_)
      refine z_iconst hc dL_paths_140 ?_
      obtain ⟨r5, hr5, h⟩ := z_b_some h
      refine z_callUJ ((2 + 6 * (v7 : Int).toNat) + 1) (6 * ((2 + 6 * (v7 : Int).toNat) + 1)) (mu := 1) [.ref (a 0), .int (zI 23), .long (zJ v7), .int (zI 0)] hc hap o_L_ask ml_RL_125 (fun l hl => c_L_ask hl hr5) (by decide) rfl rfl (Nat.le_of_ble_eq_true rfl) (by omega) (by omega) (by omega) (by omega) dL_paths_141 ?_
      refine z_l2i hc dL_paths_144 ?_
      refine z_istore [(8, .int (zI r5.1)), (0, .ref (a 0)), (1, .int (zI v1)), (2, .int (zI v2)), (3, .int (zI v3)), (4, .int (zI v4)), (5, .int (zI v5)), (6, .int (zI v6)), (7, .int (zI v7))] hc dL_paths_145 (by decide) rfl ?_
      refine z_aload_n (i := 0) 1 hc dL_paths_147 rfl rfl ?_
      refine z_bipush hc dL_paths_148 rfl ?_
      refine z_iload 8 hc dL_paths_150 rfl ?_
      refine z_i2l hc dL_paths_152 h (fun h => ?_)
      refine z_iconst hc dL_paths_153 ?_
      obtain ⟨r6, hr6, h⟩ := z_b_some h
      refine z_callUJ ((2 + 6 * (v7 : Int).toNat) + 2) (6 * ((2 + 6 * (v7 : Int).toNat) + 2)) (mu := 1) [.ref (a 0), .int (zI 23), .long (zJ v7), .int (zI 1)] hc hap o_L_ask ml_RL_125 (fun l hl => c_L_ask hl hr6) (by decide) rfl rfl (Nat.le_of_ble_eq_true rfl) (by omega) (by omega) (by omega) (by omega) dL_paths_154 ?_
      refine z_l2i hc dL_paths_157 ?_
      refine z_istore [(9, .int (zI r6.1)), (8, .int (zI r5.1)), (0, .ref (a 0)), (1, .int (zI v1)), (2, .int (zI v2)), (3, .int (zI v3)), (4, .int (zI v4)), (5, .int (zI v5)), (6, .int (zI v6)), (7, .int (zI v7))] hc dL_paths_158 (by decide) rfl ?_
      refine z_aload_n (i := 0) 2 hc dL_paths_160 rfl rfl ?_
      refine z_bipush hc dL_paths_161 rfl ?_
      refine z_iload 9 hc dL_paths_163 rfl ?_
      refine z_i2l hc dL_paths_165 h (fun h => ?_)
      refine z_iconst hc dL_paths_166 ?_
      obtain ⟨r7, hr7, h⟩ := z_b_some h
      refine z_callUJ ((2 + 6 * (v7 : Int).toNat) + 3) (6 * ((2 + 6 * (v7 : Int).toNat) + 3)) (mu := 1) [.ref (a 0), .int (zI 23), .long (zJ v7), .int (zI 2)] hc hap o_L_ask ml_RL_125 (fun l hl => c_L_ask hl hr7) (by decide) rfl rfl (Nat.le_of_ble_eq_true rfl) (by omega) (by omega) (by omega) (by omega) dL_paths_167 ?_
      refine z_l2i hc dL_paths_170 ?_
      refine z_istore [(10, .int (zI r7.1)), (9, .int (zI r6.1)), (8, .int (zI r5.1)), (0, .ref (a 0)), (1, .int (zI v1)), (2, .int (zI v2)), (3, .int (zI v3)), (4, .int (zI v4)), (5, .int (zI v5)), (6, .int (zI v6)), (7, .int (zI v7))] hc dL_paths_171 (by decide) rfl ?_
      refine z_aload_n (i := 0) 3 hc dL_paths_173 rfl rfl ?_
      refine z_bipush hc dL_paths_174 rfl ?_
      refine z_iload 10 hc dL_paths_176 rfl ?_
      refine z_i2l hc dL_paths_178 h (fun h => ?_)
      refine z_iconst hc dL_paths_179 ?_
      obtain ⟨r8, hr8, h⟩ := z_b_some h
      refine z_callUJ ((2 + 6 * (v7 : Int).toNat) + 4) (6 * ((2 + 6 * (v7 : Int).toNat) + 4)) (mu := 1) [.ref (a 0), .int (zI 23), .long (zJ v7), .int (zI 3)] hc hap o_L_ask ml_RL_125 (fun l hl => c_L_ask hl hr8) (by decide) rfl rfl (Nat.le_of_ble_eq_true rfl) (by omega) (by omega) (by omega) (by omega) dL_paths_180 ?_
      refine z_l2i hc dL_paths_183 ?_
      refine z_istore [(11, .int (zI r8.1)), (10, .int (zI r7.1)), (9, .int (zI r6.1)), (8, .int (zI r5.1)), (0, .ref (a 0)), (1, .int (zI v1)), (2, .int (zI v2)), (3, .int (zI v3)), (4, .int (zI v4)), (5, .int (zI v5)), (6, .int (zI v6)), (7, .int (zI v7))] hc dL_paths_184 (by decide) rfl ?_
      refine z_iload_n (i := 2) 6 hc dL_paths_186 rfl rfl ?_
      refine z_istore [(12, .int (zI v2)), (11, .int (zI r8.1)), (10, .int (zI r7.1)), (9, .int (zI r6.1)), (8, .int (zI r5.1)), (0, .ref (a 0)), (1, .int (zI v1)), (2, .int (zI v2)), (3, .int (zI v3)), (4, .int (zI v4)), (5, .int (zI v5)), (6, .int (zI v6)), (7, .int (zI v7))] hc dL_paths_187 (by decide) rfl ?_
      refine z_iload_n (i := 3) 8 hc dL_paths_189 rfl rfl ?_
      refine z_iconst hc dL_paths_190 ?_
      refine z_isub hc dL_paths_191 ?_
      refine z_istore [(13, .int (zI (v3 - 1))), (12, .int (zI v2)), (11, .int (zI r8.1)), (10, .int (zI r7.1)), (9, .int (zI r6.1)), (8, .int (zI r5.1)), (0, .ref (a 0)), (1, .int (zI v1)), (2, .int (zI v2)), (3, .int (zI v3)), (4, .int (zI v4)), (5, .int (zI v5)), (6, .int (zI v6)), (7, .int (zI v7))] hc dL_paths_192 (by decide) rfl ?_
      obtain ⟨lx9, hlx9, h⟩ := z_b_some h
      refine z_sub [(0, .ref (a 0)), (1, .int (zI v1)), (2, .int (zI v2)), (3, .int (zI v3)), (5, .int (zI v5)), (6, .int (zI v6)), (7, .int (zI v7)), (8, .int (zI r5.1)), (9, .int (zI r6.1)), (10, .int (zI r7.1)), (11, .int (zI r8.1)), (12, .int (zI v2)), (13, .int (zI (v3 - 1)))] [6, 7, 8, 9, 11, 12, 13, 5, 4, 3, 2, 1, 0] rfl ?_
      refine z_loop (fun q9 : (Int × Int × z_St) => J_L_paths_b194 v1 v2 v3 v5 v6 v7 r5.1 r6.1 r7.1 r8.1 q9.1 q9.2.1 q9.2.2) (fun q9 : (Int × Int × z_St) => z_V κ z_T z_N a ((2 + 6 * (v7 : Int).toNat) + 4) (6 * ((2 + 6 * (v7 : Int).toNat) + 4)) 194 [(0, .ref (a 0)), (1, .int (zI v1)), (2, .int (zI v2)), (3, .int (zI v3)), (5, .int (zI v5)), (6, .int (zI v6)), (7, .int (zI v7)), (8, .int (zI r5.1)), (9, .int (zI r6.1)), (10, .int (zI r7.1)), (11, .int (zI r8.1)), (12, .int (zI q9.1)), (13, .int (zI q9.2.1))] [] q9.2.2) (fun x9 : (Int × z_St) => z_V κ z_T z_N a ((2 + 6 * (v7 : Int).toNat) + 4) (6 * ((2 + 6 * (v7 : Int).toNat) + 4)) 214 [(0, .ref (a 0)), (1, .int (zI v1)), (2, .int (zI v2)), (3, .int (zI v3)), (5, .int (zI v5)), (6, .int (zI v6)), (7, .int (zI v7)), (8, .int (zI r5.1)), (9, .int (zI r6.1)), (10, .int (zI r7.1)), (11, .int (zI r8.1)), (12, .int (zI x9.1))] [] x9.2) (fun q9 o9 hb k1 k2 => ?_) _ _ _ hlx9 ?_
      · exact w_L_paths_b194 hc hap k1 k2 hv9 hb
      · show z_V κ z_T z_N a ((2 + 6 * (v7 : Int).toNat) + 4) (6 * ((2 + 6 * (v7 : Int).toNat) + 4)) 214 [(0, .ref (a 0)), (1, .int (zI v1)), (2, .int (zI v2)), (3, .int (zI v3)), (5, .int (zI v5)), (6, .int (zI v6)), (7, .int (zI v7)), (8, .int (zI r5.1)), (9, .int (zI r6.1)), (10, .int (zI r7.1)), (11, .int (zI r8.1)), (12, .int (zI lx9.1))] [] lx9.2
        refine z_iload 8 hc dL_paths_214 rfl ?_
        refine z_iload 11 hc dL_paths_216 rfl ?_
        refine z_bipush hc dL_paths_218 rfl ?_
        refine z_irem hc dL_paths_220 h (fun h => ?_)
        refine z_iconst hc dL_paths_221 ?_
        refine z_isub hc dL_paths_222 ?_
        refine z_icmp_ne (tgt := 282) hc dL_paths_223 (by decide) h (fun c223 h => ?_) (fun c223 h => ?_)
        · refine z_iload 7 hc dL_paths_226 rfl ?_
          refine z_iload 4 hc dL_paths_228 rfl ?_
          refine z_icmp_ne (tgt := 249) hc dL_paths_230 (by decide) h (fun c230 h => ?_) (fun c230 h => ?_)
          · refine z_iload 10 hc dL_paths_233 rfl ?_
            refine z_iload 5 hc dL_paths_235 rfl ?_
            refine z_icmp_eq (tgt := 263) hc dL_paths_237 (by decide) h (fun c237 h => ?_) (fun c237 h => ?_)
            · refine z_sub [(0, .ref (a 0)), (1, .int (zI v1)), (2, .int (zI v2)), (3, .int (zI v3)), (7, .int (zI v7)), (8, .int (zI r5.1)), (9, .int (zI r6.1)), (10, .int (zI r7.1)), (11, .int (zI r8.1))] [0, 1, 2, 3, 6, 7, 8, 9, 10] rfl ?_
              exact w_L_paths_263 hc hap k1 k2 hv9 h
            · refine z_iload 10 hc dL_paths_240 rfl ?_
              refine z_iload 5 hc dL_paths_242 rfl ?_
              refine z_iconst hc dL_paths_244 ?_
              refine z_iadd hc dL_paths_245 ?_
              refine z_icmp_eq (tgt := 263) hc dL_paths_246 (by decide) h (fun c246 h => ?_) (fun c246 h => ?_)
              · refine z_sub [(0, .ref (a 0)), (1, .int (zI v1)), (2, .int (zI v2)), (3, .int (zI v3)), (7, .int (zI v7)), (8, .int (zI r5.1)), (9, .int (zI r6.1)), (10, .int (zI r7.1)), (11, .int (zI r8.1))] [0, 1, 2, 3, 6, 7, 8, 9, 10] rfl ?_
                exact w_L_paths_263 hc hap k1 k2 hv9 h
              · refine z_sub [(0, .ref (a 0)), (1, .int (zI v1)), (2, .int (zI v2)), (3, .int (zI v3)), (5, .int (zI v5)), (7, .int (zI v7)), (8, .int (zI r5.1)), (9, .int (zI r6.1)), (10, .int (zI r7.1)), (11, .int (zI r8.1))] [0, 1, 2, 3, 4, 6, 7, 8, 9, 10] rfl ?_
                exact w_L_paths_249 hc hap k1 k2 hv9 h
          · refine z_sub [(0, .ref (a 0)), (1, .int (zI v1)), (2, .int (zI v2)), (3, .int (zI v3)), (5, .int (zI v5)), (7, .int (zI v7)), (8, .int (zI r5.1)), (9, .int (zI r6.1)), (10, .int (zI r7.1)), (11, .int (zI r8.1))] [0, 1, 2, 3, 4, 6, 7, 8, 9, 10] rfl ?_
            exact w_L_paths_249 hc hap k1 k2 hv9 h
        · refine z_sub [(0, .ref (a 0)), (1, .int (zI v1)), (2, .int (zI v2)), (3, .int (zI v3)), (7, .int (zI v7)), (8, .int (zI r5.1)), (9, .int (zI r6.1)), (10, .int (zI r7.1)), (11, .int (zI r8.1))] [0, 1, 2, 3, 6, 7, 8, 9, 10] rfl ?_
          exact w_L_paths_282 hc hap k1 k2 hv9 h
  · refine z_sub [(3, .int (zI v3)), (4, .int (zI v4)), (5, .int (zI v5))] [3, 4, 5] rfl ?_
    refine z_wide (cells' := 110) (slots' := 6 * 110) (by omega) (by omega) ?_
    exact k2 (v4, v5, st) (Option.some.inj h).symm
noncomputable def J_L_paths_355 (s0 : Int) (st : z_St) : Option (Int × z_St) :=
  z_g (s0 = 0 ∨ s0 = 1) <|
  some (s0, st)
set_option maxRecDepth 100000 in
set_option maxHeartbeats 4000000 in
theorem w_L_paths_355 {κ : zK} {a : Nat → Nat} {s0 : Int} {st : z_St} {o : Int × z_St} (hc : z_C κ RL cL_paths 14 28 110 (6 * 110)) (hap : z_AP κ a z_N) (he : z_EU 0 110 κ (some .boolean) z_T z_N a o.1 o.2) (h : J_L_paths_355 s0 st = some o) : z_V κ z_T z_N a 110 (6 * 110) 355 [] [.int (zI s0)] st := by
  unfold J_L_paths_355 at h
  obtain ⟨hz, h⟩ := z_g_some h
  have h := Option.some.inj h
  subst h
  exact z_retUZ hc he hz dL_paths_355
noncomputable def J_L_paths_354 (st : z_St) : Option (Int × z_St) :=
  J_L_paths_355 0 st
set_option maxRecDepth 100000 in
set_option maxHeartbeats 4000000 in
theorem w_L_paths_354 {κ : zK} {a : Nat → Nat} {st : z_St} {o : Int × z_St} (hc : z_C κ RL cL_paths 14 28 110 (6 * 110)) (hap : z_AP κ a z_N) (he : z_EU 0 110 κ (some .boolean) z_T z_N a o.1 o.2) (h : J_L_paths_354 st = some o) : z_V κ z_T z_N a 110 (6 * 110) 354 [] [] st := by
  unfold J_L_paths_354 at h
  refine z_iconst hc dL_paths_354 ?_
  refine z_sub [] [] rfl ?_
  exact w_L_paths_355 hc hap he h
noncomputable def J_L_paths_112 (v1 v2 v3 s0 : Int) (st : z_St) : Option (Int × z_St) :=
  z_b (z_iter z_F (fun q9 : (Int × Int × Int × Int × z_St) => J_L_paths_b123 v1 v2 v3 q9.1 q9.2.1 q9.2.2.1 q9.2.2.2.1 q9.2.2.2.2) (s0, 0, 0, 0, st)) fun lx12 =>
    z_g (z32 lx12.1) (if lx12.1 = 0 then
      J_L_paths_354 lx12.2.2
    else
      z_g (z32 lx12.2.1 ∧ z32 (v3 - 1)) (if lx12.2.1 = v3 - 1 then
        J_L_paths_355 1 lx12.2.2
      else
        J_L_paths_354 lx12.2.2))
set_option maxRecDepth 100000 in
set_option maxHeartbeats 4000000 in
theorem w_L_paths_112 {κ : zK} {a : Nat → Nat} {v1 v2 v3 s0 : Int} {st : z_St} {o : Int × z_St} (hc : z_C κ RL cL_paths 14 28 110 (6 * 110)) (hap : z_AP κ a z_N) (he : z_EU 0 110 κ (some .boolean) z_T z_N a o.1 o.2) (h : J_L_paths_112 v1 v2 v3 s0 st = some o) : z_V κ z_T z_N a 2 (6 * 2) 112 [(0, .ref (a 0)), (1, .int (zI v1)), (2, .int (zI v2)), (3, .int (zI v3))] [.int (zI s0)] st := by
  unfold J_L_paths_112 at h
  refine z_istore [(4, .int (zI s0)), (0, .ref (a 0)), (1, .int (zI v1)), (2, .int (zI v2)), (3, .int (zI v3))] hc dL_paths_112 (by decide) rfl ?_
  refine z_iconst hc dL_paths_114 ?_
  refine z_istore [(5, .int (zI 0)), (4, .int (zI s0)), (0, .ref (a 0)), (1, .int (zI v1)), (2, .int (zI v2)), (3, .int (zI v3))] hc dL_paths_115 (by decide) rfl ?_
  refine z_iconst hc dL_paths_117 ?_
  refine z_istore [(6, .int (zI 0)), (5, .int (zI 0)), (4, .int (zI s0)), (0, .ref (a 0)), (1, .int (zI v1)), (2, .int (zI v2)), (3, .int (zI v3))] hc dL_paths_118 (by decide) rfl ?_
  refine z_iconst hc dL_paths_120 ?_
  refine z_istore [(7, .int (zI 0)), (6, .int (zI 0)), (5, .int (zI 0)), (4, .int (zI s0)), (0, .ref (a 0)), (1, .int (zI v1)), (2, .int (zI v2)), (3, .int (zI v3))] hc dL_paths_121 (by decide) rfl ?_
  obtain ⟨lx12, hlx12, h⟩ := z_b_some h
  refine z_sub [(0, .ref (a 0)), (1, .int (zI v1)), (2, .int (zI v2)), (3, .int (zI v3)), (4, .int (zI s0)), (5, .int (zI 0)), (6, .int (zI 0)), (7, .int (zI 0))] [4, 5, 6, 7, 3, 2, 1, 0] rfl ?_
  refine z_wide (cells' := (2 + 6 * (0 : Int).toNat)) (slots' := 6 * (2 + 6 * (0 : Int).toNat)) (by omega) (by omega) ?_
  refine z_loop (fun q9 : (Int × Int × Int × Int × z_St) => J_L_paths_b123 v1 v2 v3 q9.1 q9.2.1 q9.2.2.1 q9.2.2.2.1 q9.2.2.2.2) (fun q9 : (Int × Int × Int × Int × z_St) => z_V κ z_T z_N a (2 + 6 * (q9.2.2.2.1 : Int).toNat) (6 * (2 + 6 * (q9.2.2.2.1 : Int).toNat)) 123 [(0, .ref (a 0)), (1, .int (zI v1)), (2, .int (zI v2)), (3, .int (zI v3)), (4, .int (zI q9.1)), (5, .int (zI q9.2.1)), (6, .int (zI q9.2.2.1)), (7, .int (zI q9.2.2.2.1))] [] q9.2.2.2.2) (fun x9 : (Int × Int × z_St) => z_V κ z_T z_N a 110 (6 * 110) 337 [(3, .int (zI v3)), (4, .int (zI x9.1)), (5, .int (zI x9.2.1))] [] x9.2.2) (fun q9 o9 hb k1 k2 => ?_) _ _ _ hlx12 ?_
  · exact w_L_paths_b123 hc hap k1 k2 hb
  · show z_V κ z_T z_N a 110 (6 * 110) 337 [(3, .int (zI v3)), (4, .int (zI lx12.1)), (5, .int (zI lx12.2.1))] [] lx12.2.2
    refine z_iload 1 hc dL_paths_337 rfl ?_
    refine z_if_eq (tgt := 354) hc dL_paths_339 (by decide) h (fun c339 h => ?_) (fun c339 h => ?_)
    · refine z_sub [] [] rfl ?_
      exact w_L_paths_354 hc hap he h
    · refine z_iload 2 hc dL_paths_342 rfl ?_
      refine z_iload_n (i := 3) 0 hc dL_paths_344 rfl rfl ?_
      refine z_iconst hc dL_paths_345 ?_
      refine z_isub hc dL_paths_346 ?_
      refine z_icmp_ne (tgt := 354) hc dL_paths_347 (by decide) h (fun c347 h => ?_) (fun c347 h => ?_)
      · refine z_iconst hc dL_paths_350 ?_
        refine z_goto (tgt := 355) hc dL_paths_351 (by decide) ?_
        refine z_sub [] [] rfl ?_
        exact w_L_paths_355 hc hap he h
      · refine z_sub [] [] rfl ?_
        exact w_L_paths_354 hc hap he h
noncomputable def J_L_paths_92 (v1 v2 s0 : Int) (st : z_St) : Option (Int × z_St) :=
  z_g (z32 v2) <|
  z_b (J_L_ask 24 v2 0 st) fun r4 =>
  z_g (z64 r4.1 ∧ z64 0) (if r4.1 = 0 then
    J_L_paths_112 v1 v2 s0 1 r4.2
  else
    J_L_paths_112 v1 v2 s0 0 r4.2)
set_option maxRecDepth 100000 in
set_option maxHeartbeats 4000000 in
theorem w_L_paths_92 {κ : zK} {a : Nat → Nat} {v1 v2 s0 : Int} {st : z_St} {o : Int × z_St} (hc : z_C κ RL cL_paths 14 28 110 (6 * 110)) (hap : z_AP κ a z_N) (he : z_EU 0 110 κ (some .boolean) z_T z_N a o.1 o.2) (h : J_L_paths_92 v1 v2 s0 st = some o) : z_V κ z_T z_N a 1 (6 * 1) 92 [(0, .ref (a 0)), (1, .int (zI v1)), (2, .int (zI v2))] [.int (zI s0)] st := by
  unfold J_L_paths_92 at h
  refine z_istore_n (i := 3) [(3, .int (zI s0)), (0, .ref (a 0)), (1, .int (zI v1)), (2, .int (zI v2))] hc dL_paths_92 rfl (by decide) rfl ?_
  refine z_aload_n (i := 0) 1 hc dL_paths_93 rfl rfl ?_
  refine z_bipush hc dL_paths_94 rfl ?_
  refine z_iload_n (i := 2) 3 hc dL_paths_96 rfl rfl ?_
  refine z_i2l hc dL_paths_97 h (fun h => ?_)
  refine z_iconst hc dL_paths_98 ?_
  obtain ⟨r4, hr4, h⟩ := z_b_some h
  refine z_callUJ 2 (6 * 2) (mu := 1) [.ref (a 0), .int (zI 24), .long (zJ v2), .int (zI 0)] hc hap o_L_ask ml_RL_125 (fun l hl => c_L_ask hl hr4) (by decide) rfl rfl (Nat.le_of_ble_eq_true rfl) (by omega) (by omega) (by omega) (by omega) dL_paths_99 ?_
  refine z_lconst 0 hc dL_paths_102 rfl ?_
  refine z_lcmp_ne (tgt := 111) hc dL_paths_103 dL_paths_104 (by decide) h (fun c103 h => ?_) (fun c103 h => ?_)
  · refine z_iconst hc dL_paths_107 ?_
    refine z_goto (tgt := 112) hc dL_paths_108 (by decide) ?_
    refine z_sub [(0, .ref (a 0)), (1, .int (zI v1)), (2, .int (zI v2)), (3, .int (zI s0))] [1, 2, 3, 0] rfl ?_
    exact w_L_paths_112 hc hap he h
  · refine z_iconst hc dL_paths_111 ?_
    refine z_sub [(0, .ref (a 0)), (1, .int (zI v1)), (2, .int (zI v2)), (3, .int (zI s0))] [1, 2, 3, 0] rfl ?_
    exact w_L_paths_112 hc hap he h
noncomputable def J_L_paths (x1 : Int) (st : z_St) : Option (Int × z_St) :=
  z_b (J_L_ask 17 0 0 st) fun r1 =>
  z_g (z32 r1.1) (if r1.1 < 0 then
    z_b (J_L_ask 23 0 0 r1.2) fun r2 =>
    z_g (z32 x1) (if x1 = 0 then
      J_L_paths_35 (-1002) r2.1 r2.2
    else
      J_L_paths_35 (-1004) r2.1 r2.2)
  else
    z_g (z32 r1.1 ∧ z32 10) (if r1.1 < 10 then
      J_L_paths_92 x1 r1.1 1 r1.2
    else
      z_g (z32 r1.1 ∧ z32 100) (if r1.1 < 100 then
        J_L_paths_92 x1 r1.1 2 r1.2
      else
        z_g (z32 r1.1 ∧ z32 1000) (if r1.1 < 1000 then
          J_L_paths_92 x1 r1.1 3 r1.2
        else
          J_L_paths_92 x1 r1.1 4 r1.2))))
set_option maxRecDepth 100000 in
set_option maxHeartbeats 4000000 in
theorem w_L_paths {κ : zK} {a : Nat → Nat} {x1 : Int} {st : z_St} {o : Int × z_St} (hc : z_C κ RL cL_paths 14 28 110 (6 * 110)) (hap : z_AP κ a z_N) (he : z_EU 0 110 κ (some .boolean) z_T z_N a o.1 o.2) (h : J_L_paths x1 st = some o) : z_V κ z_T z_N a 0 (6 * 0) 0 [(0, .ref (a 0)), (1, .int (zI x1))] [] st := by
  unfold J_L_paths at h
  refine z_aload_n (i := 0) 0 hc dL_paths_0 rfl rfl ?_
  refine z_bipush hc dL_paths_1 rfl ?_
  refine z_lconst 0 hc dL_paths_3 rfl ?_
  refine z_iconst hc dL_paths_4 ?_
  obtain ⟨r1, hr1, h⟩ := z_b_some h
  refine z_callUJ 1 (6 * 1) (mu := 1) [.ref (a 0), .int (zI 17), .long (zJ 0), .int (zI 0)] hc hap o_L_ask ml_RL_125 (fun l hl => c_L_ask hl hr1) (by decide) rfl rfl (Nat.le_of_ble_eq_true rfl) (by omega) (by omega) (by omega) (by omega) dL_paths_5 ?_
  refine z_l2i hc dL_paths_8 ?_
  refine z_istore_n (i := 2) [(2, .int (zI r1.1)), (0, .ref (a 0)), (1, .int (zI x1))] hc dL_paths_9 rfl (by decide) rfl ?_
  refine z_iload_n (i := 2) 0 hc dL_paths_10 rfl rfl ?_
  refine z_if_ge (tgt := 60) hc dL_paths_11 (by decide) h (fun c11 h => ?_) (fun c11 h => ?_)
  · refine z_aload_n (i := 0) 1 hc dL_paths_14 rfl rfl ?_
    refine z_bipush hc dL_paths_15 rfl ?_
    refine z_lconst 0 hc dL_paths_17 rfl ?_
    refine z_iconst hc dL_paths_18 ?_
    obtain ⟨r2, hr2, h⟩ := z_b_some h
    refine z_callUJ 2 (6 * 2) (mu := 1) [.ref (a 0), .int (zI 23), .long (zJ 0), .int (zI 0)] hc hap o_L_ask ml_RL_125 (fun l hl => c_L_ask hl hr2) (by decide) rfl rfl (Nat.le_of_ble_eq_true rfl) (by omega) (by omega) (by omega) (by omega) dL_paths_19 ?_
    refine z_iload_n (i := 1) 2 hc dL_paths_22 rfl rfl ?_
    refine z_if_ne (tgt := 32) hc dL_paths_23 (by decide) h (fun c23 h => ?_) (fun c23 h => ?_)
    · refine z_ldc2 (-1002) hc kc_RL_109 dL_paths_26 rfl ?_
      refine z_goto (tgt := 35) hc dL_paths_29 (by decide) ?_
      refine z_sub [(0, .ref (a 0))] [1] rfl ?_
      exact w_L_paths_35 hc hap he h
    · refine z_ldc2 (-1004) hc kc_RL_117 dL_paths_32 rfl ?_
      refine z_sub [(0, .ref (a 0))] [1] rfl ?_
      exact w_L_paths_35 hc hap he h
  · refine z_iload_n (i := 2) 0 hc dL_paths_60 rfl rfl ?_
    refine z_bipush hc dL_paths_61 rfl ?_
    refine z_icmp_ge (tgt := 70) hc dL_paths_63 (by decide) h (fun c63 h => ?_) (fun c63 h => ?_)
    · refine z_iconst hc dL_paths_66 ?_
      refine z_goto (tgt := 92) hc dL_paths_67 (by decide) ?_
      refine z_sub [(0, .ref (a 0)), (1, .int (zI x1)), (2, .int (zI r1.1))] [1, 2, 0] rfl ?_
      exact w_L_paths_92 hc hap he h
    · refine z_iload_n (i := 2) 0 hc dL_paths_70 rfl rfl ?_
      refine z_bipush hc dL_paths_71 rfl ?_
      refine z_icmp_ge (tgt := 80) hc dL_paths_73 (by decide) h (fun c73 h => ?_) (fun c73 h => ?_)
      · refine z_iconst hc dL_paths_76 ?_
        refine z_goto (tgt := 92) hc dL_paths_77 (by decide) ?_
        refine z_sub [(0, .ref (a 0)), (1, .int (zI x1)), (2, .int (zI r1.1))] [1, 2, 0] rfl ?_
        exact w_L_paths_92 hc hap he h
      · refine z_iload_n (i := 2) 0 hc dL_paths_80 rfl rfl ?_
        refine z_sipush hc dL_paths_81 rfl ?_
        refine z_icmp_ge (tgt := 91) hc dL_paths_84 (by decide) h (fun c84 h => ?_) (fun c84 h => ?_)
        · refine z_iconst hc dL_paths_87 ?_
          refine z_goto (tgt := 92) hc dL_paths_88 (by decide) ?_
          refine z_sub [(0, .ref (a 0)), (1, .int (zI x1)), (2, .int (zI r1.1))] [1, 2, 0] rfl ?_
          exact w_L_paths_92 hc hap he h
        · refine z_iconst hc dL_paths_91 ?_
          refine z_sub [(0, .ref (a 0)), (1, .int (zI x1)), (2, .int (zI r1.1))] [1, 2, 0] rfl ?_
          exact w_L_paths_92 hc hap he h
set_option maxRecDepth 100000 in
set_option maxHeartbeats 4000000 in
theorem c_L_paths {l : Launch} (hl : l.stackTraces = false) {a : Nat → Nat} {x1 : Int} {st : z_St} {o : Int × z_St} (h : J_L_paths x1 st = some o) : z_MU 0 110 l yL_paths (z_w yL_paths cL_paths 14 (some .boolean)) 28 z_T z_N a [.ref (a 0), .int (zI x1)] st o.1 o.2 := z_ofU hl (by decide +kernel) (Nat.le_of_ble_eq_true rfl) (fun κ hc hap he => w_L_paths hc hap he h)
