theorem dL_lattice_0 : decode cL_lattice 0 = .ok (.aload_n 0, 1) := by decide +kernel
theorem dL_lattice_1 : decode cL_lattice 1 = .ok (.bipush 19, 2) := by decide +kernel
theorem dL_lattice_3 : decode cL_lattice 3 = .ok (.lload_n 1, 1) := by decide +kernel
theorem dL_lattice_4 : decode cL_lattice 4 = .ok (.iconst 0, 1) := by decide +kernel
theorem dL_lattice_5 : decode cL_lattice 5 = .ok (.invokestatic 125, 3) := by decide +kernel
theorem dL_lattice_8 : decode cL_lattice 8 = .ok (.l2i, 1) := by decide +kernel
theorem dL_lattice_9 : decode cL_lattice 9 = .ok (.istore 4, 2) := by decide +kernel
theorem dL_lattice_11 : decode cL_lattice 11 = .ok (.aload_n 0, 1) := by decide +kernel
theorem dL_lattice_12 : decode cL_lattice 12 = .ok (.bipush 19, 2) := by decide +kernel
theorem dL_lattice_14 : decode cL_lattice 14 = .ok (.ldc2_w 139, 3) := by decide +kernel
theorem dL_lattice_17 : decode cL_lattice 17 = .ok (.iconst 0, 1) := by decide +kernel
theorem dL_lattice_18 : decode cL_lattice 18 = .ok (.invokestatic 125, 3) := by decide +kernel
theorem dL_lattice_21 : decode cL_lattice 21 = .ok (.l2i, 1) := by decide +kernel
theorem dL_lattice_22 : decode cL_lattice 22 = .ok (.istore 5, 2) := by decide +kernel
theorem dL_lattice_24 : decode cL_lattice 24 = .ok (.aload_n 0, 1) := by decide +kernel
theorem dL_lattice_25 : decode cL_lattice 25 = .ok (.bipush 17, 2) := by decide +kernel
theorem dL_lattice_27 : decode cL_lattice 27 = .ok (.lconst 0, 1) := by decide +kernel
theorem dL_lattice_28 : decode cL_lattice 28 = .ok (.iconst 0, 1) := by decide +kernel
theorem dL_lattice_29 : decode cL_lattice 29 = .ok (.invokestatic 125, 3) := by decide +kernel
theorem dL_lattice_32 : decode cL_lattice 32 = .ok (.l2i, 1) := by decide +kernel
theorem dL_lattice_33 : decode cL_lattice 33 = .ok (.istore 6, 2) := by decide +kernel
theorem dL_lattice_35 : decode cL_lattice 35 = .ok (.iload 6, 2) := by decide +kernel
theorem dL_lattice_37 : decode cL_lattice 37 = .ok (.ifCond .ge 51, 3) := by decide +kernel
theorem dL_lattice_40 : decode cL_lattice 40 = .ok (.iload 4, 2) := by decide +kernel
theorem dL_lattice_42 : decode cL_lattice 42 = .ok (.ifCond .ne 44, 3) := by decide +kernel
theorem dL_lattice_45 : decode cL_lattice 45 = .ok (.iload 5, 2) := by decide +kernel
theorem dL_lattice_47 : decode cL_lattice 47 = .ok (.ifCond .ne 39, 3) := by decide +kernel
theorem dL_lattice_50 : decode cL_lattice 50 = .ok (.aload_n 0, 1) := by decide +kernel
theorem dL_lattice_51 : decode cL_lattice 51 = .ok (.bipush 20, 2) := by decide +kernel
theorem dL_lattice_53 : decode cL_lattice 53 = .ok (.lload_n 1, 1) := by decide +kernel
theorem dL_lattice_54 : decode cL_lattice 54 = .ok (.iconst 0, 1) := by decide +kernel
theorem dL_lattice_55 : decode cL_lattice 55 = .ok (.iconst 0, 1) := by decide +kernel
theorem dL_lattice_56 : decode cL_lattice 56 = .ok (.iconst 0, 1) := by decide +kernel
theorem dL_lattice_57 : decode cL_lattice 57 = .ok (.invokestatic 119, 3) := by decide +kernel
theorem dL_lattice_60 : decode cL_lattice 60 = .ok (.ldc2_w 109, 3) := by decide +kernel
theorem dL_lattice_63 : decode cL_lattice 63 = .ok (.lcmp, 1) := by decide +kernel
theorem dL_lattice_64 : decode cL_lattice 64 = .ok (.ifCond .ne 22, 3) := by decide +kernel
theorem dL_lattice_67 : decode cL_lattice 67 = .ok (.aload_n 0, 1) := by decide +kernel
theorem dL_lattice_68 : decode cL_lattice 68 = .ok (.bipush 21, 2) := by decide +kernel
theorem dL_lattice_70 : decode cL_lattice 70 = .ok (.lconst 0, 1) := by decide +kernel
theorem dL_lattice_71 : decode cL_lattice 71 = .ok (.iconst 0, 1) := by decide +kernel
theorem dL_lattice_72 : decode cL_lattice 72 = .ok (.invokestatic 125, 3) := by decide +kernel
theorem dL_lattice_75 : decode cL_lattice 75 = .ok (.ldc2_w 135, 3) := by decide +kernel
theorem dL_lattice_78 : decode cL_lattice 78 = .ok (.lcmp, 1) := by decide +kernel
theorem dL_lattice_79 : decode cL_lattice 79 = .ok (.ifCond .ne 7, 3) := by decide +kernel
theorem dL_lattice_82 : decode cL_lattice 82 = .ok (.iconst 1, 1) := by decide +kernel
theorem dL_lattice_83 : decode cL_lattice 83 = .ok (.goto 4, 3) := by decide +kernel
theorem dL_lattice_86 : decode cL_lattice 86 = .ok (.iconst 0, 1) := by decide +kernel
theorem dL_lattice_87 : decode cL_lattice 87 = .ok (.ireturn, 1) := by decide +kernel
theorem dL_lattice_88 : decode cL_lattice 88 = .ok (.iload 4, 2) := by decide +kernel
theorem dL_lattice_90 : decode cL_lattice 90 = .ok (.iconst 1, 1) := by decide +kernel
theorem dL_lattice_91 : decode cL_lattice 91 = .ok (.if_icmp .lt 32, 3) := by decide +kernel
theorem dL_lattice_94 : decode cL_lattice 94 = .ok (.iload 4, 2) := by decide +kernel
theorem dL_lattice_96 : decode cL_lattice 96 = .ok (.iload 5, 2) := by decide +kernel
theorem dL_lattice_98 : decode cL_lattice 98 = .ok (.if_icmp .gt 25, 3) := by decide +kernel
theorem dL_lattice_101 : decode cL_lattice 101 = .ok (.aload_n 0, 1) := by decide +kernel
theorem dL_lattice_102 : decode cL_lattice 102 = .ok (.bipush 20, 2) := by decide +kernel
theorem dL_lattice_104 : decode cL_lattice 104 = .ok (.lload_n 1, 1) := by decide +kernel
theorem dL_lattice_105 : decode cL_lattice 105 = .ok (.iload 4, 2) := by decide +kernel
theorem dL_lattice_107 : decode cL_lattice 107 = .ok (.iconst 0, 1) := by decide +kernel
theorem dL_lattice_108 : decode cL_lattice 108 = .ok (.iconst 0, 1) := by decide +kernel
theorem dL_lattice_109 : decode cL_lattice 109 = .ok (.invokestatic 119, 3) := by decide +kernel
theorem dL_lattice_112 : decode cL_lattice 112 = .ok (.ldc2_w 109, 3) := by decide +kernel
theorem dL_lattice_115 : decode cL_lattice 115 = .ok (.lcmp, 1) := by decide +kernel
theorem dL_lattice_116 : decode cL_lattice 116 = .ok (.ifCond .ne 7, 3) := by decide +kernel
theorem dL_lattice_119 : decode cL_lattice 119 = .ok (.iconst 1, 1) := by decide +kernel
theorem dL_lattice_120 : decode cL_lattice 120 = .ok (.goto 4, 3) := by decide +kernel
theorem dL_lattice_123 : decode cL_lattice 123 = .ok (.iconst 0, 1) := by decide +kernel
theorem dL_lattice_124 : decode cL_lattice 124 = .ok (.istore 7, 2) := by decide +kernel
theorem dL_lattice_126 : decode cL_lattice 126 = .ok (.aload_n 0, 1) := by decide +kernel
theorem dL_lattice_127 : decode cL_lattice 127 = .ok (.bipush 20, 2) := by decide +kernel
theorem dL_lattice_129 : decode cL_lattice 129 = .ok (.lload_n 1, 1) := by decide +kernel
theorem dL_lattice_130 : decode cL_lattice 130 = .ok (.iload 4, 2) := by decide +kernel
theorem dL_lattice_132 : decode cL_lattice 132 = .ok (.iconst 1, 1) := by decide +kernel
theorem dL_lattice_133 : decode cL_lattice 133 = .ok (.isub, 1) := by decide +kernel
theorem dL_lattice_134 : decode cL_lattice 134 = .ok (.iconst 3, 1) := by decide +kernel
theorem dL_lattice_135 : decode cL_lattice 135 = .ok (.iconst 0, 1) := by decide +kernel
theorem dL_lattice_136 : decode cL_lattice 136 = .ok (.invokestatic 119, 3) := by decide +kernel
theorem dL_lattice_139 : decode cL_lattice 139 = .ok (.lstore 8, 2) := by decide +kernel
theorem dL_lattice_141 : decode cL_lattice 141 = .ok (.aload_n 0, 1) := by decide +kernel
theorem dL_lattice_142 : decode cL_lattice 142 = .ok (.bipush 20, 2) := by decide +kernel
theorem dL_lattice_144 : decode cL_lattice 144 = .ok (.lload_n 1, 1) := by decide +kernel
theorem dL_lattice_145 : decode cL_lattice 145 = .ok (.iload 4, 2) := by decide +kernel
theorem dL_lattice_147 : decode cL_lattice 147 = .ok (.iconst 1, 1) := by decide +kernel
theorem dL_lattice_148 : decode cL_lattice 148 = .ok (.isub, 1) := by decide +kernel
theorem dL_lattice_149 : decode cL_lattice 149 = .ok (.iconst 1, 1) := by decide +kernel
theorem dL_lattice_150 : decode cL_lattice 150 = .ok (.iconst 0, 1) := by decide +kernel
theorem dL_lattice_151 : decode cL_lattice 151 = .ok (.invokestatic 119, 3) := by decide +kernel
theorem dL_lattice_154 : decode cL_lattice 154 = .ok (.lstore 10, 2) := by decide +kernel
theorem dL_lattice_156 : decode cL_lattice 156 = .ok (.aload_n 0, 1) := by decide +kernel
theorem dL_lattice_157 : decode cL_lattice 157 = .ok (.bipush 20, 2) := by decide +kernel
theorem dL_lattice_159 : decode cL_lattice 159 = .ok (.lload_n 1, 1) := by decide +kernel
theorem dL_lattice_160 : decode cL_lattice 160 = .ok (.iload 4, 2) := by decide +kernel
theorem dL_lattice_162 : decode cL_lattice 162 = .ok (.iconst 1, 1) := by decide +kernel
theorem dL_lattice_163 : decode cL_lattice 163 = .ok (.isub, 1) := by decide +kernel
theorem dL_lattice_164 : decode cL_lattice 164 = .ok (.iconst 2, 1) := by decide +kernel
theorem dL_lattice_165 : decode cL_lattice 165 = .ok (.iconst 0, 1) := by decide +kernel
theorem dL_lattice_166 : decode cL_lattice 166 = .ok (.invokestatic 119, 3) := by decide +kernel
theorem dL_lattice_169 : decode cL_lattice 169 = .ok (.lstore 12, 2) := by decide +kernel
theorem dL_lattice_171 : decode cL_lattice 171 = .ok (.aload_n 0, 1) := by decide +kernel
theorem dL_lattice_172 : decode cL_lattice 172 = .ok (.bipush 20, 2) := by decide +kernel
theorem dL_lattice_174 : decode cL_lattice 174 = .ok (.lload_n 1, 1) := by decide +kernel
theorem dL_lattice_175 : decode cL_lattice 175 = .ok (.iload 4, 2) := by decide +kernel
theorem dL_lattice_177 : decode cL_lattice 177 = .ok (.iconst 1, 1) := by decide +kernel
theorem dL_lattice_178 : decode cL_lattice 178 = .ok (.isub, 1) := by decide +kernel
theorem dL_lattice_179 : decode cL_lattice 179 = .ok (.iconst 0, 1) := by decide +kernel
theorem dL_lattice_180 : decode cL_lattice 180 = .ok (.iconst 0, 1) := by decide +kernel
theorem dL_lattice_181 : decode cL_lattice 181 = .ok (.invokestatic 119, 3) := by decide +kernel
theorem dL_lattice_184 : decode cL_lattice 184 = .ok (.lstore 14, 2) := by decide +kernel
theorem dL_lattice_186 : decode cL_lattice 186 = .ok (.iload 7, 2) := by decide +kernel
theorem dL_lattice_188 : decode cL_lattice 188 = .ok (.lload 8, 2) := by decide +kernel
theorem dL_lattice_190 : decode cL_lattice 190 = .ok (.lconst 0, 1) := by decide +kernel
theorem dL_lattice_191 : decode cL_lattice 191 = .ok (.lcmp, 1) := by decide +kernel
theorem dL_lattice_192 : decode cL_lattice 192 = .ok (.ifCond .lt 37, 3) := by decide +kernel
theorem dL_lattice_195 : decode cL_lattice 195 = .ok (.lload 8, 2) := by decide +kernel
theorem dL_lattice_197 : decode cL_lattice 197 = .ok (.lload_n 1, 1) := by decide +kernel
theorem dL_lattice_198 : decode cL_lattice 198 = .ok (.lcmp, 1) := by decide +kernel
theorem dL_lattice_199 : decode cL_lattice 199 = .ok (.ifCond .gt 30, 3) := by decide +kernel
theorem dL_lattice_202 : decode cL_lattice 202 = .ok (.lload 10, 2) := by decide +kernel
theorem dL_lattice_204 : decode cL_lattice 204 = .ok (.lconst 0, 1) := by decide +kernel
theorem dL_lattice_205 : decode cL_lattice 205 = .ok (.lcmp, 1) := by decide +kernel
theorem dL_lattice_206 : decode cL_lattice 206 = .ok (.ifCond .lt 23, 3) := by decide +kernel
theorem dL_lattice_209 : decode cL_lattice 209 = .ok (.lload 10, 2) := by decide +kernel
theorem dL_lattice_211 : decode cL_lattice 211 = .ok (.lload 12, 2) := by decide +kernel
theorem dL_lattice_213 : decode cL_lattice 213 = .ok (.lcmp, 1) := by decide +kernel
theorem dL_lattice_214 : decode cL_lattice 214 = .ok (.ifCond .ge 15, 3) := by decide +kernel
theorem dL_lattice_217 : decode cL_lattice 217 = .ok (.lload 12, 2) := by decide +kernel
theorem dL_lattice_219 : decode cL_lattice 219 = .ok (.iload_n 3, 1) := by decide +kernel
theorem dL_lattice_220 : decode cL_lattice 220 = .ok (.i2l, 1) := by decide +kernel
theorem dL_lattice_221 : decode cL_lattice 221 = .ok (.lcmp, 1) := by decide +kernel
theorem dL_lattice_222 : decode cL_lattice 222 = .ok (.ifCond .ne 7, 3) := by decide +kernel
theorem dL_lattice_225 : decode cL_lattice 225 = .ok (.iconst 1, 1) := by decide +kernel
theorem dL_lattice_226 : decode cL_lattice 226 = .ok (.goto 4, 3) := by decide +kernel
theorem dL_lattice_229 : decode cL_lattice 229 = .ok (.iconst 0, 1) := by decide +kernel
theorem dL_lattice_230 : decode cL_lattice 230 = .ok (.iand, 1) := by decide +kernel
theorem dL_lattice_231 : decode cL_lattice 231 = .ok (.istore 7, 2) := by decide +kernel
theorem dL_lattice_233 : decode cL_lattice 233 = .ok (.iload 7, 2) := by decide +kernel
theorem dL_lattice_235 : decode cL_lattice 235 = .ok (.aload_n 0, 1) := by decide +kernel
theorem dL_lattice_236 : decode cL_lattice 236 = .ok (.bipush 21, 2) := by decide +kernel
theorem dL_lattice_238 : decode cL_lattice 238 = .ok (.lload 14, 2) := by decide +kernel
theorem dL_lattice_240 : decode cL_lattice 240 = .ok (.iconst 0, 1) := by decide +kernel
theorem dL_lattice_241 : decode cL_lattice 241 = .ok (.invokestatic 125, 3) := by decide +kernel
theorem dL_lattice_244 : decode cL_lattice 244 = .ok (.lload 8, 2) := by decide +kernel
theorem dL_lattice_246 : decode cL_lattice 246 = .ok (.lcmp, 1) := by decide +kernel
theorem dL_lattice_247 : decode cL_lattice 247 = .ok (.ifCond .gt 27, 3) := by decide +kernel
theorem dL_lattice_250 : decode cL_lattice 250 = .ok (.aload_n 0, 1) := by decide +kernel
theorem dL_lattice_251 : decode cL_lattice 251 = .ok (.bipush 21, 2) := by decide +kernel
theorem dL_lattice_253 : decode cL_lattice 253 = .ok (.iload 6, 2) := by decide +kernel
theorem dL_lattice_255 : decode cL_lattice 255 = .ok (.bipush 10, 2) := by decide +kernel
theorem dL_lattice_257 : decode cL_lattice 257 = .ok (.irem, 1) := by decide +kernel
theorem dL_lattice_258 : decode cL_lattice 258 = .ok (.i2l, 1) := by decide +kernel
theorem dL_lattice_259 : decode cL_lattice 259 = .ok (.lconst 1, 1) := by decide +kernel
theorem dL_lattice_260 : decode cL_lattice 260 = .ok (.lsub, 1) := by decide +kernel
theorem dL_lattice_261 : decode cL_lattice 261 = .ok (.iconst 0, 1) := by decide +kernel
theorem dL_lattice_262 : decode cL_lattice 262 = .ok (.invokestatic 125, 3) := by decide +kernel
theorem dL_lattice_265 : decode cL_lattice 265 = .ok (.lconst 0, 1) := by decide +kernel
theorem dL_lattice_266 : decode cL_lattice 266 = .ok (.lcmp, 1) := by decide +kernel
theorem dL_lattice_267 : decode cL_lattice 267 = .ok (.ifCond .ne 7, 3) := by decide +kernel
theorem dL_lattice_270 : decode cL_lattice 270 = .ok (.iconst 1, 1) := by decide +kernel
theorem dL_lattice_271 : decode cL_lattice 271 = .ok (.goto 4, 3) := by decide +kernel
theorem dL_lattice_274 : decode cL_lattice 274 = .ok (.iconst 0, 1) := by decide +kernel
theorem dL_lattice_275 : decode cL_lattice 275 = .ok (.iand, 1) := by decide +kernel
theorem dL_lattice_276 : decode cL_lattice 276 = .ok (.istore 7, 2) := by decide +kernel
theorem dL_lattice_278 : decode cL_lattice 278 = .ok (.aload_n 0, 1) := by decide +kernel
theorem dL_lattice_279 : decode cL_lattice 279 = .ok (.bipush 22, 2) := by decide +kernel
theorem dL_lattice_281 : decode cL_lattice 281 = .ok (.lload_n 1, 1) := by decide +kernel
theorem dL_lattice_282 : decode cL_lattice 282 = .ok (.iload_n 3, 1) := by decide +kernel
theorem dL_lattice_283 : decode cL_lattice 283 = .ok (.iconst 1, 1) := by decide +kernel
theorem dL_lattice_284 : decode cL_lattice 284 = .ok (.isub, 1) := by decide +kernel
theorem dL_lattice_285 : decode cL_lattice 285 = .ok (.invokestatic 125, 3) := by decide +kernel
theorem dL_lattice_288 : decode cL_lattice 288 = .ok (.lstore 16, 2) := by decide +kernel
theorem dL_lattice_290 : decode cL_lattice 290 = .ok (.iload 7, 2) := by decide +kernel
theorem dL_lattice_292 : decode cL_lattice 292 = .ok (.ifCond .eq 36, 3) := by decide +kernel
theorem dL_lattice_295 : decode cL_lattice 295 = .ok (.lload 16, 2) := by decide +kernel
theorem dL_lattice_297 : decode cL_lattice 297 = .ok (.lconst 0, 1) := by decide +kernel
theorem dL_lattice_298 : decode cL_lattice 298 = .ok (.lcmp, 1) := by decide +kernel
theorem dL_lattice_299 : decode cL_lattice 299 = .ok (.ifCond .le 29, 3) := by decide +kernel
theorem dL_lattice_302 : decode cL_lattice 302 = .ok (.lload 16, 2) := by decide +kernel
theorem dL_lattice_304 : decode cL_lattice 304 = .ok (.ldc2_w 141, 3) := by decide +kernel
theorem dL_lattice_307 : decode cL_lattice 307 = .ok (.lcmp, 1) := by decide +kernel
theorem dL_lattice_308 : decode cL_lattice 308 = .ok (.ifCond .gt 20, 3) := by decide +kernel
theorem dL_lattice_311 : decode cL_lattice 311 = .ok (.aload_n 0, 1) := by decide +kernel
theorem dL_lattice_312 : decode cL_lattice 312 = .ok (.bipush 22, 2) := by decide +kernel
theorem dL_lattice_314 : decode cL_lattice 314 = .ok (.lconst 0, 1) := by decide +kernel
theorem dL_lattice_315 : decode cL_lattice 315 = .ok (.iconst 0, 1) := by decide +kernel
theorem dL_lattice_316 : decode cL_lattice 316 = .ok (.invokestatic 125, 3) := by decide +kernel
theorem dL_lattice_319 : decode cL_lattice 319 = .ok (.lconst 0, 1) := by decide +kernel
theorem dL_lattice_320 : decode cL_lattice 320 = .ok (.lcmp, 1) := by decide +kernel
theorem dL_lattice_321 : decode cL_lattice 321 = .ok (.ifCond .le 7, 3) := by decide +kernel
theorem dL_lattice_324 : decode cL_lattice 324 = .ok (.iconst 1, 1) := by decide +kernel
theorem dL_lattice_325 : decode cL_lattice 325 = .ok (.goto 4, 3) := by decide +kernel
theorem dL_lattice_328 : decode cL_lattice 328 = .ok (.iconst 0, 1) := by decide +kernel
theorem dL_lattice_329 : decode cL_lattice 329 = .ok (.ireturn, 1) := by decide +kernel
noncomputable def J_L_lattice_87 (s0 : Int) (st : z_St) : Option (Int × z_St) :=
  z_g (s0 = 0 ∨ s0 = 1) <|
  some (s0, st)
set_option maxRecDepth 100000 in
set_option maxHeartbeats 4000000 in
theorem w_L_lattice_87 {κ : zK} {a : Nat → Nat} {s0 : Int} {st : z_St} {o : Int × z_St} (hc : z_C κ RL cL_lattice 18 28 12 (6 * 12)) (hap : z_AP κ a z_N) (he : z_EU 0 12 κ (some .boolean) z_T z_N a o.1 o.2) (h : J_L_lattice_87 s0 st = some o) : z_V κ z_T z_N a 5 (6 * 5) 87 [] [.int (zI s0)] st := by
  unfold J_L_lattice_87 at h
  obtain ⟨hz, h⟩ := z_g_some h
  refine z_wide (cells' := 12) (slots' := 6 * 12) (Nat.le_of_ble_eq_true rfl) (Nat.le_of_ble_eq_true rfl) ?_
  have h := Option.some.inj h
  subst h
  exact z_retUZ hc he hz dL_lattice_87
noncomputable def J_L_lattice_86 (st : z_St) : Option (Int × z_St) :=
  J_L_lattice_87 0 st
set_option maxRecDepth 100000 in
set_option maxHeartbeats 4000000 in
theorem w_L_lattice_86 {κ : zK} {a : Nat → Nat} {st : z_St} {o : Int × z_St} (hc : z_C κ RL cL_lattice 18 28 12 (6 * 12)) (hap : z_AP κ a z_N) (he : z_EU 0 12 κ (some .boolean) z_T z_N a o.1 o.2) (h : J_L_lattice_86 st = some o) : z_V κ z_T z_N a 5 (6 * 5) 86 [] [] st := by
  unfold J_L_lattice_86 at h
  refine z_iconst hc dL_lattice_86 ?_
  refine z_sub [] [] rfl ?_
  exact w_L_lattice_87 hc hap he h
noncomputable def J_L_lattice_329 (s0 : Int) (st : z_St) : Option (Int × z_St) :=
  z_g (s0 = 0 ∨ s0 = 1) <|
  some (s0, st)
set_option maxRecDepth 100000 in
set_option maxHeartbeats 4000000 in
theorem w_L_lattice_329 {κ : zK} {a : Nat → Nat} {s0 : Int} {st : z_St} {o : Int × z_St} (hc : z_C κ RL cL_lattice 18 28 12 (6 * 12)) (hap : z_AP κ a z_N) (he : z_EU 0 12 κ (some .boolean) z_T z_N a o.1 o.2) (h : J_L_lattice_329 s0 st = some o) : z_V κ z_T z_N a 12 (6 * 12) 329 [] [.int (zI s0)] st := by
  unfold J_L_lattice_329 at h
  obtain ⟨hz, h⟩ := z_g_some h
  have h := Option.some.inj h
  subst h
  exact z_retUZ hc he hz dL_lattice_329
noncomputable def J_L_lattice_328 (st : z_St) : Option (Int × z_St) :=
  J_L_lattice_329 0 st
set_option maxRecDepth 100000 in
set_option maxHeartbeats 4000000 in
theorem w_L_lattice_328 {κ : zK} {a : Nat → Nat} {st : z_St} {o : Int × z_St} (hc : z_C κ RL cL_lattice 18 28 12 (6 * 12)) (hap : z_AP κ a z_N) (he : z_EU 0 12 κ (some .boolean) z_T z_N a o.1 o.2) (h : J_L_lattice_328 st = some o) : z_V κ z_T z_N a 12 (6 * 12) 328 [] [] st := by
  unfold J_L_lattice_328 at h
  refine z_iconst hc dL_lattice_328 ?_
  refine z_sub [] [] rfl ?_
  exact w_L_lattice_329 hc hap he h
noncomputable def J_L_lattice_275 (v1 v3 s0 s1 : Int) (st : z_St) : Option (Int × z_St) :=
  z_b (J_L_ask 22 v1 (v3 - 1) st) fun r11 =>
  z_g (z32 (z_iand s1 s0)) (if z_iand s1 s0 = 0 then
    J_L_lattice_328 r11.2
  else
    z_g (z64 r11.1 ∧ z64 0) (if 0 < r11.1 then
      z_g (z64 r11.1 ∧ z64 1065353216) (if 1065353216 < r11.1 then
        J_L_lattice_328 r11.2
      else
        z_b (J_L_ask 22 0 0 r11.2) fun r12 =>
        z_g (z64 r12.1 ∧ z64 0) (if 0 < r12.1 then
          J_L_lattice_329 1 r12.2
        else
          J_L_lattice_328 r12.2))
    else
      J_L_lattice_328 r11.2))
set_option maxRecDepth 100000 in
set_option maxHeartbeats 4000000 in
theorem w_L_lattice_275 {κ : zK} {a : Nat → Nat} {v1 v3 s0 s1 : Int} {st : z_St} {o : Int × z_St} (hc : z_C κ RL cL_lattice 18 28 12 (6 * 12)) (hap : z_AP κ a z_N) (he : z_EU 0 12 κ (some .boolean) z_T z_N a o.1 o.2) (h : J_L_lattice_275 v1 v3 s0 s1 st = some o) : z_V κ z_T z_N a 10 (6 * 10) 275 [(0, .ref (a 0)), (1, .long (zJ v1)), (3, .int (zI v3))] [.int (zI s0), .int (zI s1)] st := by
  unfold J_L_lattice_275 at h
  refine z_iand_r hc dL_lattice_275 ?_
  refine z_istore [(7, .int (zI (z_iand s1 s0))), (0, .ref (a 0)), (1, .long (zJ v1)), (3, .int (zI v3))] hc dL_lattice_276 (by decide) rfl ?_
  refine z_aload_n (i := 0) 1 hc dL_lattice_278 rfl rfl ?_
  refine z_bipush hc dL_lattice_279 rfl ?_
  refine z_lload_n (i := 1) 2 hc dL_lattice_281 rfl rfl ?_
  refine z_iload_n (i := 3) 3 hc dL_lattice_282 rfl rfl ?_
  refine z_iconst hc dL_lattice_283 ?_
  refine z_isub hc dL_lattice_284 ?_
  obtain ⟨r11, hr11, h⟩ := z_b_some h
  refine z_callUJ 11 (6 * 11) (mu := 1) [.ref (a 0), .int (zI 22), .long (zJ v1), .int (zI (v3 - 1))] hc hap o_L_ask ml_RL_125 (fun l hl => c_L_ask hl hr11) (by decide) rfl rfl (Nat.le_of_ble_eq_true rfl) (by omega) (by omega) (by omega) (by omega) dL_lattice_285 ?_
  refine z_lstore [(16, .long (zJ r11.1)), (7, .int (zI (z_iand s1 s0))), (0, .ref (a 0)), (1, .long (zJ v1)), (3, .int (zI v3))] hc dL_lattice_288 (by decide) rfl ?_
  refine z_iload 1 hc dL_lattice_290 rfl ?_
  refine z_if_eq (tgt := 328) hc dL_lattice_292 (by decide) h (fun c292 h => ?_) (fun c292 h => ?_)
  · refine z_sub [] [] rfl ?_
    refine z_wide (cells' := 12) (slots' := 6 * 12) (Nat.le_of_ble_eq_true rfl) (Nat.le_of_ble_eq_true rfl) ?_
    exact w_L_lattice_328 hc hap he h
  · refine z_lload 0 hc dL_lattice_295 rfl ?_
    refine z_lconst 0 hc dL_lattice_297 rfl ?_
    refine z_lcmp_le (tgt := 328) hc dL_lattice_298 dL_lattice_299 (by decide) h (fun c298 h => ?_) (fun c298 h => ?_)
    · refine z_lload 0 hc dL_lattice_302 rfl ?_
      refine z_ldc2 1065353216 hc kc_RL_141 dL_lattice_304 rfl ?_
      refine z_lcmp_gt (tgt := 328) hc dL_lattice_307 dL_lattice_308 (by decide) h (fun c307 h => ?_) (fun c307 h => ?_)
      · refine z_sub [] [] rfl ?_
        refine z_wide (cells' := 12) (slots' := 6 * 12) (Nat.le_of_ble_eq_true rfl) (Nat.le_of_ble_eq_true rfl) ?_
        exact w_L_lattice_328 hc hap he h
      · refine z_aload_n (i := 0) 2 hc dL_lattice_311 rfl rfl ?_
        refine z_bipush hc dL_lattice_312 rfl ?_
        refine z_lconst 0 hc dL_lattice_314 rfl ?_
        refine z_iconst hc dL_lattice_315 ?_
        obtain ⟨r12, hr12, h⟩ := z_b_some h
        refine z_callUJ 12 (6 * 12) (mu := 1) [.ref (a 0), .int (zI 22), .long (zJ 0), .int (zI 0)] hc hap o_L_ask ml_RL_125 (fun l hl => c_L_ask hl hr12) (by decide) rfl rfl (Nat.le_of_ble_eq_true rfl) (by omega) (by omega) (by omega) (by omega) dL_lattice_316 ?_
        refine z_lconst 0 hc dL_lattice_319 rfl ?_
        refine z_lcmp_le (tgt := 328) hc dL_lattice_320 dL_lattice_321 (by decide) h (fun c320 h => ?_) (fun c320 h => ?_)
        · refine z_iconst hc dL_lattice_324 ?_
          refine z_goto (tgt := 329) hc dL_lattice_325 (by decide) ?_
          refine z_sub [] [] rfl ?_
          exact w_L_lattice_329 hc hap he h
        · refine z_sub [] [] rfl ?_
          exact w_L_lattice_328 hc hap he h
    · refine z_sub [] [] rfl ?_
      refine z_wide (cells' := 12) (slots' := 6 * 12) (Nat.le_of_ble_eq_true rfl) (Nat.le_of_ble_eq_true rfl) ?_
      exact w_L_lattice_328 hc hap he h
noncomputable def J_L_lattice_274 (v1 v3 s0 : Int) (st : z_St) : Option (Int × z_St) :=
  J_L_lattice_275 v1 v3 0 s0 st
set_option maxRecDepth 100000 in
set_option maxHeartbeats 4000000 in
theorem w_L_lattice_274 {κ : zK} {a : Nat → Nat} {v1 v3 s0 : Int} {st : z_St} {o : Int × z_St} (hc : z_C κ RL cL_lattice 18 28 12 (6 * 12)) (hap : z_AP κ a z_N) (he : z_EU 0 12 κ (some .boolean) z_T z_N a o.1 o.2) (h : J_L_lattice_274 v1 v3 s0 st = some o) : z_V κ z_T z_N a 10 (6 * 10) 274 [(0, .ref (a 0)), (1, .long (zJ v1)), (3, .int (zI v3))] [.int (zI s0)] st := by
  unfold J_L_lattice_274 at h
  refine z_iconst hc dL_lattice_274 ?_
  refine z_sub [(0, .ref (a 0)), (1, .long (zJ v1)), (3, .int (zI v3))] [0, 1, 2] rfl ?_
  exact w_L_lattice_275 hc hap he h
noncomputable def J_L_lattice_230 (v1 v3 v6 v8 v14 s0 s1 : Int) (st : z_St) : Option (Int × z_St) :=
  z_b (J_L_ask 21 v14 0 st) fun r10 =>
  z_g (z64 r10.1 ∧ z64 v8) (if v8 < r10.1 then
    J_L_lattice_274 v1 v3 (z_iand s1 s0) r10.2
  else
    z_g (z32 v6 ∧ z32 10 ∧ (10 : Int) ≠ 0) <|
    z_g (z32 (v6.tmod 10)) <|
    z_b (J_L_ask 21 ((v6.tmod 10) - 1) 0 r10.2) fun r13 =>
    z_g (z64 r13.1 ∧ z64 0) (if r13.1 = 0 then
      J_L_lattice_275 v1 v3 1 (z_iand s1 s0) r13.2
    else
      J_L_lattice_274 v1 v3 (z_iand s1 s0) r13.2))
set_option maxRecDepth 100000 in
set_option maxHeartbeats 4000000 in
theorem w_L_lattice_230 {κ : zK} {a : Nat → Nat} {v1 v3 v6 v8 v14 s0 s1 : Int} {st : z_St} {o : Int × z_St} (hc : z_C κ RL cL_lattice 18 28 12 (6 * 12)) (hap : z_AP κ a z_N) (he : z_EU 0 12 κ (some .boolean) z_T z_N a o.1 o.2) (h : J_L_lattice_230 v1 v3 v6 v8 v14 s0 s1 st = some o) : z_V κ z_T z_N a 8 (6 * 8) 230 [(0, .ref (a 0)), (1, .long (zJ v1)), (3, .int (zI v3)), (6, .int (zI v6)), (8, .long (zJ v8)), (14, .long (zJ v14))] [.int (zI s0), .int (zI s1)] st := by
  unfold J_L_lattice_230 at h
  refine z_iand_r hc dL_lattice_230 ?_
  refine z_istore [(7, .int (zI (z_iand s1 s0))), (0, .ref (a 0)), (1, .long (zJ v1)), (3, .int (zI v3)), (6, .int (zI v6)), (8, .long (zJ v8)), (14, .long (zJ v14))] hc dL_lattice_231 (by decide) rfl ?_
  refine z_iload 0 hc dL_lattice_233 rfl ?_
  refine z_aload_n (i := 0) 1 hc dL_lattice_235 rfl rfl ?_
  refine z_bipush hc dL_lattice_236 rfl ?_
  refine z_lload 6 hc dL_lattice_238 rfl ?_
  refine z_iconst hc dL_lattice_240 ?_
  obtain ⟨r10, hr10, h⟩ := z_b_some h
  refine z_callUJ 9 (6 * 9) (mu := 1) [.ref (a 0), .int (zI 21), .long (zJ v14), .int (zI 0)] hc hap o_L_ask ml_RL_125 (fun l hl => c_L_ask hl hr10) (by decide) rfl rfl (Nat.le_of_ble_eq_true rfl) (by omega) (by omega) (by omega) (by omega) dL_lattice_241 ?_
  refine z_lload 5 hc dL_lattice_244 rfl ?_
  refine z_lcmp_gt (tgt := 274) hc dL_lattice_246 dL_lattice_247 (by decide) h (fun c246 h => ?_) (fun c246 h => ?_)
  · refine z_sub [(0, .ref (a 0)), (1, .long (zJ v1)), (3, .int (zI v3))] [1, 2, 3] rfl ?_
    refine z_wide (cells' := 10) (slots' := 6 * 10) (Nat.le_of_ble_eq_true rfl) (Nat.le_of_ble_eq_true rfl) ?_
    exact w_L_lattice_274 hc hap he h
  · refine z_aload_n (i := 0) 1 hc dL_lattice_250 rfl rfl ?_
    refine z_bipush hc dL_lattice_251 rfl ?_
    refine z_iload 4 hc dL_lattice_253 rfl ?_
    refine z_bipush hc dL_lattice_255 rfl ?_
    refine z_irem hc dL_lattice_257 h (fun h => ?_)
    refine z_i2l hc dL_lattice_258 h (fun h => ?_)
    refine z_lconst 1 hc dL_lattice_259 rfl ?_
    refine z_lsub hc dL_lattice_260 ?_
    refine z_iconst hc dL_lattice_261 ?_
    obtain ⟨r13, hr13, h⟩ := z_b_some h
    refine z_callUJ 10 (6 * 10) (mu := 1) [.ref (a 0), .int (zI 21), .long (zJ ((v6.tmod 10) - 1)), .int (zI 0)] hc hap o_L_ask ml_RL_125 (fun l hl => c_L_ask hl hr13) (by decide) rfl rfl (Nat.le_of_ble_eq_true rfl) (by omega) (by omega) (by omega) (by omega) dL_lattice_262 ?_
    refine z_lconst 0 hc dL_lattice_265 rfl ?_
    refine z_lcmp_ne (tgt := 274) hc dL_lattice_266 dL_lattice_267 (by decide) h (fun c266 h => ?_) (fun c266 h => ?_)
    · refine z_iconst hc dL_lattice_270 ?_
      refine z_goto (tgt := 275) hc dL_lattice_271 (by decide) ?_
      refine z_sub [(0, .ref (a 0)), (1, .long (zJ v1)), (3, .int (zI v3))] [1, 2, 3] rfl ?_
      exact w_L_lattice_275 hc hap he h
    · refine z_sub [(0, .ref (a 0)), (1, .long (zJ v1)), (3, .int (zI v3))] [1, 2, 3] rfl ?_
      exact w_L_lattice_274 hc hap he h
noncomputable def J_L_lattice_229 (v1 v3 v6 v8 v14 s0 : Int) (st : z_St) : Option (Int × z_St) :=
  J_L_lattice_230 v1 v3 v6 v8 v14 0 s0 st
set_option maxRecDepth 100000 in
set_option maxHeartbeats 4000000 in
theorem w_L_lattice_229 {κ : zK} {a : Nat → Nat} {v1 v3 v6 v8 v14 s0 : Int} {st : z_St} {o : Int × z_St} (hc : z_C κ RL cL_lattice 18 28 12 (6 * 12)) (hap : z_AP κ a z_N) (he : z_EU 0 12 κ (some .boolean) z_T z_N a o.1 o.2) (h : J_L_lattice_229 v1 v3 v6 v8 v14 s0 st = some o) : z_V κ z_T z_N a 8 (6 * 8) 229 [(0, .ref (a 0)), (1, .long (zJ v1)), (3, .int (zI v3)), (6, .int (zI v6)), (8, .long (zJ v8)), (14, .long (zJ v14))] [.int (zI s0)] st := by
  unfold J_L_lattice_229 at h
  refine z_iconst hc dL_lattice_229 ?_
  refine z_sub [(0, .ref (a 0)), (1, .long (zJ v1)), (3, .int (zI v3)), (6, .int (zI v6)), (8, .long (zJ v8)), (14, .long (zJ v14))] [0, 1, 2, 3, 4, 5] rfl ?_
  exact w_L_lattice_230 hc hap he h
noncomputable def J_L_lattice_124 (v1 v3 v4 v6 s0 : Int) (st : z_St) : Option (Int × z_St) :=
  z_b (J_L_does 20 v1 (v4 - 1) 3 0 st) fun r6 =>
  z_b (J_L_does 20 v1 (v4 - 1) 1 0 r6.2) fun r7 =>
  z_b (J_L_does 20 v1 (v4 - 1) 2 0 r7.2) fun r8 =>
  z_b (J_L_does 20 v1 (v4 - 1) 0 0 r8.2) fun r9 =>
  z_g (z64 r6.1 ∧ z64 0) (if r6.1 < 0 then
    J_L_lattice_229 v1 v3 v6 r6.1 r9.1 s0 r9.2
  else
    z_g (z64 r6.1 ∧ z64 v1) (if v1 < r6.1 then
      J_L_lattice_229 v1 v3 v6 r6.1 r9.1 s0 r9.2
    else
      z_g (z64 r7.1 ∧ z64 0) (if r7.1 < 0 then
        J_L_lattice_229 v1 v3 v6 r6.1 r9.1 s0 r9.2
      else
        z_g (z64 r7.1 ∧ z64 r8.1) (if r7.1 < r8.1 then
          z_g (z32 v3) <|
          z_g (z64 r8.1 ∧ z64 v3) (if r8.1 = v3 then
            J_L_lattice_230 v1 v3 v6 r6.1 r9.1 1 s0 r9.2
          else
            J_L_lattice_229 v1 v3 v6 r6.1 r9.1 s0 r9.2)
        else
          J_L_lattice_229 v1 v3 v6 r6.1 r9.1 s0 r9.2))))
set_option maxRecDepth 100000 in
set_option maxHeartbeats 4000000 in
theorem w_L_lattice_124 {κ : zK} {a : Nat → Nat} {v1 v3 v4 v6 s0 : Int} {st : z_St} {o : Int × z_St} (hc : z_C κ RL cL_lattice 18 28 12 (6 * 12)) (hap : z_AP κ a z_N) (he : z_EU 0 12 κ (some .boolean) z_T z_N a o.1 o.2) (h : J_L_lattice_124 v1 v3 v4 v6 s0 st = some o) : z_V κ z_T z_N a 4 (6 * 4) 124 [(0, .ref (a 0)), (1, .long (zJ v1)), (3, .int (zI v3)), (4, .int (zI v4)), (6, .int (zI v6))] [.int (zI s0)] st := by
  unfold J_L_lattice_124 at h
  refine z_istore [(7, .int (zI s0)), (0, .ref (a 0)), (1, .long (zJ v1)), (3, .int (zI v3)), (4, .int (zI v4)), (6, .int (zI v6))] hc dL_lattice_124 (by decide) rfl ?_
  refine z_aload_n (i := 0) 1 hc dL_lattice_126 rfl rfl ?_
  refine z_bipush hc dL_lattice_127 rfl ?_
  refine z_lload_n (i := 1) 2 hc dL_lattice_129 rfl rfl ?_
  refine z_iload 4 hc dL_lattice_130 rfl ?_
  refine z_iconst hc dL_lattice_132 ?_
  refine z_isub hc dL_lattice_133 ?_
  refine z_iconst hc dL_lattice_134 ?_
  refine z_iconst hc dL_lattice_135 ?_
  obtain ⟨r6, hr6, h⟩ := z_b_some h
  refine z_callHJ 5 (6 * 5) (mu := 1) (np := 6) [.ref (a 0), .int (zI 20), .long (zJ v1), .int (zI (v4 - 1)), .int (zI 3), .int (zI 0)] hc hap kL_does ml_RL_119 (z_t2 168 rfl rfl) (z_t1 0 rfl rfl) (by decide +kernel) (by decide) (fun l hl => c_L_does hl hr6) (by decide) rfl rfl (Nat.le_of_ble_eq_true rfl) (by omega) (by omega) (by omega) (by omega) dL_lattice_136 ?_
  refine z_lstore [(8, .long (zJ r6.1)), (7, .int (zI s0)), (0, .ref (a 0)), (1, .long (zJ v1)), (3, .int (zI v3)), (4, .int (zI v4)), (6, .int (zI v6))] hc dL_lattice_139 (by decide) rfl ?_
  refine z_aload_n (i := 0) 2 hc dL_lattice_141 rfl rfl ?_
  refine z_bipush hc dL_lattice_142 rfl ?_
  refine z_lload_n (i := 1) 3 hc dL_lattice_144 rfl rfl ?_
  refine z_iload 5 hc dL_lattice_145 rfl ?_
  refine z_iconst hc dL_lattice_147 ?_
  refine z_isub hc dL_lattice_148 ?_
  refine z_iconst hc dL_lattice_149 ?_
  refine z_iconst hc dL_lattice_150 ?_
  obtain ⟨r7, hr7, h⟩ := z_b_some h
  refine z_callHJ 6 (6 * 6) (mu := 1) (np := 6) [.ref (a 0), .int (zI 20), .long (zJ v1), .int (zI (v4 - 1)), .int (zI 1), .int (zI 0)] hc hap kL_does ml_RL_119 (z_t2 168 rfl rfl) (z_t1 0 rfl rfl) (by decide +kernel) (by decide) (fun l hl => c_L_does hl hr7) (by decide) rfl rfl (Nat.le_of_ble_eq_true rfl) (by omega) (by omega) (by omega) (by omega) dL_lattice_151 ?_
  refine z_lstore [(10, .long (zJ r7.1)), (8, .long (zJ r6.1)), (7, .int (zI s0)), (0, .ref (a 0)), (1, .long (zJ v1)), (3, .int (zI v3)), (4, .int (zI v4)), (6, .int (zI v6))] hc dL_lattice_154 (by decide) rfl ?_
  refine z_aload_n (i := 0) 3 hc dL_lattice_156 rfl rfl ?_
  refine z_bipush hc dL_lattice_157 rfl ?_
  refine z_lload_n (i := 1) 4 hc dL_lattice_159 rfl rfl ?_
  refine z_iload 6 hc dL_lattice_160 rfl ?_
  refine z_iconst hc dL_lattice_162 ?_
  refine z_isub hc dL_lattice_163 ?_
  refine z_iconst hc dL_lattice_164 ?_
  refine z_iconst hc dL_lattice_165 ?_
  obtain ⟨r8, hr8, h⟩ := z_b_some h
  refine z_callHJ 7 (6 * 7) (mu := 1) (np := 6) [.ref (a 0), .int (zI 20), .long (zJ v1), .int (zI (v4 - 1)), .int (zI 2), .int (zI 0)] hc hap kL_does ml_RL_119 (z_t2 168 rfl rfl) (z_t1 0 rfl rfl) (by decide +kernel) (by decide) (fun l hl => c_L_does hl hr8) (by decide) rfl rfl (Nat.le_of_ble_eq_true rfl) (by omega) (by omega) (by omega) (by omega) dL_lattice_166 ?_
  refine z_lstore [(12, .long (zJ r8.1)), (10, .long (zJ r7.1)), (8, .long (zJ r6.1)), (7, .int (zI s0)), (0, .ref (a 0)), (1, .long (zJ v1)), (3, .int (zI v3)), (4, .int (zI v4)), (6, .int (zI v6))] hc dL_lattice_169 (by decide) rfl ?_
  refine z_aload_n (i := 0) 4 hc dL_lattice_171 rfl rfl ?_
  refine z_bipush hc dL_lattice_172 rfl ?_
  refine z_lload_n (i := 1) 5 hc dL_lattice_174 rfl rfl ?_
  refine z_iload 7 hc dL_lattice_175 rfl ?_
  refine z_iconst hc dL_lattice_177 ?_
  refine z_isub hc dL_lattice_178 ?_
  refine z_iconst hc dL_lattice_179 ?_
  refine z_iconst hc dL_lattice_180 ?_
  obtain ⟨r9, hr9, h⟩ := z_b_some h
  refine z_callHJ 8 (6 * 8) (mu := 1) (np := 6) [.ref (a 0), .int (zI 20), .long (zJ v1), .int (zI (v4 - 1)), .int (zI 0), .int (zI 0)] hc hap kL_does ml_RL_119 (z_t2 168 rfl rfl) (z_t1 0 rfl rfl) (by decide +kernel) (by decide) (fun l hl => c_L_does hl hr9) (by decide) rfl rfl (Nat.le_of_ble_eq_true rfl) (by omega) (by omega) (by omega) (by omega) dL_lattice_181 ?_
  refine z_lstore [(14, .long (zJ r9.1)), (12, .long (zJ r8.1)), (10, .long (zJ r7.1)), (8, .long (zJ r6.1)), (7, .int (zI s0)), (0, .ref (a 0)), (1, .long (zJ v1)), (3, .int (zI v3)), (4, .int (zI v4)), (6, .int (zI v6))] hc dL_lattice_184 (by decide) rfl ?_
  refine z_iload 4 hc dL_lattice_186 rfl ?_
  refine z_lload 3 hc dL_lattice_188 rfl ?_
  refine z_lconst 0 hc dL_lattice_190 rfl ?_
  refine z_lcmp_lt (tgt := 229) hc dL_lattice_191 dL_lattice_192 (by decide) h (fun c191 h => ?_) (fun c191 h => ?_)
  · refine z_sub [(0, .ref (a 0)), (1, .long (zJ v1)), (3, .int (zI v3)), (6, .int (zI v6)), (8, .long (zJ r6.1)), (14, .long (zJ r9.1))] [5, 6, 7, 9, 3, 0] rfl ?_
    exact w_L_lattice_229 hc hap he h
  · refine z_lload 3 hc dL_lattice_195 rfl ?_
    refine z_lload_n (i := 1) 6 hc dL_lattice_197 rfl rfl ?_
    refine z_lcmp_gt (tgt := 229) hc dL_lattice_198 dL_lattice_199 (by decide) h (fun c198 h => ?_) (fun c198 h => ?_)
    · refine z_sub [(0, .ref (a 0)), (1, .long (zJ v1)), (3, .int (zI v3)), (6, .int (zI v6)), (8, .long (zJ r6.1)), (14, .long (zJ r9.1))] [5, 6, 7, 9, 3, 0] rfl ?_
      exact w_L_lattice_229 hc hap he h
    · refine z_lload 2 hc dL_lattice_202 rfl ?_
      refine z_lconst 0 hc dL_lattice_204 rfl ?_
      refine z_lcmp_lt (tgt := 229) hc dL_lattice_205 dL_lattice_206 (by decide) h (fun c205 h => ?_) (fun c205 h => ?_)
      · refine z_sub [(0, .ref (a 0)), (1, .long (zJ v1)), (3, .int (zI v3)), (6, .int (zI v6)), (8, .long (zJ r6.1)), (14, .long (zJ r9.1))] [5, 6, 7, 9, 3, 0] rfl ?_
        exact w_L_lattice_229 hc hap he h
      · refine z_lload 2 hc dL_lattice_209 rfl ?_
        refine z_lload 1 hc dL_lattice_211 rfl ?_
        refine z_lcmp_ge (tgt := 229) hc dL_lattice_213 dL_lattice_214 (by decide) h (fun c213 h => ?_) (fun c213 h => ?_)
        · refine z_lload 1 hc dL_lattice_217 rfl ?_
          refine z_iload_n (i := 3) 7 hc dL_lattice_219 rfl rfl ?_
          refine z_i2l hc dL_lattice_220 h (fun h => ?_)
          refine z_lcmp_ne (tgt := 229) hc dL_lattice_221 dL_lattice_222 (by decide) h (fun c221 h => ?_) (fun c221 h => ?_)
          · refine z_iconst hc dL_lattice_225 ?_
            refine z_goto (tgt := 230) hc dL_lattice_226 (by decide) ?_
            refine z_sub [(0, .ref (a 0)), (1, .long (zJ v1)), (3, .int (zI v3)), (6, .int (zI v6)), (8, .long (zJ r6.1)), (14, .long (zJ r9.1))] [5, 6, 7, 9, 3, 0] rfl ?_
            exact w_L_lattice_230 hc hap he h
          · refine z_sub [(0, .ref (a 0)), (1, .long (zJ v1)), (3, .int (zI v3)), (6, .int (zI v6)), (8, .long (zJ r6.1)), (14, .long (zJ r9.1))] [5, 6, 7, 9, 3, 0] rfl ?_
            exact w_L_lattice_229 hc hap he h
        · refine z_sub [(0, .ref (a 0)), (1, .long (zJ v1)), (3, .int (zI v3)), (6, .int (zI v6)), (8, .long (zJ r6.1)), (14, .long (zJ r9.1))] [5, 6, 7, 9, 3, 0] rfl ?_
          exact w_L_lattice_229 hc hap he h
noncomputable def J_L_lattice_123 (v1 v3 v4 v6 : Int) (st : z_St) : Option (Int × z_St) :=
  J_L_lattice_124 v1 v3 v4 v6 0 st
set_option maxRecDepth 100000 in
set_option maxHeartbeats 4000000 in
theorem w_L_lattice_123 {κ : zK} {a : Nat → Nat} {v1 v3 v4 v6 : Int} {st : z_St} {o : Int × z_St} (hc : z_C κ RL cL_lattice 18 28 12 (6 * 12)) (hap : z_AP κ a z_N) (he : z_EU 0 12 κ (some .boolean) z_T z_N a o.1 o.2) (h : J_L_lattice_123 v1 v3 v4 v6 st = some o) : z_V κ z_T z_N a 4 (6 * 4) 123 [(0, .ref (a 0)), (1, .long (zJ v1)), (3, .int (zI v3)), (4, .int (zI v4)), (6, .int (zI v6))] [] st := by
  unfold J_L_lattice_123 at h
  refine z_iconst hc dL_lattice_123 ?_
  refine z_sub [(0, .ref (a 0)), (1, .long (zJ v1)), (3, .int (zI v3)), (4, .int (zI v4)), (6, .int (zI v6))] [0, 1, 2, 3, 4] rfl ?_
  exact w_L_lattice_124 hc hap he h
noncomputable def J_L_lattice (x1 x3 : Int) (st : z_St) : Option (Int × z_St) :=
  z_b (J_L_ask 19 x1 0 st) fun r1 =>
  z_b (J_L_ask 19 900000000000000000 0 r1.2) fun r2 =>
  z_b (J_L_ask 17 0 0 r2.2) fun r3 =>
  z_g (z32 r3.1) (if r3.1 < 0 then
    z_g (z32 r1.1) (if r1.1 = 0 then
      z_g (z32 r2.1) (if r2.1 = 0 then
        z_b (J_L_does 20 x1 0 0 0 r3.2) fun r4 =>
        z_g (z64 r4.1 ∧ z64 (-1002)) (if r4.1 = (-1002) then
          z_b (J_L_ask 21 0 0 r4.2) fun r5 =>
          z_g (z64 r5.1 ∧ z64 (-1)) (if r5.1 = (-1) then
            J_L_lattice_87 1 r5.2
          else
            J_L_lattice_86 r5.2)
        else
          J_L_lattice_86 r4.2)
      else
        J_L_lattice_86 r3.2)
    else
      J_L_lattice_86 r3.2)
  else
    z_g (z32 r1.1 ∧ z32 1) (if r1.1 < 1 then
      J_L_lattice_123 x1 x3 r1.1 r3.1 r3.2
    else
      z_g (z32 r1.1 ∧ z32 r2.1) (if r2.1 < r1.1 then
        J_L_lattice_123 x1 x3 r1.1 r3.1 r3.2
      else
        z_b (J_L_does 20 x1 r1.1 0 0 r3.2) fun r14 =>
        z_g (z64 r14.1 ∧ z64 (-1002)) (if r14.1 = (-1002) then
          J_L_lattice_124 x1 x3 r1.1 r3.1 1 r14.2
        else
          J_L_lattice_123 x1 x3 r1.1 r3.1 r14.2))))
set_option maxRecDepth 100000 in
set_option maxHeartbeats 4000000 in
theorem w_L_lattice {κ : zK} {a : Nat → Nat} {x1 x3 : Int} {st : z_St} {o : Int × z_St} (hc : z_C κ RL cL_lattice 18 28 12 (6 * 12)) (hap : z_AP κ a z_N) (he : z_EU 0 12 κ (some .boolean) z_T z_N a o.1 o.2) (h : J_L_lattice x1 x3 st = some o) : z_V κ z_T z_N a 0 (6 * 0) 0 [(0, .ref (a 0)), (1, .long (zJ x1)), (3, .int (zI x3))] [] st := by
  unfold J_L_lattice at h
  refine z_aload_n (i := 0) 0 hc dL_lattice_0 rfl rfl ?_
  refine z_bipush hc dL_lattice_1 rfl ?_
  refine z_lload_n (i := 1) 1 hc dL_lattice_3 rfl rfl ?_
  refine z_iconst hc dL_lattice_4 ?_
  obtain ⟨r1, hr1, h⟩ := z_b_some h
  refine z_callUJ 1 (6 * 1) (mu := 1) [.ref (a 0), .int (zI 19), .long (zJ x1), .int (zI 0)] hc hap o_L_ask ml_RL_125 (fun l hl => c_L_ask hl hr1) (by decide) rfl rfl (Nat.le_of_ble_eq_true rfl) (by omega) (by omega) (by omega) (by omega) dL_lattice_5 ?_
  refine z_l2i hc dL_lattice_8 ?_
  refine z_istore [(4, .int (zI r1.1)), (0, .ref (a 0)), (1, .long (zJ x1)), (3, .int (zI x3))] hc dL_lattice_9 (by decide) rfl ?_
  refine z_aload_n (i := 0) 1 hc dL_lattice_11 rfl rfl ?_
  refine z_bipush hc dL_lattice_12 rfl ?_
  refine z_ldc2 900000000000000000 hc kc_RL_139 dL_lattice_14 rfl ?_
  refine z_iconst hc dL_lattice_17 ?_
  obtain ⟨r2, hr2, h⟩ := z_b_some h
  refine z_callUJ 2 (6 * 2) (mu := 1) [.ref (a 0), .int (zI 19), .long (zJ 900000000000000000), .int (zI 0)] hc hap o_L_ask ml_RL_125 (fun l hl => c_L_ask hl hr2) (by decide) rfl rfl (Nat.le_of_ble_eq_true rfl) (by omega) (by omega) (by omega) (by omega) dL_lattice_18 ?_
  refine z_l2i hc dL_lattice_21 ?_
  refine z_istore [(5, .int (zI r2.1)), (4, .int (zI r1.1)), (0, .ref (a 0)), (1, .long (zJ x1)), (3, .int (zI x3))] hc dL_lattice_22 (by decide) rfl ?_
  refine z_aload_n (i := 0) 2 hc dL_lattice_24 rfl rfl ?_
  refine z_bipush hc dL_lattice_25 rfl ?_
  refine z_lconst 0 hc dL_lattice_27 rfl ?_
  refine z_iconst hc dL_lattice_28 ?_
  obtain ⟨r3, hr3, h⟩ := z_b_some h
  refine z_callUJ 3 (6 * 3) (mu := 1) [.ref (a 0), .int (zI 17), .long (zJ 0), .int (zI 0)] hc hap o_L_ask ml_RL_125 (fun l hl => c_L_ask hl hr3) (by decide) rfl rfl (Nat.le_of_ble_eq_true rfl) (by omega) (by omega) (by omega) (by omega) dL_lattice_29 ?_
  refine z_l2i hc dL_lattice_32 ?_
  refine z_istore [(6, .int (zI r3.1)), (5, .int (zI r2.1)), (4, .int (zI r1.1)), (0, .ref (a 0)), (1, .long (zJ x1)), (3, .int (zI x3))] hc dL_lattice_33 (by decide) rfl ?_
  refine z_iload 0 hc dL_lattice_35 rfl ?_
  refine z_if_ge (tgt := 88) hc dL_lattice_37 (by decide) h (fun c37 h => ?_) (fun c37 h => ?_)
  · refine z_iload 2 hc dL_lattice_40 rfl ?_
    refine z_if_ne (tgt := 86) hc dL_lattice_42 (by decide) h (fun c42 h => ?_) (fun c42 h => ?_)
    · refine z_iload 1 hc dL_lattice_45 rfl ?_
      refine z_if_ne (tgt := 86) hc dL_lattice_47 (by decide) h (fun c47 h => ?_) (fun c47 h => ?_)
      · refine z_aload_n (i := 0) 3 hc dL_lattice_50 rfl rfl ?_
        refine z_bipush hc dL_lattice_51 rfl ?_
        refine z_lload_n (i := 1) 4 hc dL_lattice_53 rfl rfl ?_
        refine z_iconst hc dL_lattice_54 ?_
        refine z_iconst hc dL_lattice_55 ?_
        refine z_iconst hc dL_lattice_56 ?_
        obtain ⟨r4, hr4, h⟩ := z_b_some h
        refine z_callHJ 4 (6 * 4) (mu := 1) (np := 6) [.ref (a 0), .int (zI 20), .long (zJ x1), .int (zI 0), .int (zI 0), .int (zI 0)] hc hap kL_does ml_RL_119 (z_t2 168 rfl rfl) (z_t1 0 rfl rfl) (by decide +kernel) (by decide) (fun l hl => c_L_does hl hr4) (by decide) rfl rfl (Nat.le_of_ble_eq_true rfl) (by omega) (by omega) (by omega) (by omega) dL_lattice_57 ?_
        refine z_ldc2 (-1002) hc kc_RL_109 dL_lattice_60 rfl ?_
        refine z_lcmp_ne (tgt := 86) hc dL_lattice_63 dL_lattice_64 (by decide) h (fun c63 h => ?_) (fun c63 h => ?_)
        · refine z_aload_n (i := 0) 3 hc dL_lattice_67 rfl rfl ?_
          refine z_bipush hc dL_lattice_68 rfl ?_
          refine z_lconst 0 hc dL_lattice_70 rfl ?_
          refine z_iconst hc dL_lattice_71 ?_
          obtain ⟨r5, hr5, h⟩ := z_b_some h
          refine z_callUJ 5 (6 * 5) (mu := 1) [.ref (a 0), .int (zI 21), .long (zJ 0), .int (zI 0)] hc hap o_L_ask ml_RL_125 (fun l hl => c_L_ask hl hr5) (by decide) rfl rfl (Nat.le_of_ble_eq_true rfl) (by omega) (by omega) (by omega) (by omega) dL_lattice_72 ?_
          refine z_ldc2 (-1) hc kc_RL_135 dL_lattice_75 rfl ?_
          refine z_lcmp_ne (tgt := 86) hc dL_lattice_78 dL_lattice_79 (by decide) h (fun c78 h => ?_) (fun c78 h => ?_)
          · refine z_iconst hc dL_lattice_82 ?_
            refine z_goto (tgt := 87) hc dL_lattice_83 (by decide) ?_
            refine z_sub [] [] rfl ?_
            exact w_L_lattice_87 hc hap he h
          · refine z_sub [] [] rfl ?_
            exact w_L_lattice_86 hc hap he h
        · refine z_sub [] [] rfl ?_
          refine z_wide (cells' := 5) (slots' := 6 * 5) (Nat.le_of_ble_eq_true rfl) (Nat.le_of_ble_eq_true rfl) ?_
          exact w_L_lattice_86 hc hap he h
      · refine z_sub [] [] rfl ?_
        refine z_wide (cells' := 5) (slots' := 6 * 5) (Nat.le_of_ble_eq_true rfl) (Nat.le_of_ble_eq_true rfl) ?_
        exact w_L_lattice_86 hc hap he h
    · refine z_sub [] [] rfl ?_
      refine z_wide (cells' := 5) (slots' := 6 * 5) (Nat.le_of_ble_eq_true rfl) (Nat.le_of_ble_eq_true rfl) ?_
      exact w_L_lattice_86 hc hap he h
  · refine z_iload 2 hc dL_lattice_88 rfl ?_
    refine z_iconst hc dL_lattice_90 ?_
    refine z_icmp_lt (tgt := 123) hc dL_lattice_91 (by decide) h (fun c91 h => ?_) (fun c91 h => ?_)
    · refine z_sub [(0, .ref (a 0)), (1, .long (zJ x1)), (3, .int (zI x3)), (4, .int (zI r1.1)), (6, .int (zI r3.1))] [3, 4, 5, 2, 0] rfl ?_
      refine z_wide (cells' := 4) (slots' := 6 * 4) (Nat.le_of_ble_eq_true rfl) (Nat.le_of_ble_eq_true rfl) ?_
      exact w_L_lattice_123 hc hap he h
    · refine z_iload 2 hc dL_lattice_94 rfl ?_
      refine z_iload 1 hc dL_lattice_96 rfl ?_
      refine z_icmp_gt (tgt := 123) hc dL_lattice_98 (by decide) h (fun c98 h => ?_) (fun c98 h => ?_)
      · refine z_sub [(0, .ref (a 0)), (1, .long (zJ x1)), (3, .int (zI x3)), (4, .int (zI r1.1)), (6, .int (zI r3.1))] [3, 4, 5, 2, 0] rfl ?_
        refine z_wide (cells' := 4) (slots' := 6 * 4) (Nat.le_of_ble_eq_true rfl) (Nat.le_of_ble_eq_true rfl) ?_
        exact w_L_lattice_123 hc hap he h
      · refine z_aload_n (i := 0) 3 hc dL_lattice_101 rfl rfl ?_
        refine z_bipush hc dL_lattice_102 rfl ?_
        refine z_lload_n (i := 1) 4 hc dL_lattice_104 rfl rfl ?_
        refine z_iload 2 hc dL_lattice_105 rfl ?_
        refine z_iconst hc dL_lattice_107 ?_
        refine z_iconst hc dL_lattice_108 ?_
        obtain ⟨r14, hr14, h⟩ := z_b_some h
        refine z_callHJ 4 (6 * 4) (mu := 1) (np := 6) [.ref (a 0), .int (zI 20), .long (zJ x1), .int (zI r1.1), .int (zI 0), .int (zI 0)] hc hap kL_does ml_RL_119 (z_t2 168 rfl rfl) (z_t1 0 rfl rfl) (by decide +kernel) (by decide) (fun l hl => c_L_does hl hr14) (by decide) rfl rfl (Nat.le_of_ble_eq_true rfl) (by omega) (by omega) (by omega) (by omega) dL_lattice_109 ?_
        refine z_ldc2 (-1002) hc kc_RL_109 dL_lattice_112 rfl ?_
        refine z_lcmp_ne (tgt := 123) hc dL_lattice_115 dL_lattice_116 (by decide) h (fun c115 h => ?_) (fun c115 h => ?_)
        · refine z_iconst hc dL_lattice_119 ?_
          refine z_goto (tgt := 124) hc dL_lattice_120 (by decide) ?_
          refine z_sub [(0, .ref (a 0)), (1, .long (zJ x1)), (3, .int (zI x3)), (4, .int (zI r1.1)), (6, .int (zI r3.1))] [3, 4, 5, 2, 0] rfl ?_
          exact w_L_lattice_124 hc hap he h
        · refine z_sub [(0, .ref (a 0)), (1, .long (zJ x1)), (3, .int (zI x3)), (4, .int (zI r1.1)), (6, .int (zI r3.1))] [3, 4, 5, 2, 0] rfl ?_
          exact w_L_lattice_123 hc hap he h
set_option maxRecDepth 100000 in
set_option maxHeartbeats 4000000 in
theorem c_L_lattice {l : Launch} (hl : l.stackTraces = false) {a : Nat → Nat} {x1 x3 : Int} {st : z_St} {o : Int × z_St} (h : J_L_lattice x1 x3 st = some o) : z_MU 0 12 l yL_lattice (z_w yL_lattice cL_lattice 18 (some .boolean)) 28 z_T z_N a [.ref (a 0), .long (zJ x1), .int (zI x3)] st o.1 o.2 := z_ofU hl (by decide +kernel) (Nat.le_of_ble_eq_true rfl) (fun κ hc hap he => w_L_lattice hc hap he h)
