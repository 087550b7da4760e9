theorem dL_act_0 : decode cL_act 0 = .ok (.iload_n 3, 1) := by decide +kernel
theorem dL_act_1 : decode cL_act 1 = .ok (.tableswitch 341 0 8 #[51, 104, 133, 170, 205, 243, 273, 290, 322], 51) := by decide +kernel
theorem dL_act_52 : decode cL_act 52 = .ok (.aload_n 0, 1) := by decide +kernel
theorem dL_act_53 : decode cL_act 53 = .ok (.iconst 0, 1) := by decide +kernel
theorem dL_act_54 : decode cL_act 54 = .ok (.iload_n 1, 1) := by decide +kernel
theorem dL_act_55 : decode cL_act 55 = .ok (.bipush 41, 2) := by decide +kernel
theorem dL_act_57 : decode cL_act 57 = .ok (.invokestatic 129, 3) := by decide +kernel
theorem dL_act_60 : decode cL_act 60 = .ok (.bipush 20, 2) := by decide +kernel
theorem dL_act_62 : decode cL_act 62 = .ok (.isub, 1) := by decide +kernel
theorem dL_act_63 : decode cL_act 63 = .ok (.i2l, 1) := by decide +kernel
theorem dL_act_64 : decode cL_act 64 = .ok (.iload_n 2, 1) := by decide +kernel
theorem dL_act_65 : decode cL_act 65 = .ok (.bipush 41, 2) := by decide +kernel
theorem dL_act_67 : decode cL_act 67 = .ok (.invokestatic 129, 3) := by decide +kernel
theorem dL_act_70 : decode cL_act 70 = .ok (.bipush 20, 2) := by decide +kernel
theorem dL_act_72 : decode cL_act 72 = .ok (.isub, 1) := by decide +kernel
theorem dL_act_73 : decode cL_act 73 = .ok (.iload_n 2, 1) := by decide +kernel
theorem dL_act_74 : decode cL_act 74 = .ok (.bipush 6, 2) := by decide +kernel
theorem dL_act_76 : decode cL_act 76 = .ok (.ishr, 1) := by decide +kernel
theorem dL_act_77 : decode cL_act 77 = .ok (.bipush 9, 2) := by decide +kernel
theorem dL_act_79 : decode cL_act 79 = .ok (.invokestatic 129, 3) := by decide +kernel
theorem dL_act_82 : decode cL_act 82 = .ok (.ifCond .ne 9, 3) := by decide +kernel
theorem dL_act_85 : decode cL_act 85 = .ok (.sipush 30001, 3) := by decide +kernel
theorem dL_act_88 : decode cL_act 88 = .ok (.goto 12, 3) := by decide +kernel
theorem dL_act_91 : decode cL_act 91 = .ok (.iload_n 2, 1) := by decide +kernel
theorem dL_act_92 : decode cL_act 92 = .ok (.bipush 10, 2) := by decide +kernel
theorem dL_act_94 : decode cL_act 94 = .ok (.ishr, 1) := by decide +kernel
theorem dL_act_95 : decode cL_act 95 = .ok (.bipush 21, 2) := by decide +kernel
theorem dL_act_97 : decode cL_act 97 = .ok (.invokestatic 129, 3) := by decide +kernel
theorem dL_act_100 : decode cL_act 100 = .ok (.iconst 0, 1) := by decide +kernel
theorem dL_act_101 : decode cL_act 101 = .ok (.invokestatic 119, 3) := by decide +kernel
theorem dL_act_104 : decode cL_act 104 = .ok (.lreturn, 1) := by decide +kernel
theorem dL_act_105 : decode cL_act 105 = .ok (.aload_n 0, 1) := by decide +kernel
theorem dL_act_106 : decode cL_act 106 = .ok (.iconst 2, 1) := by decide +kernel
theorem dL_act_107 : decode cL_act 107 = .ok (.iload_n 1, 1) := by decide +kernel
theorem dL_act_108 : decode cL_act 108 = .ok (.iconst 5, 1) := by decide +kernel
theorem dL_act_109 : decode cL_act 109 = .ok (.invokestatic 129, 3) := by decide +kernel
theorem dL_act_112 : decode cL_act 112 = .ok (.i2l, 1) := by decide +kernel
theorem dL_act_113 : decode cL_act 113 = .ok (.iload_n 2, 1) := by decide +kernel
theorem dL_act_114 : decode cL_act 114 = .ok (.iconst 3, 1) := by decide +kernel
theorem dL_act_115 : decode cL_act 115 = .ok (.invokestatic 129, 3) := by decide +kernel
theorem dL_act_118 : decode cL_act 118 = .ok (.iload_n 2, 1) := by decide +kernel
theorem dL_act_119 : decode cL_act 119 = .ok (.iconst 2, 1) := by decide +kernel
theorem dL_act_120 : decode cL_act 120 = .ok (.ishr, 1) := by decide +kernel
theorem dL_act_121 : decode cL_act 121 = .ok (.bipush 31, 2) := by decide +kernel
theorem dL_act_123 : decode cL_act 123 = .ok (.invokestatic 129, 3) := by decide +kernel
theorem dL_act_126 : decode cL_act 126 = .ok (.bipush 15, 2) := by decide +kernel
theorem dL_act_128 : decode cL_act 128 = .ok (.isub, 1) := by decide +kernel
theorem dL_act_129 : decode cL_act 129 = .ok (.iconst 0, 1) := by decide +kernel
theorem dL_act_130 : decode cL_act 130 = .ok (.invokestatic 119, 3) := by decide +kernel
theorem dL_act_133 : decode cL_act 133 = .ok (.lreturn, 1) := by decide +kernel
theorem dL_act_134 : decode cL_act 134 = .ok (.aload_n 0, 1) := by decide +kernel
theorem dL_act_135 : decode cL_act 135 = .ok (.iconst 4, 1) := by decide +kernel
theorem dL_act_136 : decode cL_act 136 = .ok (.iload_n 1, 1) := by decide +kernel
theorem dL_act_137 : decode cL_act 137 = .ok (.iconst 4, 1) := by decide +kernel
theorem dL_act_138 : decode cL_act 138 = .ok (.invokestatic 129, 3) := by decide +kernel
theorem dL_act_141 : decode cL_act 141 = .ok (.i2l, 1) := by decide +kernel
theorem dL_act_142 : decode cL_act 142 = .ok (.iload_n 1, 1) := by decide +kernel
theorem dL_act_143 : decode cL_act 143 = .ok (.iconst 3, 1) := by decide +kernel
theorem dL_act_144 : decode cL_act 144 = .ok (.ishr, 1) := by decide +kernel
theorem dL_act_145 : decode cL_act 145 = .ok (.iconst 2, 1) := by decide +kernel
theorem dL_act_146 : decode cL_act 146 = .ok (.invokestatic 129, 3) := by decide +kernel
theorem dL_act_149 : decode cL_act 149 = .ok (.iload_n 2, 1) := by decide +kernel
theorem dL_act_150 : decode cL_act 150 = .ok (.bipush 66, 2) := by decide +kernel
theorem dL_act_152 : decode cL_act 152 = .ok (.invokestatic 129, 3) := by decide +kernel
theorem dL_act_155 : decode cL_act 155 = .ok (.iload_n 2, 1) := by decide +kernel
theorem dL_act_156 : decode cL_act 156 = .ok (.bipush 7, 2) := by decide +kernel
theorem dL_act_158 : decode cL_act 158 = .ok (.ishr, 1) := by decide +kernel
theorem dL_act_159 : decode cL_act 159 = .ok (.bipush 41, 2) := by decide +kernel
theorem dL_act_161 : decode cL_act 161 = .ok (.invokestatic 129, 3) := by decide +kernel
theorem dL_act_164 : decode cL_act 164 = .ok (.bipush 20, 2) := by decide +kernel
theorem dL_act_166 : decode cL_act 166 = .ok (.isub, 1) := by decide +kernel
theorem dL_act_167 : decode cL_act 167 = .ok (.invokestatic 119, 3) := by decide +kernel
theorem dL_act_170 : decode cL_act 170 = .ok (.lreturn, 1) := by decide +kernel
theorem dL_act_171 : decode cL_act 171 = .ok (.aload_n 0, 1) := by decide +kernel
theorem dL_act_172 : decode cL_act 172 = .ok (.bipush 11, 2) := by decide +kernel
theorem dL_act_174 : decode cL_act 174 = .ok (.iload_n 1, 1) := by decide +kernel
theorem dL_act_175 : decode cL_act 175 = .ok (.iconst 5, 1) := by decide +kernel
theorem dL_act_176 : decode cL_act 176 = .ok (.invokestatic 129, 3) := by decide +kernel
theorem dL_act_179 : decode cL_act 179 = .ok (.ifCond .ne 16, 3) := by decide +kernel
theorem dL_act_182 : decode cL_act 182 = .ok (.bipush 10, 2) := by decide +kernel
theorem dL_act_184 : decode cL_act 184 = .ok (.iload_n 2, 1) := by decide +kernel
theorem dL_act_185 : decode cL_act 185 = .ok (.bipush 9, 2) := by decide +kernel
theorem dL_act_187 : decode cL_act 187 = .ok (.invokestatic 129, 3) := by decide +kernel
theorem dL_act_190 : decode cL_act 190 = .ok (.imul, 1) := by decide +kernel
theorem dL_act_191 : decode cL_act 191 = .ok (.i2l, 1) := by decide +kernel
theorem dL_act_192 : decode cL_act 192 = .ok (.goto 9, 3) := by decide +kernel
theorem dL_act_195 : decode cL_act 195 = .ok (.iload_n 2, 1) := by decide +kernel
theorem dL_act_196 : decode cL_act 196 = .ok (.iconst 2, 1) := by decide +kernel
theorem dL_act_197 : decode cL_act 197 = .ok (.invokestatic 132, 3) := by decide +kernel
theorem dL_act_200 : decode cL_act 200 = .ok (.i2l, 1) := by decide +kernel
theorem dL_act_201 : decode cL_act 201 = .ok (.iconst 0, 1) := by decide +kernel
theorem dL_act_202 : decode cL_act 202 = .ok (.invokestatic 125, 3) := by decide +kernel
theorem dL_act_205 : decode cL_act 205 = .ok (.lreturn, 1) := by decide +kernel
theorem dL_act_206 : decode cL_act 206 = .ok (.aload_n 0, 1) := by decide +kernel
theorem dL_act_207 : decode cL_act 207 = .ok (.bipush 12, 2) := by decide +kernel
theorem dL_act_209 : decode cL_act 209 = .ok (.iload_n 2, 1) := by decide +kernel
theorem dL_act_210 : decode cL_act 210 = .ok (.iconst 2, 1) := by decide +kernel
theorem dL_act_211 : decode cL_act 211 = .ok (.invokestatic 129, 3) := by decide +kernel
theorem dL_act_214 : decode cL_act 214 = .ok (.ifCond .ne 16, 3) := by decide +kernel
theorem dL_act_217 : decode cL_act 217 = .ok (.iload_n 2, 1) := by decide +kernel
theorem dL_act_218 : decode cL_act 218 = .ok (.iconst 1, 1) := by decide +kernel
theorem dL_act_219 : decode cL_act 219 = .ok (.ishr, 1) := by decide +kernel
theorem dL_act_220 : decode cL_act 220 = .ok (.sipush 900, 3) := by decide +kernel
theorem dL_act_223 : decode cL_act 223 = .ok (.invokestatic 129, 3) := by decide +kernel
theorem dL_act_226 : decode cL_act 226 = .ok (.i2l, 1) := by decide +kernel
theorem dL_act_227 : decode cL_act 227 = .ok (.goto 12, 3) := by decide +kernel
theorem dL_act_230 : decode cL_act 230 = .ok (.iload_n 2, 1) := by decide +kernel
theorem dL_act_231 : decode cL_act 231 = .ok (.iconst 1, 1) := by decide +kernel
theorem dL_act_232 : decode cL_act 232 = .ok (.ishr, 1) := by decide +kernel
theorem dL_act_233 : decode cL_act 233 = .ok (.ldc 143, 2) := by decide +kernel
theorem dL_act_235 : decode cL_act 235 = .ok (.invokestatic 129, 3) := by decide +kernel
theorem dL_act_238 : decode cL_act 238 = .ok (.i2l, 1) := by decide +kernel
theorem dL_act_239 : decode cL_act 239 = .ok (.iconst 0, 1) := by decide +kernel
theorem dL_act_240 : decode cL_act 240 = .ok (.invokestatic 125, 3) := by decide +kernel
theorem dL_act_243 : decode cL_act 243 = .ok (.lreturn, 1) := by decide +kernel
theorem dL_act_244 : decode cL_act 244 = .ok (.aload_n 0, 1) := by decide +kernel
theorem dL_act_245 : decode cL_act 245 = .ok (.bipush 13, 2) := by decide +kernel
theorem dL_act_247 : decode cL_act 247 = .ok (.iload_n 2, 1) := by decide +kernel
theorem dL_act_248 : decode cL_act 248 = .ok (.iconst 5, 1) := by decide +kernel
theorem dL_act_249 : decode cL_act 249 = .ok (.invokestatic 129, 3) := by decide +kernel
theorem dL_act_252 : decode cL_act 252 = .ok (.ifCond .ne 9, 3) := by decide +kernel
theorem dL_act_255 : decode cL_act 255 = .ok (.ldc2_w 144, 3) := by decide +kernel
theorem dL_act_258 : decode cL_act 258 = .ok (.goto 11, 3) := by decide +kernel
theorem dL_act_261 : decode cL_act 261 = .ok (.iload_n 2, 1) := by decide +kernel
theorem dL_act_262 : decode cL_act 262 = .ok (.iconst 3, 1) := by decide +kernel
theorem dL_act_263 : decode cL_act 263 = .ok (.ishr, 1) := by decide +kernel
theorem dL_act_264 : decode cL_act 264 = .ok (.iconst 4, 1) := by decide +kernel
theorem dL_act_265 : decode cL_act 265 = .ok (.invokestatic 129, 3) := by decide +kernel
theorem dL_act_268 : decode cL_act 268 = .ok (.i2l, 1) := by decide +kernel
theorem dL_act_269 : decode cL_act 269 = .ok (.iconst 0, 1) := by decide +kernel
theorem dL_act_270 : decode cL_act 270 = .ok (.invokestatic 125, 3) := by decide +kernel
theorem dL_act_273 : decode cL_act 273 = .ok (.lreturn, 1) := by decide +kernel
theorem dL_act_274 : decode cL_act 274 = .ok (.aload_n 0, 1) := by decide +kernel
theorem dL_act_275 : decode cL_act 275 = .ok (.iconst 5, 1) := by decide +kernel
theorem dL_act_276 : decode cL_act 276 = .ok (.bipush 96, 2) := by decide +kernel
theorem dL_act_278 : decode cL_act 278 = .ok (.iload_n 1, 1) := by decide +kernel
theorem dL_act_279 : decode cL_act 279 = .ok (.bipush 8, 2) := by decide +kernel
theorem dL_act_281 : decode cL_act 281 = .ok (.invokestatic 129, 3) := by decide +kernel
theorem dL_act_284 : decode cL_act 284 = .ok (.iadd, 1) := by decide +kernel
theorem dL_act_285 : decode cL_act 285 = .ok (.i2l, 1) := by decide +kernel
theorem dL_act_286 : decode cL_act 286 = .ok (.iconst 0, 1) := by decide +kernel
theorem dL_act_287 : decode cL_act 287 = .ok (.invokestatic 125, 3) := by decide +kernel
theorem dL_act_290 : decode cL_act 290 = .ok (.lreturn, 1) := by decide +kernel
theorem dL_act_291 : decode cL_act 291 = .ok (.aload_n 0, 1) := by decide +kernel
theorem dL_act_292 : decode cL_act 292 = .ok (.bipush 6, 2) := by decide +kernel
theorem dL_act_294 : decode cL_act 294 = .ok (.iload_n 2, 1) := by decide +kernel
theorem dL_act_295 : decode cL_act 295 = .ok (.bipush 9, 2) := by decide +kernel
theorem dL_act_297 : decode cL_act 297 = .ok (.invokestatic 129, 3) := by decide +kernel
theorem dL_act_300 : decode cL_act 300 = .ok (.ifCond .ne 9, 3) := by decide +kernel
theorem dL_act_303 : decode cL_act 303 = .ok (.ldc2_w 146, 3) := by decide +kernel
theorem dL_act_306 : decode cL_act 306 = .ok (.goto 12, 3) := by decide +kernel
theorem dL_act_309 : decode cL_act 309 = .ok (.iload_n 2, 1) := by decide +kernel
theorem dL_act_310 : decode cL_act 310 = .ok (.iconst 4, 1) := by decide +kernel
theorem dL_act_311 : decode cL_act 311 = .ok (.ishr, 1) := by decide +kernel
theorem dL_act_312 : decode cL_act 312 = .ok (.bipush 60, 2) := by decide +kernel
theorem dL_act_314 : decode cL_act 314 = .ok (.invokestatic 129, 3) := by decide +kernel
theorem dL_act_317 : decode cL_act 317 = .ok (.i2l, 1) := by decide +kernel
theorem dL_act_318 : decode cL_act 318 = .ok (.iconst 0, 1) := by decide +kernel
theorem dL_act_319 : decode cL_act 319 = .ok (.invokestatic 125, 3) := by decide +kernel
theorem dL_act_322 : decode cL_act 322 = .ok (.lreturn, 1) := by decide +kernel
theorem dL_act_323 : decode cL_act 323 = .ok (.aload_n 0, 1) := by decide +kernel
theorem dL_act_324 : decode cL_act 324 = .ok (.bipush 7, 2) := by decide +kernel
theorem dL_act_326 : decode cL_act 326 = .ok (.iload_n 1, 1) := by decide +kernel
theorem dL_act_327 : decode cL_act 327 = .ok (.iconst 4, 1) := by decide +kernel
theorem dL_act_328 : decode cL_act 328 = .ok (.invokestatic 129, 3) := by decide +kernel
theorem dL_act_331 : decode cL_act 331 = .ok (.i2l, 1) := by decide +kernel
theorem dL_act_332 : decode cL_act 332 = .ok (.iload_n 2, 1) := by decide +kernel
theorem dL_act_333 : decode cL_act 333 = .ok (.bipush 60, 2) := by decide +kernel
theorem dL_act_335 : decode cL_act 335 = .ok (.invokestatic 129, 3) := by decide +kernel
theorem dL_act_338 : decode cL_act 338 = .ok (.invokestatic 125, 3) := by decide +kernel
theorem dL_act_341 : decode cL_act 341 = .ok (.lreturn, 1) := by decide +kernel
theorem dL_act_342 : decode cL_act 342 = .ok (.aload_n 0, 1) := by decide +kernel
theorem dL_act_343 : decode cL_act 343 = .ok (.iconst 1, 1) := by decide +kernel
theorem dL_act_344 : decode cL_act 344 = .ok (.iload_n 1, 1) := by decide +kernel
theorem dL_act_345 : decode cL_act 345 = .ok (.iconst 5, 1) := by decide +kernel
theorem dL_act_346 : decode cL_act 346 = .ok (.invokestatic 129, 3) := by decide +kernel
theorem dL_act_349 : decode cL_act 349 = .ok (.i2l, 1) := by decide +kernel
theorem dL_act_350 : decode cL_act 350 = .ok (.iconst 0, 1) := by decide +kernel
theorem dL_act_351 : decode cL_act 351 = .ok (.invokestatic 125, 3) := by decide +kernel
theorem dL_act_354 : decode cL_act 354 = .ok (.lreturn, 1) := by decide +kernel
noncomputable def J_L_act_100 (s0 s1 s2 s3 : Int) (st : z_St) : Option (Int × z_St) :=
  z_b (J_L_does s3 s2 s1 s0 0 st) fun r4 =>
  some (r4.1, r4.2)
set_option maxRecDepth 100000 in
set_option maxHeartbeats 4000000 in
theorem w_L_act_100 {κ : zK} {a : Nat → Nat} {s0 s1 s2 s3 : Int} {st : z_St} {o : Int × z_St} (hc : z_C κ RL cL_act 4 28 1 (6 * 1)) (hap : z_AP κ a z_N) (he : z_EU 1 1 κ (some .long) z_T z_N a o.1 o.2) (h : J_L_act_100 s0 s1 s2 s3 st = some o) : z_V κ z_T z_N a 0 (6 * 0) 100 [] [.int (zI s0), .int (zI s1), .long (zJ s2), .int (zI s3), .ref (a 0)] st := by
  unfold J_L_act_100 at h
  refine z_iconst hc dL_act_100 ?_
  obtain ⟨r4, hr4, h⟩ := z_b_some h
  refine z_callHJ 1 (6 * 1) (mu := 1) (np := 6) [.ref (a 0), .int (zI s3), .long (zJ s2), .int (zI s1), .int (zI s0), .int (zI 0)] hc hap kL_does ml_RL_119 (z_t2 168 rfl rfl) (z_t1 0 rfl rfl) (by decide +kernel) (by decide) (fun l hl => c_L_does hl hr4) (by decide) rfl rfl (Nat.le_of_ble_eq_true rfl) (by omega) (by omega) (by omega) (by omega) dL_act_101 ?_
  have h := Option.some.inj h
  subst h
  exact z_retUJ hc he dL_act_104
noncomputable def J_L_act_201 (s0 s1 : Int) (st : z_St) : Option (Int × z_St) :=
  z_b (J_L_ask s1 s0 0 st) fun r17 =>
  some (r17.1, r17.2)
set_option maxRecDepth 100000 in
set_option maxHeartbeats 4000000 in
theorem w_L_act_201 {κ : zK} {a : Nat → Nat} {s0 s1 : Int} {st : z_St} {o : Int × z_St} (hc : z_C κ RL cL_act 4 28 1 (6 * 1)) (hap : z_AP κ a z_N) (he : z_EU 1 1 κ (some .long) z_T z_N a o.1 o.2) (h : J_L_act_201 s0 s1 st = some o) : z_V κ z_T z_N a 0 (6 * 0) 201 [] [.long (zJ s0), .int (zI s1), .ref (a 0)] st := by
  unfold J_L_act_201 at h
  refine z_iconst hc dL_act_201 ?_
  obtain ⟨r17, hr17, h⟩ := z_b_some h
  refine z_callUJ 1 (6 * 1) (mu := 1) [.ref (a 0), .int (zI s1), .long (zJ s0), .int (zI 0)] hc hap o_L_ask ml_RL_125 (fun l hl => c_L_ask hl hr17) (by decide) rfl rfl (Nat.le_of_ble_eq_true rfl) (by omega) (by omega) (by omega) (by omega) dL_act_202 ?_
  have h := Option.some.inj h
  subst h
  exact z_retUJ hc he dL_act_205
noncomputable def J_L_act_239 (s0 s1 : Int) (st : z_St) : Option (Int × z_St) :=
  z_b (J_L_ask s1 s0 0 st) fun r21 =>
  some (r21.1, r21.2)
set_option maxRecDepth 100000 in
set_option maxHeartbeats 4000000 in
theorem w_L_act_239 {κ : zK} {a : Nat → Nat} {s0 s1 : Int} {st : z_St} {o : Int × z_St} (hc : z_C κ RL cL_act 4 28 1 (6 * 1)) (hap : z_AP κ a z_N) (he : z_EU 1 1 κ (some .long) z_T z_N a o.1 o.2) (h : J_L_act_239 s0 s1 st = some o) : z_V κ z_T z_N a 0 (6 * 0) 239 [] [.long (zJ s0), .int (zI s1), .ref (a 0)] st := by
  unfold J_L_act_239 at h
  refine z_iconst hc dL_act_239 ?_
  obtain ⟨r21, hr21, h⟩ := z_b_some h
  refine z_callUJ 1 (6 * 1) (mu := 1) [.ref (a 0), .int (zI s1), .long (zJ s0), .int (zI 0)] hc hap o_L_ask ml_RL_125 (fun l hl => c_L_ask hl hr21) (by decide) rfl rfl (Nat.le_of_ble_eq_true rfl) (by omega) (by omega) (by omega) (by omega) dL_act_240 ?_
  have h := Option.some.inj h
  subst h
  exact z_retUJ hc he dL_act_243
noncomputable def J_L_act_269 (s0 s1 : Int) (st : z_St) : Option (Int × z_St) :=
  z_b (J_L_ask s1 s0 0 st) fun r24 =>
  some (r24.1, r24.2)
set_option maxRecDepth 100000 in
set_option maxHeartbeats 4000000 in
theorem w_L_act_269 {κ : zK} {a : Nat → Nat} {s0 s1 : Int} {st : z_St} {o : Int × z_St} (hc : z_C κ RL cL_act 4 28 1 (6 * 1)) (hap : z_AP κ a z_N) (he : z_EU 1 1 κ (some .long) z_T z_N a o.1 o.2) (h : J_L_act_269 s0 s1 st = some o) : z_V κ z_T z_N a 0 (6 * 0) 269 [] [.long (zJ s0), .int (zI s1), .ref (a 0)] st := by
  unfold J_L_act_269 at h
  refine z_iconst hc dL_act_269 ?_
  obtain ⟨r24, hr24, h⟩ := z_b_some h
  refine z_callUJ 1 (6 * 1) (mu := 1) [.ref (a 0), .int (zI s1), .long (zJ s0), .int (zI 0)] hc hap o_L_ask ml_RL_125 (fun l hl => c_L_ask hl hr24) (by decide) rfl rfl (Nat.le_of_ble_eq_true rfl) (by omega) (by omega) (by omega) (by omega) dL_act_270 ?_
  have h := Option.some.inj h
  subst h
  exact z_retUJ hc he dL_act_273
noncomputable def J_L_act_318 (s0 s1 : Int) (st : z_St) : Option (Int × z_St) :=
  z_b (J_L_ask s1 s0 0 st) fun r29 =>
  some (r29.1, r29.2)
set_option maxRecDepth 100000 in
set_option maxHeartbeats 4000000 in
theorem w_L_act_318 {κ : zK} {a : Nat → Nat} {s0 s1 : Int} {st : z_St} {o : Int × z_St} (hc : z_C κ RL cL_act 4 28 1 (6 * 1)) (hap : z_AP κ a z_N) (he : z_EU 1 1 κ (some .long) z_T z_N a o.1 o.2) (h : J_L_act_318 s0 s1 st = some o) : z_V κ z_T z_N a 0 (6 * 0) 318 [] [.long (zJ s0), .int (zI s1), .ref (a 0)] st := by
  unfold J_L_act_318 at h
  refine z_iconst hc dL_act_318 ?_
  obtain ⟨r29, hr29, h⟩ := z_b_some h
  refine z_callUJ 1 (6 * 1) (mu := 1) [.ref (a 0), .int (zI s1), .long (zJ s0), .int (zI 0)] hc hap o_L_ask ml_RL_125 (fun l hl => c_L_ask hl hr29) (by decide) rfl rfl (Nat.le_of_ble_eq_true rfl) (by omega) (by omega) (by omega) (by omega) dL_act_319 ?_
  have h := Option.some.inj h
  subst h
  exact z_retUJ hc he dL_act_322
noncomputable def J_L_act (x1 x2 x3 : Int) (st : z_St) : Option (Int × z_St) :=
  z_g (z32 x3) (
  if x3 = 0 then
    z_b (J_L_low x1 41 st) fun r1 =>
    z_g (z32 (r1 - 20)) <|
    z_b (J_L_low x2 41 st) fun r2 =>
    z_b (J_L_low (z_ishr x2 6) 9 st) fun r3 =>
    z_g (z32 r3) (if r3 = 0 then
      J_L_act_100 30001 (r2 - 20) (r1 - 20) 0 st
    else
      z_b (J_L_low (z_ishr x2 10) 21 st) fun r5 =>
      J_L_act_100 r5 (r2 - 20) (r1 - 20) 0 st)
  else
  if x3 = 1 then
    z_b (J_L_low x1 5 st) fun r6 =>
    z_g (z32 r6) <|
    z_b (J_L_low x2 3 st) fun r7 =>
    z_b (J_L_low (z_ishr x2 2) 31 st) fun r8 =>
    z_b (J_L_does 2 r6 r7 (r8 - 15) 0 st) fun r9 =>
    some (r9.1, r9.2)
  else
  if x3 = 2 then
    z_b (J_L_low x1 4 st) fun r10 =>
    z_g (z32 r10) <|
    z_b (J_L_low (z_ishr x1 3) 2 st) fun r11 =>
    z_b (J_L_low x2 66 st) fun r12 =>
    z_b (J_L_low (z_ishr x2 7) 41 st) fun r13 =>
    z_b (J_L_does 4 r10 r11 r12 (r13 - 20) st) fun r14 =>
    some (r14.1, r14.2)
  else
  if x3 = 3 then
    z_b (J_L_low x1 5 st) fun r15 =>
    z_g (z32 r15) (if r15 = 0 then
      z_b (J_L_low x2 9 st) fun r16 =>
      z_g (z32 (10 * r16)) <|
      J_L_act_201 (10 * r16) 11 st
    else
      z_b (J_L_row x2 2 st) fun r18 =>
      z_g (z32 r18) <|
      J_L_act_201 r18 11 st)
  else
  if x3 = 4 then
    z_b (J_L_low x2 2 st) fun r19 =>
    z_g (z32 r19) (if r19 = 0 then
      z_b (J_L_low (z_ishr x2 1) 900 st) fun r20 =>
      z_g (z32 r20) <|
      J_L_act_239 r20 12 st
    else
      z_b (J_L_low (z_ishr x2 1) 100010 st) fun r22 =>
      z_g (z32 r22) <|
      J_L_act_239 r22 12 st)
  else
  if x3 = 5 then
    z_b (J_L_low x2 5 st) fun r23 =>
    z_g (z32 r23) (if r23 = 0 then
      J_L_act_269 100 13 st
    else
      z_b (J_L_low (z_ishr x2 3) 4 st) fun r25 =>
      z_g (z32 r25) <|
      J_L_act_269 r25 13 st)
  else
  if x3 = 6 then
    z_b (J_L_low x1 8 st) fun r26 =>
    z_g (z32 (96 + r26)) <|
    z_b (J_L_ask 5 (96 + r26) 0 st) fun r27 =>
    some (r27.1, r27.2)
  else
  if x3 = 7 then
    z_b (J_L_low x2 9 st) fun r28 =>
    z_g (z32 r28) (if r28 = 0 then
      J_L_act_318 10000 6 st
    else
      z_b (J_L_low (z_ishr x2 4) 60 st) fun r30 =>
      z_g (z32 r30) <|
      J_L_act_318 r30 6 st)
  else
  if x3 = 8 then
    z_b (J_L_low x1 4 st) fun r31 =>
    z_g (z32 r31) <|
    z_b (J_L_low x2 60 st) fun r32 =>
    z_b (J_L_ask 7 r31 r32 st) fun r33 =>
    some (r33.1, r33.2)
  else
    z_b (J_L_low x1 5 st) fun r34 =>
    z_g (z32 r34) <|
    z_b (J_L_ask 1 r34 0 st) fun r35 =>
    some (r35.1, r35.2))
set_option maxRecDepth 100000 in
set_option maxHeartbeats 4000000 in
theorem w_L_act {κ : zK} {a : Nat → Nat} {x1 x2 x3 : Int} {st : z_St} {o : Int × z_St} (hc : z_C κ RL cL_act 4 28 1 (6 * 1)) (hap : z_AP κ a z_N) (he : z_EU 1 1 κ (some .long) z_T z_N a o.1 o.2) (h : J_L_act x1 x2 x3 st = some o) : z_V κ z_T z_N a 0 (6 * 0) 0 [(0, .ref (a 0)), (1, .int (zI x1)), (2, .int (zI x2)), (3, .int (zI x3))] [] st := by
  unfold J_L_act at h
  refine z_iload_n (i := 3) 3 hc dL_act_0 rfl rfl ?_
  obtain ⟨hsw, h⟩ := z_g_some h
  by_cases e0 : x3 = 0
  · rw [if_pos e0] at h
    refine z_swIn (tgt := 52) hc hsw dL_act_1 (by omega) (by omega) (by rw [e0]; rfl) (by decide) ?_
    refine z_aload_n (i := 0) 0 hc dL_act_52 rfl rfl ?_
    refine z_iconst hc dL_act_53 ?_
    refine z_iload_n (i := 1) 1 hc dL_act_54 rfl rfl ?_
    refine z_bipush hc dL_act_55 rfl ?_
    obtain ⟨r1, hr1, h⟩ := z_b_some h
    refine z_callSI [.int (zI x1), .int (zI 41)] hc hap o_L_low ml_RL_129 (fun l hl => c_L_low hl hr1) (by decide) rfl rfl (Nat.le_of_ble_eq_true rfl) (by omega) (by omega) dL_act_57 ?_
    refine z_bipush hc dL_act_60 rfl ?_
    refine z_isub hc dL_act_62 ?_
    refine z_i2l hc dL_act_63 h (fun h => ?_)
    refine z_iload_n (i := 2) 2 hc dL_act_64 rfl rfl ?_
    refine z_bipush hc dL_act_65 rfl ?_
    obtain ⟨r2, hr2, h⟩ := z_b_some h
    refine z_callSI [.int (zI x2), .int (zI 41)] hc hap o_L_low ml_RL_129 (fun l hl => c_L_low hl hr2) (by decide) rfl rfl (Nat.le_of_ble_eq_true rfl) (by omega) (by omega) dL_act_67 ?_
    refine z_bipush hc dL_act_70 rfl ?_
    refine z_isub hc dL_act_72 ?_
    refine z_iload_n (i := 2) 2 hc dL_act_73 rfl rfl ?_
    refine z_bipush hc dL_act_74 rfl ?_
    refine z_ishr_r hc dL_act_76 ?_
    refine z_bipush hc dL_act_77 rfl ?_
    obtain ⟨r3, hr3, h⟩ := z_b_some h
    refine z_callSI [.int (zI (z_ishr x2 6)), .int (zI 9)] hc hap o_L_low ml_RL_129 (fun l hl => c_L_low hl hr3) (by decide) rfl rfl (Nat.le_of_ble_eq_true rfl) (by omega) (by omega) dL_act_79 ?_
    refine z_if_ne (tgt := 91) hc dL_act_82 (by decide) h (fun c82 h => ?_) (fun c82 h => ?_)
    · refine z_sipush hc dL_act_85 rfl ?_
      refine z_goto (tgt := 100) hc dL_act_88 (by decide) ?_
      refine z_sub [] [] rfl ?_
      exact w_L_act_100 hc hap he h
    · refine z_iload_n (i := 2) 2 hc dL_act_91 rfl rfl ?_
      refine z_bipush hc dL_act_92 rfl ?_
      refine z_ishr_r hc dL_act_94 ?_
      refine z_bipush hc dL_act_95 rfl ?_
      obtain ⟨r5, hr5, h⟩ := z_b_some h
      refine z_callSI [.int (zI (z_ishr x2 10)), .int (zI 21)] hc hap o_L_low ml_RL_129 (fun l hl => c_L_low hl hr5) (by decide) rfl rfl (Nat.le_of_ble_eq_true rfl) (by omega) (by omega) dL_act_97 ?_
      refine z_sub [] [] rfl ?_
      exact w_L_act_100 hc hap he h
  rw [if_neg e0] at h
  by_cases e1 : x3 = 1
  · rw [if_pos e1] at h
    refine z_swIn (tgt := 105) hc hsw dL_act_1 (by omega) (by omega) (by rw [e1]; rfl) (by decide) ?_
    refine z_aload_n (i := 0) 0 hc dL_act_105 rfl rfl ?_
    refine z_iconst hc dL_act_106 ?_
    refine z_iload_n (i := 1) 1 hc dL_act_107 rfl rfl ?_
    refine z_iconst hc dL_act_108 ?_
    obtain ⟨r6, hr6, h⟩ := z_b_some h
    refine z_callSI [.int (zI x1), .int (zI 5)] hc hap o_L_low ml_RL_129 (fun l hl => c_L_low hl hr6) (by decide) rfl rfl (Nat.le_of_ble_eq_true rfl) (by omega) (by omega) dL_act_109 ?_
    refine z_i2l hc dL_act_112 h (fun h => ?_)
    refine z_iload_n (i := 2) 2 hc dL_act_113 rfl rfl ?_
    refine z_iconst hc dL_act_114 ?_
    obtain ⟨r7, hr7, h⟩ := z_b_some h
    refine z_callSI [.int (zI x2), .int (zI 3)] hc hap o_L_low ml_RL_129 (fun l hl => c_L_low hl hr7) (by decide) rfl rfl (Nat.le_of_ble_eq_true rfl) (by omega) (by omega) dL_act_115 ?_
    refine z_iload_n (i := 2) 2 hc dL_act_118 rfl rfl ?_
    refine z_iconst hc dL_act_119 ?_
    refine z_ishr_r hc dL_act_120 ?_
    refine z_bipush hc dL_act_121 rfl ?_
    obtain ⟨r8, hr8, h⟩ := z_b_some h
    refine z_callSI [.int (zI (z_ishr x2 2)), .int (zI 31)] hc hap o_L_low ml_RL_129 (fun l hl => c_L_low hl hr8) (by decide) rfl rfl (Nat.le_of_ble_eq_true rfl) (by omega) (by omega) dL_act_123 ?_
    refine z_bipush hc dL_act_126 rfl ?_
    refine z_isub hc dL_act_128 ?_
    refine z_iconst hc dL_act_129 ?_
    obtain ⟨r9, hr9, h⟩ := z_b_some h
    refine z_callHJ 1 (6 * 1) (mu := 1) (np := 6) [.ref (a 0), .int (zI 2), .long (zJ r6), .int (zI r7), .int (zI (r8 - 15)), .int (zI 0)] hc hap kL_does ml_RL_119 (z_t2 168 rfl rfl) (z_t1 0 rfl rfl) (by decide +kernel) (by decide) (fun l hl => c_L_does hl hr9) (by decide) rfl rfl (Nat.le_of_ble_eq_true rfl) (by omega) (by omega) (by omega) (by omega) dL_act_130 ?_
    have h := Option.some.inj h
    subst h
    exact z_retUJ hc he dL_act_133
  rw [if_neg e1] at h
  by_cases e2 : x3 = 2
  · rw [if_pos e2] at h
    refine z_swIn (tgt := 134) hc hsw dL_act_1 (by omega) (by omega) (by rw [e2]; rfl) (by decide) ?_
    refine z_aload_n (i := 0) 0 hc dL_act_134 rfl rfl ?_
    refine z_iconst hc dL_act_135 ?_
    refine z_iload_n (i := 1) 1 hc dL_act_136 rfl rfl ?_
    refine z_iconst hc dL_act_137 ?_
    obtain ⟨r10, hr10, h⟩ := z_b_some h
    refine z_callSI [.int (zI x1), .int (zI 4)] hc hap o_L_low ml_RL_129 (fun l hl => c_L_low hl hr10) (by decide) rfl rfl (Nat.le_of_ble_eq_true rfl) (by omega) (by omega) dL_act_138 ?_
    refine z_i2l hc dL_act_141 h (fun h => ?_)
    refine z_iload_n (i := 1) 1 hc dL_act_142 rfl rfl ?_
    refine z_iconst hc dL_act_143 ?_
    refine z_ishr_r hc dL_act_144 ?_
    refine z_iconst hc dL_act_145 ?_
    obtain ⟨r11, hr11, h⟩ := z_b_some h
    refine z_callSI [.int (zI (z_ishr x1 3)), .int (zI 2)] hc hap o_L_low ml_RL_129 (fun l hl => c_L_low hl hr11) (by decide) rfl rfl (Nat.le_of_ble_eq_true rfl) (by omega) (by omega) dL_act_146 ?_
    refine z_iload_n (i := 2) 2 hc dL_act_149 rfl rfl ?_
    refine z_bipush hc dL_act_150 rfl ?_
    obtain ⟨r12, hr12, h⟩ := z_b_some h
    refine z_callSI [.int (zI x2), .int (zI 66)] hc hap o_L_low ml_RL_129 (fun l hl => c_L_low hl hr12) (by decide) rfl rfl (Nat.le_of_ble_eq_true rfl) (by omega) (by omega) dL_act_152 ?_
    refine z_iload_n (i := 2) 2 hc dL_act_155 rfl rfl ?_
    refine z_bipush hc dL_act_156 rfl ?_
    refine z_ishr_r hc dL_act_158 ?_
    refine z_bipush hc dL_act_159 rfl ?_
    obtain ⟨r13, hr13, h⟩ := z_b_some h
    refine z_callSI [.int (zI (z_ishr x2 7)), .int (zI 41)] hc hap o_L_low ml_RL_129 (fun l hl => c_L_low hl hr13) (by decide) rfl rfl (Nat.le_of_ble_eq_true rfl) (by omega) (by omega) dL_act_161 ?_
    refine z_bipush hc dL_act_164 rfl ?_
    refine z_isub hc dL_act_166 ?_
    obtain ⟨r14, hr14, h⟩ := z_b_some h
    refine z_callHJ 1 (6 * 1) (mu := 1) (np := 6) [.ref (a 0), .int (zI 4), .long (zJ r10), .int (zI r11), .int (zI r12), .int (zI (r13 - 20))] hc hap kL_does ml_RL_119 (z_t2 168 rfl rfl) (z_t1 0 rfl rfl) (by decide +kernel) (by decide) (fun l hl => c_L_does hl hr14) (by decide) rfl rfl (Nat.le_of_ble_eq_true rfl) (by omega) (by omega) (by omega) (by omega) dL_act_167 ?_
    have h := Option.some.inj h
    subst h
    exact z_retUJ hc he dL_act_170
  rw [if_neg e2] at h
  by_cases e3 : x3 = 3
  · rw [if_pos e3] at h
    refine z_swIn (tgt := 171) hc hsw dL_act_1 (by omega) (by omega) (by rw [e3]; rfl) (by decide) ?_
    refine z_aload_n (i := 0) 0 hc dL_act_171 rfl rfl ?_
    refine z_bipush hc dL_act_172 rfl ?_
    refine z_iload_n (i := 1) 1 hc dL_act_174 rfl rfl ?_
    refine z_iconst hc dL_act_175 ?_
    obtain ⟨r15, hr15, h⟩ := z_b_some h
    refine z_callSI [.int (zI x1), .int (zI 5)] hc hap o_L_low ml_RL_129 (fun l hl => c_L_low hl hr15) (by decide) rfl rfl (Nat.le_of_ble_eq_true rfl) (by omega) (by omega) dL_act_176 ?_
    refine z_if_ne (tgt := 195) hc dL_act_179 (by decide) h (fun c179 h => ?_) (fun c179 h => ?_)
    · refine z_bipush hc dL_act_182 rfl ?_
      refine z_iload_n (i := 2) 2 hc dL_act_184 rfl rfl ?_
      refine z_bipush hc dL_act_185 rfl ?_
      obtain ⟨r16, hr16, h⟩ := z_b_some h
      refine z_callSI [.int (zI x2), .int (zI 9)] hc hap o_L_low ml_RL_129 (fun l hl => c_L_low hl hr16) (by decide) rfl rfl (Nat.le_of_ble_eq_true rfl) (by omega) (by omega) dL_act_187 ?_
      refine z_imul hc dL_act_190 ?_
      refine z_i2l hc dL_act_191 h (fun h => ?_)
      refine z_goto (tgt := 201) hc dL_act_192 (by decide) ?_
      refine z_sub [] [] rfl ?_
      exact w_L_act_201 hc hap he h
    · refine z_iload_n (i := 2) 2 hc dL_act_195 rfl rfl ?_
      refine z_iconst hc dL_act_196 ?_
      obtain ⟨r18, hr18, h⟩ := z_b_some h
      refine z_callSI [.int (zI x2), .int (zI 2)] hc hap o_L_row ml_RL_132 (fun l hl => c_L_row hl hr18) (by decide) rfl rfl (Nat.le_of_ble_eq_true rfl) (by omega) (by omega) dL_act_197 ?_
      refine z_i2l hc dL_act_200 h (fun h => ?_)
      refine z_sub [] [] rfl ?_
      exact w_L_act_201 hc hap he h
  rw [if_neg e3] at h
  by_cases e4 : x3 = 4
  · rw [if_pos e4] at h
    refine z_swIn (tgt := 206) hc hsw dL_act_1 (by omega) (by omega) (by rw [e4]; rfl) (by decide) ?_
    refine z_aload_n (i := 0) 0 hc dL_act_206 rfl rfl ?_
    refine z_bipush hc dL_act_207 rfl ?_
    refine z_iload_n (i := 2) 2 hc dL_act_209 rfl rfl ?_
    refine z_iconst hc dL_act_210 ?_
    obtain ⟨r19, hr19, h⟩ := z_b_some h
    refine z_callSI [.int (zI x2), .int (zI 2)] hc hap o_L_low ml_RL_129 (fun l hl => c_L_low hl hr19) (by decide) rfl rfl (Nat.le_of_ble_eq_true rfl) (by omega) (by omega) dL_act_211 ?_
    refine z_if_ne (tgt := 230) hc dL_act_214 (by decide) h (fun c214 h => ?_) (fun c214 h => ?_)
    · refine z_iload_n (i := 2) 2 hc dL_act_217 rfl rfl ?_
      refine z_iconst hc dL_act_218 ?_
      refine z_ishr_r hc dL_act_219 ?_
      refine z_sipush hc dL_act_220 rfl ?_
      obtain ⟨r20, hr20, h⟩ := z_b_some h
      refine z_callSI [.int (zI (z_ishr x2 1)), .int (zI 900)] hc hap o_L_low ml_RL_129 (fun l hl => c_L_low hl hr20) (by decide) rfl rfl (Nat.le_of_ble_eq_true rfl) (by omega) (by omega) dL_act_223 ?_
      refine z_i2l hc dL_act_226 h (fun h => ?_)
      refine z_goto (tgt := 239) hc dL_act_227 (by decide) ?_
      refine z_sub [] [] rfl ?_
      exact w_L_act_239 hc hap he h
    · refine z_iload_n (i := 2) 2 hc dL_act_230 rfl rfl ?_
      refine z_iconst hc dL_act_231 ?_
      refine z_ishr_r hc dL_act_232 ?_
      refine z_ldc 100010 hc kc_RL_143 dL_act_233 rfl ?_
      obtain ⟨r22, hr22, h⟩ := z_b_some h
      refine z_callSI [.int (zI (z_ishr x2 1)), .int (zI 100010)] hc hap o_L_low ml_RL_129 (fun l hl => c_L_low hl hr22) (by decide) rfl rfl (Nat.le_of_ble_eq_true rfl) (by omega) (by omega) dL_act_235 ?_
      refine z_i2l hc dL_act_238 h (fun h => ?_)
      refine z_sub [] [] rfl ?_
      exact w_L_act_239 hc hap he h
  rw [if_neg e4] at h
  by_cases e5 : x3 = 5
  · rw [if_pos e5] at h
    refine z_swIn (tgt := 244) hc hsw dL_act_1 (by omega) (by omega) (by rw [e5]; rfl) (by decide) ?_
    refine z_aload_n (i := 0) 0 hc dL_act_244 rfl rfl ?_
    refine z_bipush hc dL_act_245 rfl ?_
    refine z_iload_n (i := 2) 2 hc dL_act_247 rfl rfl ?_
    refine z_iconst hc dL_act_248 ?_
    obtain ⟨r23, hr23, h⟩ := z_b_some h
    refine z_callSI [.int (zI x2), .int (zI 5)] hc hap o_L_low ml_RL_129 (fun l hl => c_L_low hl hr23) (by decide) rfl rfl (Nat.le_of_ble_eq_true rfl) (by omega) (by omega) dL_act_249 ?_
    refine z_if_ne (tgt := 261) hc dL_act_252 (by decide) h (fun c252 h => ?_) (fun c252 h => ?_)
    · refine z_ldc2 100 hc kc_RL_144 dL_act_255 rfl ?_
      refine z_goto (tgt := 269) hc dL_act_258 (by decide) ?_
      refine z_sub [] [] rfl ?_
      exact w_L_act_269 hc hap he h
    · refine z_iload_n (i := 2) 2 hc dL_act_261 rfl rfl ?_
      refine z_iconst hc dL_act_262 ?_
      refine z_ishr_r hc dL_act_263 ?_
      refine z_iconst hc dL_act_264 ?_
      obtain ⟨r25, hr25, h⟩ := z_b_some h
      refine z_callSI [.int (zI (z_ishr x2 3)), .int (zI 4)] hc hap o_L_low ml_RL_129 (fun l hl => c_L_low hl hr25) (by decide) rfl rfl (Nat.le_of_ble_eq_true rfl) (by omega) (by omega) dL_act_265 ?_
      refine z_i2l hc dL_act_268 h (fun h => ?_)
      refine z_sub [] [] rfl ?_
      exact w_L_act_269 hc hap he h
  rw [if_neg e5] at h
  by_cases e6 : x3 = 6
  · rw [if_pos e6] at h
    refine z_swIn (tgt := 274) hc hsw dL_act_1 (by omega) (by omega) (by rw [e6]; rfl) (by decide) ?_
    refine z_aload_n (i := 0) 0 hc dL_act_274 rfl rfl ?_
    refine z_iconst hc dL_act_275 ?_
    refine z_bipush hc dL_act_276 rfl ?_
    refine z_iload_n (i := 1) 1 hc dL_act_278 rfl rfl ?_
    refine z_bipush hc dL_act_279 rfl ?_
    obtain ⟨r26, hr26, h⟩ := z_b_some h
    refine z_callSI [.int (zI x1), .int (zI 8)] hc hap o_L_low ml_RL_129 (fun l hl => c_L_low hl hr26) (by decide) rfl rfl (Nat.le_of_ble_eq_true rfl) (by omega) (by omega) dL_act_281 ?_
    refine z_iadd hc dL_act_284 ?_
    refine z_i2l hc dL_act_285 h (fun h => ?_)
    refine z_iconst hc dL_act_286 ?_
    obtain ⟨r27, hr27, h⟩ := z_b_some h
    refine z_callUJ 1 (6 * 1) (mu := 1) [.ref (a 0), .int (zI 5), .long (zJ (96 + r26)), .int (zI 0)] hc hap o_L_ask ml_RL_125 (fun l hl => c_L_ask hl hr27) (by decide) rfl rfl (Nat.le_of_ble_eq_true rfl) (by omega) (by omega) (by omega) (by omega) dL_act_287 ?_
    have h := Option.some.inj h
    subst h
    exact z_retUJ hc he dL_act_290
  rw [if_neg e6] at h
  by_cases e7 : x3 = 7
  · rw [if_pos e7] at h
    refine z_swIn (tgt := 291) hc hsw dL_act_1 (by omega) (by omega) (by rw [e7]; rfl) (by decide) ?_
    refine z_aload_n (i := 0) 0 hc dL_act_291 rfl rfl ?_
    refine z_bipush hc dL_act_292 rfl ?_
    refine z_iload_n (i := 2) 2 hc dL_act_294 rfl rfl ?_
    refine z_bipush hc dL_act_295 rfl ?_
    obtain ⟨r28, hr28, h⟩ := z_b_some h
    refine z_callSI [.int (zI x2), .int (zI 9)] hc hap o_L_low ml_RL_129 (fun l hl => c_L_low hl hr28) (by decide) rfl rfl (Nat.le_of_ble_eq_true rfl) (by omega) (by omega) dL_act_297 ?_
    refine z_if_ne (tgt := 309) hc dL_act_300 (by decide) h (fun c300 h => ?_) (fun c300 h => ?_)
    · refine z_ldc2 10000 hc kc_RL_146 dL_act_303 rfl ?_
      refine z_goto (tgt := 318) hc dL_act_306 (by decide) ?_
      refine z_sub [] [] rfl ?_
      exact w_L_act_318 hc hap he h
    · refine z_iload_n (i := 2) 2 hc dL_act_309 rfl rfl ?_
      refine z_iconst hc dL_act_310 ?_
      refine z_ishr_r hc dL_act_311 ?_
      refine z_bipush hc dL_act_312 rfl ?_
      obtain ⟨r30, hr30, h⟩ := z_b_some h
      refine z_callSI [.int (zI (z_ishr x2 4)), .int (zI 60)] hc hap o_L_low ml_RL_129 (fun l hl => c_L_low hl hr30) (by decide) rfl rfl (Nat.le_of_ble_eq_true rfl) (by omega) (by omega) dL_act_314 ?_
      refine z_i2l hc dL_act_317 h (fun h => ?_)
      refine z_sub [] [] rfl ?_
      exact w_L_act_318 hc hap he h
  rw [if_neg e7] at h
  by_cases e8 : x3 = 8
  · rw [if_pos e8] at h
    refine z_swIn (tgt := 323) hc hsw dL_act_1 (by omega) (by omega) (by rw [e8]; rfl) (by decide) ?_
    refine z_aload_n (i := 0) 0 hc dL_act_323 rfl rfl ?_
    refine z_bipush hc dL_act_324 rfl ?_
    refine z_iload_n (i := 1) 1 hc dL_act_326 rfl rfl ?_
    refine z_iconst hc dL_act_327 ?_
    obtain ⟨r31, hr31, h⟩ := z_b_some h
    refine z_callSI [.int (zI x1), .int (zI 4)] hc hap o_L_low ml_RL_129 (fun l hl => c_L_low hl hr31) (by decide) rfl rfl (Nat.le_of_ble_eq_true rfl) (by omega) (by omega) dL_act_328 ?_
    refine z_i2l hc dL_act_331 h (fun h => ?_)
    refine z_iload_n (i := 2) 2 hc dL_act_332 rfl rfl ?_
    refine z_bipush hc dL_act_333 rfl ?_
    obtain ⟨r32, hr32, h⟩ := z_b_some h
    refine z_callSI [.int (zI x2), .int (zI 60)] hc hap o_L_low ml_RL_129 (fun l hl => c_L_low hl hr32) (by decide) rfl rfl (Nat.le_of_ble_eq_true rfl) (by omega) (by omega) dL_act_335 ?_
    obtain ⟨r33, hr33, h⟩ := z_b_some h
    refine z_callUJ 1 (6 * 1) (mu := 1) [.ref (a 0), .int (zI 7), .long (zJ r31), .int (zI r32)] hc hap o_L_ask ml_RL_125 (fun l hl => c_L_ask hl hr33) (by decide) rfl rfl (Nat.le_of_ble_eq_true rfl) (by omega) (by omega) (by omega) (by omega) dL_act_338 ?_
    have h := Option.some.inj h
    subst h
    exact z_retUJ hc he dL_act_341
  rw [if_neg e8] at h
  refine z_swOut (tgt := 342) hc hsw dL_act_1 (by omega) (by decide) ?_
  refine z_aload_n (i := 0) 0 hc dL_act_342 rfl rfl ?_
  refine z_iconst hc dL_act_343 ?_
  refine z_iload_n (i := 1) 1 hc dL_act_344 rfl rfl ?_
  refine z_iconst hc dL_act_345 ?_
  obtain ⟨r34, hr34, h⟩ := z_b_some h
  refine z_callSI [.int (zI x1), .int (zI 5)] hc hap o_L_low ml_RL_129 (fun l hl => c_L_low hl hr34) (by decide) rfl rfl (Nat.le_of_ble_eq_true rfl) (by omega) (by omega) dL_act_346 ?_
  refine z_i2l hc dL_act_349 h (fun h => ?_)
  refine z_iconst hc dL_act_350 ?_
  obtain ⟨r35, hr35, h⟩ := z_b_some h
  refine z_callUJ 1 (6 * 1) (mu := 1) [.ref (a 0), .int (zI 1), .long (zJ r34), .int (zI 0)] hc hap o_L_ask ml_RL_125 (fun l hl => c_L_ask hl hr35) (by decide) rfl rfl (Nat.le_of_ble_eq_true rfl) (by omega) (by omega) (by omega) (by omega) dL_act_351 ?_
  have h := Option.some.inj h
  subst h
  exact z_retUJ hc he dL_act_354
set_option maxRecDepth 100000 in
set_option maxHeartbeats 4000000 in
theorem c_L_act {l : Launch} (hl : l.stackTraces = false) {a : Nat → Nat} {x1 x2 x3 : Int} {st : z_St} {o : Int × z_St} (h : J_L_act x1 x2 x3 st = some o) : z_MU 1 1 l yL_act (z_w yL_act cL_act 4 (some .long)) 28 z_T z_N a [.ref (a 0), .int (zI x1), .int (zI x2), .int (zI x3)] st o.1 o.2 := z_ofU hl (by decide +kernel) (Nat.le_of_ble_eq_true rfl) (fun κ hc hap he => w_L_act hc hap he h)
