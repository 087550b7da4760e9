theorem dL_builds_0 : decode cL_builds 0 = .ok (.aload_n 1, 1) := by decide +kernel
theorem dL_builds_1 : decode cL_builds 1 = .ok (.iconst 1, 1) := by decide +kernel
theorem dL_builds_2 : decode cL_builds 2 = .ok (.invokestatic 148, 3) := by decide +kernel
theorem dL_builds_5 : decode cL_builds 5 = .ok (.istore_n 3, 1) := by decide +kernel
theorem dL_builds_6 : decode cL_builds 6 = .ok (.iconst 2, 1) := by decide +kernel
theorem dL_builds_7 : decode cL_builds 7 = .ok (.iload_n 3, 1) := by decide +kernel
theorem dL_builds_8 : decode cL_builds 8 = .ok (.iconst 2, 1) := by decide +kernel
theorem dL_builds_9 : decode cL_builds 9 = .ok (.invokestatic 129, 3) := by decide +kernel
theorem dL_builds_12 : decode cL_builds 12 = .ok (.iadd, 1) := by decide +kernel
theorem dL_builds_13 : decode cL_builds 13 = .ok (.istore 4, 2) := by decide +kernel
theorem dL_builds_15 : decode cL_builds 15 = .ok (.iconst 1, 1) := by decide +kernel
theorem dL_builds_16 : decode cL_builds 16 = .ok (.istore 5, 2) := by decide +kernel
theorem dL_builds_18 : decode cL_builds 18 = .ok (.iconst 0, 1) := by decide +kernel
theorem dL_builds_19 : decode cL_builds 19 = .ok (.istore 6, 2) := by decide +kernel
theorem dL_builds_21 : decode cL_builds 21 = .ok (.iload 6, 2) := by decide +kernel
theorem dL_builds_23 : decode cL_builds 23 = .ok (.iload 4, 2) := by decide +kernel
theorem dL_builds_25 : decode cL_builds 25 = .ok (.if_icmp .ge 86, 3) := by decide +kernel
theorem dL_builds_28 : decode cL_builds 28 = .ok (.aload_n 1, 1) := by decide +kernel
theorem dL_builds_29 : decode cL_builds 29 = .ok (.iconst 2, 1) := by decide +kernel
theorem dL_builds_30 : decode cL_builds 30 = .ok (.iload 6, 2) := by decide +kernel
theorem dL_builds_32 : decode cL_builds 32 = .ok (.iadd, 1) := by decide +kernel
theorem dL_builds_33 : decode cL_builds 33 = .ok (.invokestatic 148, 3) := by decide +kernel
theorem dL_builds_36 : decode cL_builds 36 = .ok (.istore 7, 2) := by decide +kernel
theorem dL_builds_38 : decode cL_builds 38 = .ok (.iload 5, 2) := by decide +kernel
theorem dL_builds_40 : decode cL_builds 40 = .ok (.aload_n 0, 1) := by decide +kernel
theorem dL_builds_41 : decode cL_builds 41 = .ok (.iconst 3, 1) := by decide +kernel
theorem dL_builds_42 : decode cL_builds 42 = .ok (.iload 7, 2) := by decide +kernel
theorem dL_builds_44 : decode cL_builds 44 = .ok (.bipush 41, 2) := by decide +kernel
theorem dL_builds_46 : decode cL_builds 46 = .ok (.invokestatic 129, 3) := by decide +kernel
theorem dL_builds_49 : decode cL_builds 49 = .ok (.bipush 20, 2) := by decide +kernel
theorem dL_builds_51 : decode cL_builds 51 = .ok (.isub, 1) := by decide +kernel
theorem dL_builds_52 : decode cL_builds 52 = .ok (.i2l, 1) := by decide +kernel
theorem dL_builds_53 : decode cL_builds 53 = .ok (.iload 7, 2) := by decide +kernel
theorem dL_builds_55 : decode cL_builds 55 = .ok (.bipush 6, 2) := by decide +kernel
theorem dL_builds_57 : decode cL_builds 57 = .ok (.ishr, 1) := by decide +kernel
theorem dL_builds_58 : decode cL_builds 58 = .ok (.bipush 41, 2) := by decide +kernel
theorem dL_builds_60 : decode cL_builds 60 = .ok (.invokestatic 129, 3) := by decide +kernel
theorem dL_builds_63 : decode cL_builds 63 = .ok (.bipush 20, 2) := by decide +kernel
theorem dL_builds_65 : decode cL_builds 65 = .ok (.isub, 1) := by decide +kernel
theorem dL_builds_66 : decode cL_builds 66 = .ok (.iload 7, 2) := by decide +kernel
theorem dL_builds_68 : decode cL_builds 68 = .ok (.bipush 12, 2) := by decide +kernel
theorem dL_builds_70 : decode cL_builds 70 = .ok (.ishr, 1) := by decide +kernel
theorem dL_builds_71 : decode cL_builds 71 = .ok (.bipush 9, 2) := by decide +kernel
theorem dL_builds_73 : decode cL_builds 73 = .ok (.invokestatic 129, 3) := by decide +kernel
theorem dL_builds_76 : decode cL_builds 76 = .ok (.iconst 1, 1) := by decide +kernel
theorem dL_builds_77 : decode cL_builds 77 = .ok (.iload 7, 2) := by decide +kernel
theorem dL_builds_79 : decode cL_builds 79 = .ok (.bipush 16, 2) := by decide +kernel
theorem dL_builds_81 : decode cL_builds 81 = .ok (.ishr, 1) := by decide +kernel
theorem dL_builds_82 : decode cL_builds 82 = .ok (.iconst 5, 1) := by decide +kernel
theorem dL_builds_83 : decode cL_builds 83 = .ok (.invokestatic 129, 3) := by decide +kernel
theorem dL_builds_86 : decode cL_builds 86 = .ok (.iadd, 1) := by decide +kernel
theorem dL_builds_87 : decode cL_builds 87 = .ok (.invokestatic 119, 3) := by decide +kernel
theorem dL_builds_90 : decode cL_builds 90 = .ok (.iload 6, 2) := by decide +kernel
theorem dL_builds_92 : decode cL_builds 92 = .ok (.i2l, 1) := by decide +kernel
theorem dL_builds_93 : decode cL_builds 93 = .ok (.lcmp, 1) := by decide +kernel
theorem dL_builds_94 : decode cL_builds 94 = .ok (.ifCond .ne 7, 3) := by decide +kernel
theorem dL_builds_97 : decode cL_builds 97 = .ok (.iconst 1, 1) := by decide +kernel
theorem dL_builds_98 : decode cL_builds 98 = .ok (.goto 4, 3) := by decide +kernel
theorem dL_builds_101 : decode cL_builds 101 = .ok (.iconst 0, 1) := by decide +kernel
theorem dL_builds_102 : decode cL_builds 102 = .ok (.iand, 1) := by decide +kernel
theorem dL_builds_103 : decode cL_builds 103 = .ok (.istore 5, 2) := by decide +kernel
theorem dL_builds_105 : decode cL_builds 105 = .ok (.iinc 6 1, 3) := by decide +kernel
theorem dL_builds_108 : decode cL_builds 108 = .ok (.goto (-87), 3) := by decide +kernel
theorem dL_builds_111 : decode cL_builds 111 = .ok (.iload 5, 2) := by decide +kernel
theorem dL_builds_113 : decode cL_builds 113 = .ok (.aload_n 0, 1) := by decide +kernel
theorem dL_builds_114 : decode cL_builds 114 = .ok (.iload_n 3, 1) := by decide +kernel
theorem dL_builds_115 : decode cL_builds 115 = .ok (.iconst 3, 1) := by decide +kernel
theorem dL_builds_116 : decode cL_builds 116 = .ok (.ishr, 1) := by decide +kernel
theorem dL_builds_117 : decode cL_builds 117 = .ok (.iload 4, 2) := by decide +kernel
theorem dL_builds_119 : decode cL_builds 119 = .ok (.invokestatic 152, 3) := by decide +kernel
theorem dL_builds_122 : decode cL_builds 122 = .ok (.ifCond .eq 64, 3) := by decide +kernel
theorem dL_builds_125 : decode cL_builds 125 = .ok (.aload_n 0, 1) := by decide +kernel
theorem dL_builds_126 : decode cL_builds 126 = .ok (.bipush 6, 2) := by decide +kernel
theorem dL_builds_128 : decode cL_builds 128 = .ok (.iload_n 3, 1) := by decide +kernel
theorem dL_builds_129 : decode cL_builds 129 = .ok (.bipush 11, 2) := by decide +kernel
theorem dL_builds_131 : decode cL_builds 131 = .ok (.ishr, 1) := by decide +kernel
theorem dL_builds_132 : decode cL_builds 132 = .ok (.bipush 40, 2) := by decide +kernel
theorem dL_builds_134 : decode cL_builds 134 = .ok (.invokestatic 129, 3) := by decide +kernel
theorem dL_builds_137 : decode cL_builds 137 = .ok (.i2l, 1) := by decide +kernel
theorem dL_builds_138 : decode cL_builds 138 = .ok (.iconst 0, 1) := by decide +kernel
theorem dL_builds_139 : decode cL_builds 139 = .ok (.invokestatic 125, 3) := by decide +kernel
theorem dL_builds_142 : decode cL_builds 142 = .ok (.lconst 0, 1) := by decide +kernel
theorem dL_builds_143 : decode cL_builds 143 = .ok (.lcmp, 1) := by decide +kernel
theorem dL_builds_144 : decode cL_builds 144 = .ok (.ifCond .ne 42, 3) := by decide +kernel
theorem dL_builds_147 : decode cL_builds 147 = .ok (.aload_n 0, 1) := by decide +kernel
theorem dL_builds_148 : decode cL_builds 148 = .ok (.iload_n 3, 1) := by decide +kernel
theorem dL_builds_149 : decode cL_builds 149 = .ok (.bipush 14, 2) := by decide +kernel
theorem dL_builds_151 : decode cL_builds 151 = .ok (.ishr, 1) := by decide +kernel
theorem dL_builds_152 : decode cL_builds 152 = .ok (.iload 4, 2) := by decide +kernel
theorem dL_builds_154 : decode cL_builds 154 = .ok (.invokestatic 152, 3) := by decide +kernel
theorem dL_builds_157 : decode cL_builds 157 = .ok (.ifCond .eq 29, 3) := by decide +kernel
theorem dL_builds_160 : decode cL_builds 160 = .ok (.aload_n 0, 1) := by decide +kernel
theorem dL_builds_161 : decode cL_builds 161 = .ok (.bipush 6, 2) := by decide +kernel
theorem dL_builds_163 : decode cL_builds 163 = .ok (.iload_n 3, 1) := by decide +kernel
theorem dL_builds_164 : decode cL_builds 164 = .ok (.bipush 22, 2) := by decide +kernel
theorem dL_builds_166 : decode cL_builds 166 = .ok (.ishr, 1) := by decide +kernel
theorem dL_builds_167 : decode cL_builds 167 = .ok (.bipush 40, 2) := by decide +kernel
theorem dL_builds_169 : decode cL_builds 169 = .ok (.invokestatic 129, 3) := by decide +kernel
theorem dL_builds_172 : decode cL_builds 172 = .ok (.i2l, 1) := by decide +kernel
theorem dL_builds_173 : decode cL_builds 173 = .ok (.iconst 0, 1) := by decide +kernel
theorem dL_builds_174 : decode cL_builds 174 = .ok (.invokestatic 125, 3) := by decide +kernel
theorem dL_builds_177 : decode cL_builds 177 = .ok (.lconst 1, 1) := by decide +kernel
theorem dL_builds_178 : decode cL_builds 178 = .ok (.lcmp, 1) := by decide +kernel
theorem dL_builds_179 : decode cL_builds 179 = .ok (.ifCond .ne 7, 3) := by decide +kernel
theorem dL_builds_182 : decode cL_builds 182 = .ok (.iconst 1, 1) := by decide +kernel
theorem dL_builds_183 : decode cL_builds 183 = .ok (.goto 4, 3) := by decide +kernel
theorem dL_builds_186 : decode cL_builds 186 = .ok (.iconst 0, 1) := by decide +kernel
theorem dL_builds_187 : decode cL_builds 187 = .ok (.iand, 1) := by decide +kernel
theorem dL_builds_188 : decode cL_builds 188 = .ok (.istore 5, 2) := by decide +kernel
theorem dL_builds_190 : decode cL_builds 190 = .ok (.iload_n 3, 1) := by decide +kernel
theorem dL_builds_191 : decode cL_builds 191 = .ok (.iconst 1, 1) := by decide +kernel
theorem dL_builds_192 : decode cL_builds 192 = .ok (.ishr, 1) := by decide +kernel
theorem dL_builds_193 : decode cL_builds 193 = .ok (.iconst 2, 1) := by decide +kernel
theorem dL_builds_194 : decode cL_builds 194 = .ok (.invokestatic 129, 3) := by decide +kernel
theorem dL_builds_197 : decode cL_builds 197 = .ok (.ifCond .ne 47, 3) := by decide +kernel
theorem dL_builds_200 : decode cL_builds 200 = .ok (.iload 5, 2) := by decide +kernel
theorem dL_builds_202 : decode cL_builds 202 = .ok (.aload_n 0, 1) := by decide +kernel
theorem dL_builds_203 : decode cL_builds 203 = .ok (.iload_n 3, 1) := by decide +kernel
theorem dL_builds_204 : decode cL_builds 204 = .ok (.bipush 7, 2) := by decide +kernel
theorem dL_builds_206 : decode cL_builds 206 = .ok (.ishr, 1) := by decide +kernel
theorem dL_builds_207 : decode cL_builds 207 = .ok (.iload 4, 2) := by decide +kernel
theorem dL_builds_209 : decode cL_builds 209 = .ok (.invokestatic 152, 3) := by decide +kernel
theorem dL_builds_212 : decode cL_builds 212 = .ok (.ifCond .eq 28, 3) := by decide +kernel
theorem dL_builds_215 : decode cL_builds 215 = .ok (.aload_n 0, 1) := by decide +kernel
theorem dL_builds_216 : decode cL_builds 216 = .ok (.bipush 7, 2) := by decide +kernel
theorem dL_builds_218 : decode cL_builds 218 = .ok (.lconst 0, 1) := by decide +kernel
theorem dL_builds_219 : decode cL_builds 219 = .ok (.iload_n 3, 1) := by decide +kernel
theorem dL_builds_220 : decode cL_builds 220 = .ok (.bipush 16, 2) := by decide +kernel
theorem dL_builds_222 : decode cL_builds 222 = .ok (.ishr, 1) := by decide +kernel
theorem dL_builds_223 : decode cL_builds 223 = .ok (.bipush 40, 2) := by decide +kernel
theorem dL_builds_225 : decode cL_builds 225 = .ok (.invokestatic 129, 3) := by decide +kernel
theorem dL_builds_228 : decode cL_builds 228 = .ok (.invokestatic 125, 3) := by decide +kernel
theorem dL_builds_231 : decode cL_builds 231 = .ok (.lconst 1, 1) := by decide +kernel
theorem dL_builds_232 : decode cL_builds 232 = .ok (.lcmp, 1) := by decide +kernel
theorem dL_builds_233 : decode cL_builds 233 = .ok (.ifCond .lt 7, 3) := by decide +kernel
theorem dL_builds_236 : decode cL_builds 236 = .ok (.iconst 1, 1) := by decide +kernel
theorem dL_builds_237 : decode cL_builds 237 = .ok (.goto 4, 3) := by decide +kernel
theorem dL_builds_240 : decode cL_builds 240 = .ok (.iconst 0, 1) := by decide +kernel
theorem dL_builds_241 : decode cL_builds 241 = .ok (.iand, 1) := by decide +kernel
theorem dL_builds_242 : decode cL_builds 242 = .ok (.istore 5, 2) := by decide +kernel
theorem dL_builds_244 : decode cL_builds 244 = .ok (.iconst 0, 1) := by decide +kernel
theorem dL_builds_245 : decode cL_builds 245 = .ok (.istore 6, 2) := by decide +kernel
theorem dL_builds_247 : decode cL_builds 247 = .ok (.iload 6, 2) := by decide +kernel
theorem dL_builds_249 : decode cL_builds 249 = .ok (.iload_n 2, 1) := by decide +kernel
theorem dL_builds_250 : decode cL_builds 250 = .ok (.if_icmp .ge 78, 3) := by decide +kernel
theorem dL_builds_253 : decode cL_builds 253 = .ok (.aload_n 1, 1) := by decide +kernel
theorem dL_builds_254 : decode cL_builds 254 = .ok (.iconst 5, 1) := by decide +kernel
theorem dL_builds_255 : decode cL_builds 255 = .ok (.iload 6, 2) := by decide +kernel
theorem dL_builds_257 : decode cL_builds 257 = .ok (.iadd, 1) := by decide +kernel
theorem dL_builds_258 : decode cL_builds 258 = .ok (.invokestatic 148, 3) := by decide +kernel
theorem dL_builds_261 : decode cL_builds 261 = .ok (.istore 7, 2) := by decide +kernel
theorem dL_builds_263 : decode cL_builds 263 = .ok (.iload 5, 2) := by decide +kernel
theorem dL_builds_265 : decode cL_builds 265 = .ok (.aload_n 0, 1) := by decide +kernel
theorem dL_builds_266 : decode cL_builds 266 = .ok (.iconst 0, 1) := by decide +kernel
theorem dL_builds_267 : decode cL_builds 267 = .ok (.iload 7, 2) := by decide +kernel
theorem dL_builds_269 : decode cL_builds 269 = .ok (.bipush 41, 2) := by decide +kernel
theorem dL_builds_271 : decode cL_builds 271 = .ok (.invokestatic 129, 3) := by decide +kernel
theorem dL_builds_274 : decode cL_builds 274 = .ok (.bipush 20, 2) := by decide +kernel
theorem dL_builds_276 : decode cL_builds 276 = .ok (.isub, 1) := by decide +kernel
theorem dL_builds_277 : decode cL_builds 277 = .ok (.i2l, 1) := by decide +kernel
theorem dL_builds_278 : decode cL_builds 278 = .ok (.iload 7, 2) := by decide +kernel
theorem dL_builds_280 : decode cL_builds 280 = .ok (.bipush 6, 2) := by decide +kernel
theorem dL_builds_282 : decode cL_builds 282 = .ok (.ishr, 1) := by decide +kernel
theorem dL_builds_283 : decode cL_builds 283 = .ok (.bipush 41, 2) := by decide +kernel
theorem dL_builds_285 : decode cL_builds 285 = .ok (.invokestatic 129, 3) := by decide +kernel
theorem dL_builds_288 : decode cL_builds 288 = .ok (.bipush 20, 2) := by decide +kernel
theorem dL_builds_290 : decode cL_builds 290 = .ok (.isub, 1) := by decide +kernel
theorem dL_builds_291 : decode cL_builds 291 = .ok (.iload 7, 2) := by decide +kernel
theorem dL_builds_293 : decode cL_builds 293 = .ok (.bipush 12, 2) := by decide +kernel
theorem dL_builds_295 : decode cL_builds 295 = .ok (.ishr, 1) := by decide +kernel
theorem dL_builds_296 : decode cL_builds 296 = .ok (.bipush 9, 2) := by decide +kernel
theorem dL_builds_298 : decode cL_builds 298 = .ok (.invokestatic 129, 3) := by decide +kernel
theorem dL_builds_301 : decode cL_builds 301 = .ok (.iconst 0, 1) := by decide +kernel
theorem dL_builds_302 : decode cL_builds 302 = .ok (.invokestatic 119, 3) := by decide +kernel
theorem dL_builds_305 : decode cL_builds 305 = .ok (.iload 6, 2) := by decide +kernel
theorem dL_builds_307 : decode cL_builds 307 = .ok (.i2l, 1) := by decide +kernel
theorem dL_builds_308 : decode cL_builds 308 = .ok (.lconst 1, 1) := by decide +kernel
theorem dL_builds_309 : decode cL_builds 309 = .ok (.ladd, 1) := by decide +kernel
theorem dL_builds_310 : decode cL_builds 310 = .ok (.lcmp, 1) := by decide +kernel
theorem dL_builds_311 : decode cL_builds 311 = .ok (.ifCond .ne 7, 3) := by decide +kernel
theorem dL_builds_314 : decode cL_builds 314 = .ok (.iconst 1, 1) := by decide +kernel
theorem dL_builds_315 : decode cL_builds 315 = .ok (.goto 4, 3) := by decide +kernel
theorem dL_builds_318 : decode cL_builds 318 = .ok (.iconst 0, 1) := by decide +kernel
theorem dL_builds_319 : decode cL_builds 319 = .ok (.iand, 1) := by decide +kernel
theorem dL_builds_320 : decode cL_builds 320 = .ok (.istore 5, 2) := by decide +kernel
theorem dL_builds_322 : decode cL_builds 322 = .ok (.iinc 6 1, 3) := by decide +kernel
theorem dL_builds_325 : decode cL_builds 325 = .ok (.goto (-78), 3) := by decide +kernel
theorem dL_builds_328 : decode cL_builds 328 = .ok (.iload 5, 2) := by decide +kernel
theorem dL_builds_330 : decode cL_builds 330 = .ok (.ireturn, 1) := by decide +kernel
noncomputable def J_L_builds_102 (f : Int → Int) (n9 : Int) (v2 v3 v4 v6 s0 s1 : Int) (st : z_St) : Option ((Int × Int × z_St) ⊕ (Int × z_St)) :=
  some (.inl (z_iand s1 s0, v6 + 1, st))
set_option maxRecDepth 100000 in
set_option maxHeartbeats 4000000 in
theorem w_L_builds_102 {κ : zK} {a : Nat → Nat} {b n9 : Nat} {f : Int → Int} {v2 v3 v4 v6 s0 s1 : Int} {st : z_St} {o : (Int × Int × z_St) ⊕ (Int × z_St)} (hc : z_C κ RL cL_builds 8 29 32 (6 * 32)) (hap : z_AP κ a z_N) (hX : z_SX κ b n9 f) (k1 : ∀ s9 : (Int × Int × z_St), o = .inl s9 → z_V κ z_T z_N a (0 + 1 * (s9.2.1 : Int).toNat) (6 * (0 + 1 * (s9.2.1 : Int).toNat)) 21 [(0, .ref (a 0)), (1, .ref b), (2, .int (zI v2)), (3, .int (zI v3)), (4, .int (zI v4)), (5, .int (zI s9.1)), (6, .int (zI s9.2.1))] [] s9.2.2) (k2 : ∀ x9 : (Int × z_St), o = .inr x9 → z_V κ z_T z_N a 5 (6 * 5) 111 [(0, .ref (a 0)), (1, .ref b), (2, .int (zI v2)), (3, .int (zI v3)), (4, .int (zI v4)), (5, .int (zI x9.1))] [] x9.2) (hv9 : 0 ≤ v6 ∧ v6 ≤ 4) (h : J_L_builds_102 f (n9 : Int) v2 v3 v4 v6 s0 s1 st = some o) : z_V κ z_T z_N a ((0 + 1 * (v6 : Int).toNat) + 1) (6 * ((0 + 1 * (v6 : Int).toNat) + 1)) 102 [(0, .ref (a 0)), (1, .ref b), (2, .int (zI v2)), (3, .int (zI v3)), (4, .int (zI v4)), (6, .int (zI v6))] [.int (zI s0), .int (zI s1)] st := by
  unfold J_L_builds_102 at h
  refine z_iand_r hc dL_builds_102 ?_
  refine z_istore [(5, .int (zI (z_iand s1 s0))), (0, .ref (a 0)), (1, .ref b), (2, .int (zI v2)), (3, .int (zI v3)), (4, .int (zI v4)), (6, .int (zI v6))] hc dL_builds_103 (by decide) rfl ?_
  refine z_iinc [(6, .int (zI (v6 + 1))), (5, .int (zI (z_iand s1 s0))), (0, .ref (a 0)), (1, .ref b), (2, .int (zI v2)), (3, .int (zI v3)), (4, .int (zI v4))] 6 hc dL_builds_105 rfl (by decide) rfl ?_
  refine z_goto (tgt := 21) hc dL_builds_108 (by decide) ?_
  refine z_sub [(0, .ref (a 0)), (1, .ref b), (2, .int (zI v2)), (3, .int (zI v3)), (4, .int (zI v4)), (5, .int (zI (z_iand s1 s0))), (6, .int (zI (v6 + 1)))] [2, 3, 4, 5, 6, 1, 0] rfl ?_
  refine z_wide (cells' := (0 + 1 * (v6 + 1 : Int).toNat)) (slots' := 6 * (0 + 1 * (v6 + 1 : Int).toNat)) (by omega) (by omega) ?_
  exact k1 _ (Option.some.inj h).symm
noncomputable def J_L_builds_b21 (f : Int → Int) (n9 : Int) (v2 v3 v4 v5 v6 : Int) (st : z_St) : Option ((Int × Int × z_St) ⊕ (Int × z_St)) :=
  z_g (0 ≤ v6 ∧ v6 ≤ 4) <|
  z_g (z32 v6 ∧ z32 v4) (if v6 < v4 then
    z_b (J_L_cell f n9 (2 + v6) st) fun r3 =>
    z_b (J_L_low r3 41 st) fun r4 =>
    z_g (z32 (r4 - 20)) <|
    z_b (J_L_low (z_ishr r3 6) 41 st) fun r5 =>
    z_b (J_L_low (z_ishr r3 12) 9 st) fun r6 =>
    z_b (J_L_low (z_ishr r3 16) 5 st) fun r7 =>
    z_b (J_L_does 3 (r4 - 20) (r5 - 20) r6 (1 + r7) st) fun r8 =>
    z_g (z32 v6) <|
    z_g (z64 r8.1 ∧ z64 v6) (if r8.1 = v6 then
      J_L_builds_102 f n9 v2 v3 v4 v6 1 v5 r8.2
    else
      J_L_builds_102 f n9 v2 v3 v4 v6 0 v5 r8.2)
  else
    some (.inr (v5, st)))
set_option maxRecDepth 100000 in
set_option maxHeartbeats 4000000 in
theorem w_L_builds_b21 {κ : zK} {a : Nat → Nat} {b n9 : Nat} {f : Int → Int} {v2 v3 v4 v5 v6 : Int} {st : z_St} {o : (Int × Int × z_St) ⊕ (Int × z_St)} (hc : z_C κ RL cL_builds 8 29 32 (6 * 32)) (hap : z_AP κ a z_N) (hX : z_SX κ b n9 f) (k1 : ∀ s9 : (Int × Int × z_St), o = .inl s9 → z_V κ z_T z_N a (0 + 1 * (s9.2.1 : Int).toNat) (6 * (0 + 1 * (s9.2.1 : Int).toNat)) 21 [(0, .ref (a 0)), (1, .ref b), (2, .int (zI v2)), (3, .int (zI v3)), (4, .int (zI v4)), (5, .int (zI s9.1)), (6, .int (zI s9.2.1))] [] s9.2.2) (k2 : ∀ x9 : (Int × z_St), o = .inr x9 → z_V κ z_T z_N a 5 (6 * 5) 111 [(0, .ref (a 0)), (1, .ref b), (2, .int (zI v2)), (3, .int (zI v3)), (4, .int (zI v4)), (5, .int (zI x9.1))] [] x9.2) (h : J_L_builds_b21 f (n9 : Int) v2 v3 v4 v5 v6 st = some o) : z_V κ z_T z_N a (0 + 1 * (v6 : Int).toNat) (6 * (0 + 1 * (v6 : Int).toNat)) 21 [(0, .ref (a 0)), (1, .ref b), (2, .int (zI v2)), (3, .int (zI v3)), (4, .int (zI v4)), (5, .int (zI v5)), (6, .int (zI v6))] [] st := by
  unfold J_L_builds_b21 at h
  obtain ⟨hv9, h⟩ := z_g_some h
  refine z_iload 6 hc dL_builds_21 rfl ?_
  refine z_iload 4 hc dL_builds_23 rfl ?_
  refine z_icmp_ge (tgt := 111) hc dL_builds_25 (by decide) h (fun c25 h => ?_) (fun c25 h => ?_)
  · refine z_aload_n (i := 1) 1 hc dL_builds_28 rfl rfl ?_
    refine z_iconst hc dL_builds_29 ?_
    refine z_iload 6 hc dL_builds_30 rfl ?_
    refine z_iadd hc dL_builds_32 ?_
    obtain ⟨r3, hr3, h⟩ := z_b_some h
    refine z_callSS (0 + 1 * (v6 : Int).toNat) (6 * (0 + 1 * (v6 : Int).toNat)) (mu := 0) [.ref b, .int (zI (2 + v6))] hX hc hap o_L_cell ml_RL_148 (fun l hl => c_L_cell hl hr3) (by decide) rfl rfl (Nat.le_of_ble_eq_true rfl) (by omega) (by omega) (by omega) (by omega) dL_builds_33 ?_
    refine z_istore [(7, .int (zI r3)), (0, .ref (a 0)), (1, .ref b), (2, .int (zI v2)), (3, .int (zI v3)), (4, .int (zI v4)), (5, .int (zI v5)), (6, .int (zI v6))] hc dL_builds_36 (by decide) rfl ?_
    refine z_iload 6 hc dL_builds_38 rfl ?_
    refine z_aload_n (i := 0) 1 hc dL_builds_40 rfl rfl ?_
    refine z_iconst hc dL_builds_41 ?_
    refine z_iload 0 hc dL_builds_42 rfl ?_
    refine z_bipush hc dL_builds_44 rfl ?_
    obtain ⟨r4, hr4, h⟩ := z_b_some h
    refine z_callSI [.int (zI r3), .int (zI 41)] hc hap o_L_low ml_RL_129 (fun l hl => c_L_low hl hr4) (by decide) rfl rfl (Nat.le_of_ble_eq_true rfl) (by omega) (by omega) dL_builds_46 ?_
    refine z_bipush hc dL_builds_49 rfl ?_
    refine z_isub hc dL_builds_51 ?_
    refine z_i2l hc dL_builds_52 h (fun h => ?_)
    refine z_iload 0 hc dL_builds_53 rfl ?_
    refine z_bipush hc dL_builds_55 rfl ?_
    refine z_ishr_r hc dL_builds_57 ?_
    refine z_bipush hc dL_builds_58 rfl ?_
    obtain ⟨r5, hr5, h⟩ := z_b_some h
    refine z_callSI [.int (zI (z_ishr r3 6)), .int (zI 41)] hc hap o_L_low ml_RL_129 (fun l hl => c_L_low hl hr5) (by decide) rfl rfl (Nat.le_of_ble_eq_true rfl) (by omega) (by omega) dL_builds_60 ?_
    refine z_bipush hc dL_builds_63 rfl ?_
    refine z_isub hc dL_builds_65 ?_
    refine z_iload 0 hc dL_builds_66 rfl ?_
    refine z_bipush hc dL_builds_68 rfl ?_
    refine z_ishr_r hc dL_builds_70 ?_
    refine z_bipush hc dL_builds_71 rfl ?_
    obtain ⟨r6, hr6, h⟩ := z_b_some h
    refine z_callSI [.int (zI (z_ishr r3 12)), .int (zI 9)] hc hap o_L_low ml_RL_129 (fun l hl => c_L_low hl hr6) (by decide) rfl rfl (Nat.le_of_ble_eq_true rfl) (by omega) (by omega) dL_builds_73 ?_
    refine z_iconst hc dL_builds_76 ?_
    refine z_iload 0 hc dL_builds_77 rfl ?_
    refine z_bipush hc dL_builds_79 rfl ?_
    refine z_ishr_r hc dL_builds_81 ?_
    refine z_iconst hc dL_builds_82 ?_
    obtain ⟨r7, hr7, h⟩ := z_b_some h
    refine z_callSI [.int (zI (z_ishr r3 16)), .int (zI 5)] hc hap o_L_low ml_RL_129 (fun l hl => c_L_low hl hr7) (by decide) rfl rfl (Nat.le_of_ble_eq_true rfl) (by omega) (by omega) dL_builds_83 ?_
    refine z_iadd hc dL_builds_86 ?_
    obtain ⟨r8, hr8, h⟩ := z_b_some h
    refine z_callHJ ((0 + 1 * (v6 : Int).toNat) + 1) (6 * ((0 + 1 * (v6 : Int).toNat) + 1)) (mu := 1) (np := 6) [.ref (a 0), .int (zI 3), .long (zJ (r4 - 20)), .int (zI (r5 - 20)), .int (zI r6), .int (zI (1 + r7))] hc hap kL_does ml_RL_119 (z_t2 168 rfl rfl) (z_t1 0 rfl rfl) (by decide +kernel) (by decide) (fun l hl => c_L_does hl hr8) (by decide) rfl rfl (Nat.le_of_ble_eq_true rfl) (by omega) (by omega) (by omega) (by omega) dL_builds_87 ?_
    refine z_iload 7 hc dL_builds_90 rfl ?_
    refine z_i2l hc dL_builds_92 h (fun h => ?_)
    refine z_lcmp_ne (tgt := 101) hc dL_builds_93 dL_builds_94 (by decide) h (fun c93 h => ?_) (fun c93 h => ?_)
    · refine z_iconst hc dL_builds_97 ?_
      refine z_goto (tgt := 102) hc dL_builds_98 (by decide) ?_
      refine z_sub [(0, .ref (a 0)), (1, .ref b), (2, .int (zI v2)), (3, .int (zI v3)), (4, .int (zI v4)), (6, .int (zI v6))] [1, 2, 3, 4, 5, 7] rfl ?_
      exact w_L_builds_102 hc hap hX k1 k2 hv9 h
    · refine z_iconst hc dL_builds_101 ?_
      refine z_sub [(0, .ref (a 0)), (1, .ref b), (2, .int (zI v2)), (3, .int (zI v3)), (4, .int (zI v4)), (6, .int (zI v6))] [1, 2, 3, 4, 5, 7] rfl ?_
      exact w_L_builds_102 hc hap hX k1 k2 hv9 h
  · refine z_sub [(0, .ref (a 0)), (1, .ref b), (2, .int (zI v2)), (3, .int (zI v3)), (4, .int (zI v4)), (5, .int (zI v5))] [0, 1, 2, 3, 4, 5] rfl ?_
    refine z_wide (cells' := 5) (slots' := 6 * 5) (by omega) (by omega) ?_
    exact k2 (v5, st) (Option.some.inj h).symm
noncomputable def J_L_builds_319 (f : Int → Int) (n9 : Int) (v2 v6 s0 s1 : Int) (st : z_St) : Option ((Int × Int × z_St) ⊕ (Int × z_St)) :=
  some (.inl (z_iand s1 s0, v6 + 1, st))
set_option maxRecDepth 100000 in
set_option maxHeartbeats 4000000 in
theorem w_L_builds_319 {κ : zK} {a : Nat → Nat} {b n9 : Nat} {f : Int → Int} {v2 v6 s0 s1 : Int} {st : z_St} {o : (Int × Int × z_St) ⊕ (Int × z_St)} (hc : z_C κ RL cL_builds 8 29 32 (6 * 32)) (hap : z_AP κ a z_N) (hX : z_SX κ b n9 f) (k1 : ∀ s9 : (Int × Int × z_St), o = .inl s9 → z_V κ z_T z_N a (23 + 1 * (s9.2.1 : Int).toNat) (6 * (23 + 1 * (s9.2.1 : Int).toNat)) 247 [(0, .ref (a 0)), (1, .ref b), (2, .int (zI v2)), (5, .int (zI s9.1)), (6, .int (zI s9.2.1))] [] s9.2.2) (k2 : ∀ x9 : (Int × z_St), o = .inr x9 → z_V κ z_T z_N a 32 (6 * 32) 328 [(5, .int (zI x9.1))] [] x9.2) (hv9 : 0 ≤ v6 ∧ v6 ≤ 8) (h : J_L_builds_319 f (n9 : Int) v2 v6 s0 s1 st = some o) : z_V κ z_T z_N a ((23 + 1 * (v6 : Int).toNat) + 1) (6 * ((23 + 1 * (v6 : Int).toNat) + 1)) 319 [(0, .ref (a 0)), (1, .ref b), (2, .int (zI v2)), (6, .int (zI v6))] [.int (zI s0), .int (zI s1)] st := by
  unfold J_L_builds_319 at h
  refine z_iand_r hc dL_builds_319 ?_
  refine z_istore [(5, .int (zI (z_iand s1 s0))), (0, .ref (a 0)), (1, .ref b), (2, .int (zI v2)), (6, .int (zI v6))] hc dL_builds_320 (by decide) rfl ?_
  refine z_iinc [(6, .int (zI (v6 + 1))), (5, .int (zI (z_iand s1 s0))), (0, .ref (a 0)), (1, .ref b), (2, .int (zI v2))] 4 hc dL_builds_322 rfl (by decide) rfl ?_
  refine z_goto (tgt := 247) hc dL_builds_325 (by decide) ?_
  refine z_sub [(0, .ref (a 0)), (1, .ref b), (2, .int (zI v2)), (5, .int (zI (z_iand s1 s0))), (6, .int (zI (v6 + 1)))] [2, 3, 4, 1, 0] rfl ?_
  refine z_wide (cells' := (23 + 1 * (v6 + 1 : Int).toNat)) (slots' := 6 * (23 + 1 * (v6 + 1 : Int).toNat)) (by omega) (by omega) ?_
  exact k1 _ (Option.some.inj h).symm
noncomputable def J_L_builds_b247 (f : Int → Int) (n9 : Int) (v2 v5 v6 : Int) (st : z_St) : Option ((Int × Int × z_St) ⊕ (Int × z_St)) :=
  z_g (0 ≤ v6 ∧ v6 ≤ 8) <|
  z_g (z32 v6 ∧ z32 v2) (if v6 < v2 then
    z_b (J_L_cell f n9 (5 + v6) st) fun r13 =>
    z_b (J_L_low r13 41 st) fun r14 =>
    z_g (z32 (r14 - 20)) <|
    z_b (J_L_low (z_ishr r13 6) 41 st) fun r15 =>
    z_b (J_L_low (z_ishr r13 12) 9 st) fun r16 =>
    z_b (J_L_does 0 (r14 - 20) (r15 - 20) r16 0 st) fun r17 =>
    z_g (z32 v6) <|
    z_g (z64 r17.1 ∧ z64 (v6 + 1)) (if r17.1 = v6 + 1 then
      J_L_builds_319 f n9 v2 v6 1 v5 r17.2
    else
      J_L_builds_319 f n9 v2 v6 0 v5 r17.2)
  else
    some (.inr (v5, st)))
set_option maxRecDepth 100000 in
set_option maxHeartbeats 4000000 in
theorem w_L_builds_b247 {κ : zK} {a : Nat → Nat} {b n9 : Nat} {f : Int → Int} {v2 v5 v6 : Int} {st : z_St} {o : (Int × Int × z_St) ⊕ (Int × z_St)} (hc : z_C κ RL cL_builds 8 29 32 (6 * 32)) (hap : z_AP κ a z_N) (hX : z_SX κ b n9 f) (k1 : ∀ s9 : (Int × Int × z_St), o = .inl s9 → z_V κ z_T z_N a (23 + 1 * (s9.2.1 : Int).toNat) (6 * (23 + 1 * (s9.2.1 : Int).toNat)) 247 [(0, .ref (a 0)), (1, .ref b), (2, .int (zI v2)), (5, .int (zI s9.1)), (6, .int (zI s9.2.1))] [] s9.2.2) (k2 : ∀ x9 : (Int × z_St), o = .inr x9 → z_V κ z_T z_N a 32 (6 * 32) 328 [(5, .int (zI x9.1))] [] x9.2) (h : J_L_builds_b247 f (n9 : Int) v2 v5 v6 st = some o) : z_V κ z_T z_N a (23 + 1 * (v6 : Int).toNat) (6 * (23 + 1 * (v6 : Int).toNat)) 247 [(0, .ref (a 0)), (1, .ref b), (2, .int (zI v2)), (5, .int (zI v5)), (6, .int (zI v6))] [] st := by
  unfold J_L_builds_b247 at h
  obtain ⟨hv9, h⟩ := z_g_some h
  refine z_iload 4 hc dL_builds_247 rfl ?_
  refine z_iload_n (i := 2) 2 hc dL_builds_249 rfl rfl ?_
  refine z_icmp_ge (tgt := 328) hc dL_builds_250 (by decide) h (fun c250 h => ?_) (fun c250 h => ?_)
  · refine z_aload_n (i := 1) 1 hc dL_builds_253 rfl rfl ?_
    refine z_iconst hc dL_builds_254 ?_
    refine z_iload 4 hc dL_builds_255 rfl ?_
    refine z_iadd hc dL_builds_257 ?_
    obtain ⟨r13, hr13, h⟩ := z_b_some h
    refine z_callSS (23 + 1 * (v6 : Int).toNat) (6 * (23 + 1 * (v6 : Int).toNat)) (mu := 0) [.ref b, .int (zI (5 + v6))] hX hc hap o_L_cell ml_RL_148 (fun l hl => c_L_cell hl hr13) (by decide) rfl rfl (Nat.le_of_ble_eq_true rfl) (by omega) (by omega) (by omega) (by omega) dL_builds_258 ?_
    refine z_istore [(7, .int (zI r13)), (0, .ref (a 0)), (1, .ref b), (2, .int (zI v2)), (5, .int (zI v5)), (6, .int (zI v6))] hc dL_builds_261 (by decide) rfl ?_
    refine z_iload 4 hc dL_builds_263 rfl ?_
    refine z_aload_n (i := 0) 1 hc dL_builds_265 rfl rfl ?_
    refine z_iconst hc dL_builds_266 ?_
    refine z_iload 0 hc dL_builds_267 rfl ?_
    refine z_bipush hc dL_builds_269 rfl ?_
    obtain ⟨r14, hr14, h⟩ := z_b_some h
    refine z_callSI [.int (zI r13), .int (zI 41)] hc hap o_L_low ml_RL_129 (fun l hl => c_L_low hl hr14) (by decide) rfl rfl (Nat.le_of_ble_eq_true rfl) (by omega) (by omega) dL_builds_271 ?_
    refine z_bipush hc dL_builds_274 rfl ?_
    refine z_isub hc dL_builds_276 ?_
    refine z_i2l hc dL_builds_277 h (fun h => ?_)
    refine z_iload 0 hc dL_builds_278 rfl ?_
    refine z_bipush hc dL_builds_280 rfl ?_
    refine z_ishr_r hc dL_builds_282 ?_
    refine z_bipush hc dL_builds_283 rfl ?_
    obtain ⟨r15, hr15, h⟩ := z_b_some h
    refine z_callSI [.int (zI (z_ishr r13 6)), .int (zI 41)] hc hap o_L_low ml_RL_129 (fun l hl => c_L_low hl hr15) (by decide) rfl rfl (Nat.le_of_ble_eq_true rfl) (by omega) (by omega) dL_builds_285 ?_
    refine z_bipush hc dL_builds_288 rfl ?_
    refine z_isub hc dL_builds_290 ?_
    refine z_iload 0 hc dL_builds_291 rfl ?_
    refine z_bipush hc dL_builds_293 rfl ?_
    refine z_ishr_r hc dL_builds_295 ?_
    refine z_bipush hc dL_builds_296 rfl ?_
    obtain ⟨r16, hr16, h⟩ := z_b_some h
    refine z_callSI [.int (zI (z_ishr r13 12)), .int (zI 9)] hc hap o_L_low ml_RL_129 (fun l hl => c_L_low hl hr16) (by decide) rfl rfl (Nat.le_of_ble_eq_true rfl) (by omega) (by omega) dL_builds_298 ?_
    refine z_iconst hc dL_builds_301 ?_
    obtain ⟨r17, hr17, h⟩ := z_b_some h
    refine z_callHJ ((23 + 1 * (v6 : Int).toNat) + 1) (6 * ((23 + 1 * (v6 : Int).toNat) + 1)) (mu := 1) (np := 6) [.ref (a 0), .int (zI 0), .long (zJ (r14 - 20)), .int (zI (r15 - 20)), .int (zI r16), .int (zI 0)] hc hap kL_does ml_RL_119 (z_t2 168 rfl rfl) (z_t1 0 rfl rfl) (by decide +kernel) (by decide) (fun l hl => c_L_does hl hr17) (by decide) rfl rfl (Nat.le_of_ble_eq_true rfl) (by omega) (by omega) (by omega) (by omega) dL_builds_302 ?_
    refine z_iload 5 hc dL_builds_305 rfl ?_
    refine z_i2l hc dL_builds_307 h (fun h => ?_)
    refine z_lconst 1 hc dL_builds_308 rfl ?_
    refine z_ladd hc dL_builds_309 ?_
    refine z_lcmp_ne (tgt := 318) hc dL_builds_310 dL_builds_311 (by decide) h (fun c310 h => ?_) (fun c310 h => ?_)
    · refine z_iconst hc dL_builds_314 ?_
      refine z_goto (tgt := 319) hc dL_builds_315 (by decide) ?_
      refine z_sub [(0, .ref (a 0)), (1, .ref b), (2, .int (zI v2)), (6, .int (zI v6))] [1, 2, 3, 5] rfl ?_
      exact w_L_builds_319 hc hap hX k1 k2 hv9 h
    · refine z_iconst hc dL_builds_318 ?_
      refine z_sub [(0, .ref (a 0)), (1, .ref b), (2, .int (zI v2)), (6, .int (zI v6))] [1, 2, 3, 5] rfl ?_
      exact w_L_builds_319 hc hap hX k1 k2 hv9 h
  · refine z_sub [(5, .int (zI v5))] [3] rfl ?_
    refine z_wide (cells' := 32) (slots' := 6 * 32) (by omega) (by omega) ?_
    exact k2 (v5, st) (Option.some.inj h).symm
noncomputable def J_L_builds_244 (f : Int → Int) (n9 : Int) (v2 v5 : Int) (st : z_St) : Option (Int × z_St) :=
  z_b (z_iter z_F (fun q9 : (Int × Int × z_St) => J_L_builds_b247 f n9 v2 q9.1 q9.2.1 q9.2.2) (v5, 0, st)) fun lx18 =>
    z_g (lx18.1 = 0 ∨ lx18.1 = 1) <|
    some (lx18.1, lx18.2)
set_option maxRecDepth 100000 in
set_option maxHeartbeats 4000000 in
theorem w_L_builds_244 {κ : zK} {a : Nat → Nat} {b n9 : Nat} {f : Int → Int} {v2 v5 : Int} {st : z_St} {o : Int × z_St} (hc : z_C κ RL cL_builds 8 29 32 (6 * 32)) (hap : z_AP κ a z_N) (hX : z_SX κ b n9 f) (he : z_EU 0 32 κ (some .boolean) z_T z_N a o.1 o.2) (h : J_L_builds_244 f (n9 : Int) v2 v5 st = some o) : z_V κ z_T z_N a 23 (6 * 23) 244 [(0, .ref (a 0)), (1, .ref b), (2, .int (zI v2)), (5, .int (zI v5))] [] st := by
  unfold J_L_builds_244 at h
  refine z_iconst hc dL_builds_244 ?_
  refine z_istore [(6, .int (zI 0)), (0, .ref (a 0)), (1, .ref b), (2, .int (zI v2)), (5, .int (zI v5))] hc dL_builds_245 (by decide) rfl ?_
  obtain ⟨lx18, hlx18, h⟩ := z_b_some h
  refine z_sub [(0, .ref (a 0)), (1, .ref b), (2, .int (zI v2)), (5, .int (zI v5)), (6, .int (zI 0))] [1, 2, 3, 4, 0] rfl ?_
  refine z_wide (cells' := (23 + 1 * (0 : Int).toNat)) (slots' := 6 * (23 + 1 * (0 : Int).toNat)) (by omega) (by omega) ?_
  refine z_loop (fun q9 : (Int × Int × z_St) => J_L_builds_b247 f n9 v2 q9.1 q9.2.1 q9.2.2) (fun q9 : (Int × Int × z_St) => z_V κ z_T z_N a (23 + 1 * (q9.2.1 : Int).toNat) (6 * (23 + 1 * (q9.2.1 : Int).toNat)) 247 [(0, .ref (a 0)), (1, .ref b), (2, .int (zI v2)), (5, .int (zI q9.1)), (6, .int (zI q9.2.1))] [] q9.2.2) (fun x9 : (Int × z_St) => z_V κ z_T z_N a 32 (6 * 32) 328 [(5, .int (zI x9.1))] [] x9.2) (fun q9 o9 hb k1 k2 => ?_) _ _ _ hlx18 ?_
  · exact w_L_builds_b247 hc hap hX k1 k2 hb
  · show z_V κ z_T z_N a 32 (6 * 32) 328 [(5, .int (zI lx18.1))] [] lx18.2
    refine z_iload 0 hc dL_builds_328 rfl ?_
    obtain ⟨hz, h⟩ := z_g_some h
    have h := Option.some.inj h
    subst h
    exact z_retUZ hc he hz dL_builds_330
noncomputable def J_L_builds_241 (f : Int → Int) (n9 : Int) (v2 s0 s1 : Int) (st : z_St) : Option (Int × z_St) :=
  J_L_builds_244 f n9 v2 (z_iand s1 s0) st
set_option maxRecDepth 100000 in
set_option maxHeartbeats 4000000 in
theorem w_L_builds_241 {κ : zK} {a : Nat → Nat} {b n9 : Nat} {f : Int → Int} {v2 s0 s1 : Int} {st : z_St} {o : Int × z_St} (hc : z_C κ RL cL_builds 8 29 32 (6 * 32)) (hap : z_AP κ a z_N) (hX : z_SX κ b n9 f) (he : z_EU 0 32 κ (some .boolean) z_T z_N a o.1 o.2) (h : J_L_builds_241 f (n9 : Int) v2 s0 s1 st = some o) : z_V κ z_T z_N a 23 (6 * 23) 241 [(0, .ref (a 0)), (1, .ref b), (2, .int (zI v2))] [.int (zI s0), .int (zI s1)] st := by
  unfold J_L_builds_241 at h
  refine z_iand_r hc dL_builds_241 ?_
  refine z_istore [(5, .int (zI (z_iand s1 s0))), (0, .ref (a 0)), (1, .ref b), (2, .int (zI v2))] hc dL_builds_242 (by decide) rfl ?_
  refine z_sub [(0, .ref (a 0)), (1, .ref b), (2, .int (zI v2)), (5, .int (zI (z_iand s1 s0)))] [1, 2, 3, 0] rfl ?_
  exact w_L_builds_244 hc hap hX he h
noncomputable def J_L_builds_240 (f : Int → Int) (n9 : Int) (v2 s0 : Int) (st : z_St) : Option (Int × z_St) :=
  J_L_builds_241 f n9 v2 0 s0 st
set_option maxRecDepth 100000 in
set_option maxHeartbeats 4000000 in
theorem w_L_builds_240 {κ : zK} {a : Nat → Nat} {b n9 : Nat} {f : Int → Int} {v2 s0 : Int} {st : z_St} {o : Int × z_St} (hc : z_C κ RL cL_builds 8 29 32 (6 * 32)) (hap : z_AP κ a z_N) (hX : z_SX κ b n9 f) (he : z_EU 0 32 κ (some .boolean) z_T z_N a o.1 o.2) (h : J_L_builds_240 f (n9 : Int) v2 s0 st = some o) : z_V κ z_T z_N a 23 (6 * 23) 240 [(0, .ref (a 0)), (1, .ref b), (2, .int (zI v2))] [.int (zI s0)] st := by
  unfold J_L_builds_240 at h
  refine z_iconst hc dL_builds_240 ?_
  refine z_sub [(0, .ref (a 0)), (1, .ref b), (2, .int (zI v2))] [0, 1, 2] rfl ?_
  exact w_L_builds_241 hc hap hX he h
noncomputable def J_L_builds_187 (f : Int → Int) (n9 : Int) (v2 v3 v4 s0 s1 : Int) (st : z_St) : Option (Int × z_St) :=
  z_b (J_L_low (z_ishr v3 1) 2 st) fun r11 =>
  z_g (z32 r11) (if r11 = 0 then
    z_b (J_L_types (z_ishr v3 7) v4 st) fun r12 =>
    z_g (z32 r12.1) (if r12.1 = 0 then
      J_L_builds_240 f n9 v2 (z_iand s1 s0) r12.2
    else
      z_b (J_L_low (z_ishr v3 16) 40 r12.2) fun r19 =>
      z_b (J_L_ask 7 0 r19 r12.2) fun r20 =>
      z_g (z64 r20.1 ∧ z64 1) (if r20.1 < 1 then
        J_L_builds_240 f n9 v2 (z_iand s1 s0) r20.2
      else
        J_L_builds_241 f n9 v2 1 (z_iand s1 s0) r20.2))
  else
    J_L_builds_244 f n9 v2 (z_iand s1 s0) st)
set_option maxRecDepth 100000 in
set_option maxHeartbeats 4000000 in
theorem w_L_builds_187 {κ : zK} {a : Nat → Nat} {b n9 : Nat} {f : Int → Int} {v2 v3 v4 s0 s1 : Int} {st : z_St} {o : Int × z_St} (hc : z_C κ RL cL_builds 8 29 32 (6 * 32)) (hap : z_AP κ a z_N) (hX : z_SX κ b n9 f) (he : z_EU 0 32 κ (some .boolean) z_T z_N a o.1 o.2) (h : J_L_builds_187 f (n9 : Int) v2 v3 v4 s0 s1 st = some o) : z_V κ z_T z_N a 17 (6 * 17) 187 [(0, .ref (a 0)), (1, .ref b), (2, .int (zI v2)), (3, .int (zI v3)), (4, .int (zI v4))] [.int (zI s0), .int (zI s1)] st := by
  unfold J_L_builds_187 at h
  refine z_iand_r hc dL_builds_187 ?_
  refine z_istore [(5, .int (zI (z_iand s1 s0))), (0, .ref (a 0)), (1, .ref b), (2, .int (zI v2)), (3, .int (zI v3)), (4, .int (zI v4))] hc dL_builds_188 (by decide) rfl ?_
  refine z_iload_n (i := 3) 4 hc dL_builds_190 rfl rfl ?_
  refine z_iconst hc dL_builds_191 ?_
  refine z_ishr_r hc dL_builds_192 ?_
  refine z_iconst hc dL_builds_193 ?_
  obtain ⟨r11, hr11, h⟩ := z_b_some h
  refine z_callSI [.int (zI (z_ishr v3 1)), .int (zI 2)] hc hap o_L_low ml_RL_129 (fun l hl => c_L_low hl hr11) (by decide) rfl rfl (Nat.le_of_ble_eq_true rfl) (by omega) (by omega) dL_builds_194 ?_
  refine z_if_ne (tgt := 244) hc dL_builds_197 (by decide) h (fun c197 h => ?_) (fun c197 h => ?_)
  · refine z_iload 0 hc dL_builds_200 rfl ?_
    refine z_aload_n (i := 0) 1 hc dL_builds_202 rfl rfl ?_
    refine z_iload_n (i := 3) 4 hc dL_builds_203 rfl rfl ?_
    refine z_bipush hc dL_builds_204 rfl ?_
    refine z_ishr_r hc dL_builds_206 ?_
    refine z_iload 5 hc dL_builds_207 rfl ?_
    obtain ⟨r12, hr12, h⟩ := z_b_some h
    refine z_callUI 22 (6 * 22) (mu := 5) [.ref (a 0), .int (zI (z_ishr v3 7)), .int (zI v4)] hc hap o_L_types ml_RL_152 (fun l hl => c_L_types hl hr12) (by decide) rfl rfl (Nat.le_of_ble_eq_true rfl) (by omega) (by omega) (by omega) (by omega) dL_builds_209 ?_
    refine z_if_eq (tgt := 240) hc dL_builds_212 (by decide) h (fun c212 h => ?_) (fun c212 h => ?_)
    · refine z_sub [(0, .ref (a 0)), (1, .ref b), (2, .int (zI v2))] [1, 2, 3] rfl ?_
      refine z_wide (cells' := 23) (slots' := 6 * 23) (Nat.le_of_ble_eq_true rfl) (Nat.le_of_ble_eq_true rfl) ?_
      exact w_L_builds_240 hc hap hX he h
    · refine z_aload_n (i := 0) 1 hc dL_builds_215 rfl rfl ?_
      refine z_bipush hc dL_builds_216 rfl ?_
      refine z_lconst 0 hc dL_builds_218 rfl ?_
      refine z_iload_n (i := 3) 4 hc dL_builds_219 rfl rfl ?_
      refine z_bipush hc dL_builds_220 rfl ?_
      refine z_ishr_r hc dL_builds_222 ?_
      refine z_bipush hc dL_builds_223 rfl ?_
      obtain ⟨r19, hr19, h⟩ := z_b_some h
      refine z_callSI [.int (zI (z_ishr v3 16)), .int (zI 40)] hc hap o_L_low ml_RL_129 (fun l hl => c_L_low hl hr19) (by decide) rfl rfl (Nat.le_of_ble_eq_true rfl) (by omega) (by omega) dL_builds_225 ?_
      obtain ⟨r20, hr20, h⟩ := z_b_some h
      refine z_callUJ 23 (6 * 23) (mu := 1) [.ref (a 0), .int (zI 7), .long (zJ 0), .int (zI r19)] hc hap o_L_ask ml_RL_125 (fun l hl => c_L_ask hl hr20) (by decide) rfl rfl (Nat.le_of_ble_eq_true rfl) (by omega) (by omega) (by omega) (by omega) dL_builds_228 ?_
      refine z_lconst 1 hc dL_builds_231 rfl ?_
      refine z_lcmp_lt (tgt := 240) hc dL_builds_232 dL_builds_233 (by decide) h (fun c232 h => ?_) (fun c232 h => ?_)
      · refine z_sub [(0, .ref (a 0)), (1, .ref b), (2, .int (zI v2))] [1, 2, 3] rfl ?_
        exact w_L_builds_240 hc hap hX he h
      · refine z_iconst hc dL_builds_236 ?_
        refine z_goto (tgt := 241) hc dL_builds_237 (by decide) ?_
        refine z_sub [(0, .ref (a 0)), (1, .ref b), (2, .int (zI v2))] [1, 2, 3] rfl ?_
        exact w_L_builds_241 hc hap hX he h
  · refine z_sub [(0, .ref (a 0)), (1, .ref b), (2, .int (zI v2)), (5, .int (zI (z_iand s1 s0)))] [1, 2, 3, 0] rfl ?_
    refine z_wide (cells' := 23) (slots' := 6 * 23) (Nat.le_of_ble_eq_true rfl) (Nat.le_of_ble_eq_true rfl) ?_
    exact w_L_builds_244 hc hap hX he h
noncomputable def J_L_builds_186 (f : Int → Int) (n9 : Int) (v2 v3 v4 s0 : Int) (st : z_St) : Option (Int × z_St) :=
  J_L_builds_187 f n9 v2 v3 v4 0 s0 st
set_option maxRecDepth 100000 in
set_option maxHeartbeats 4000000 in
theorem w_L_builds_186 {κ : zK} {a : Nat → Nat} {b n9 : Nat} {f : Int → Int} {v2 v3 v4 s0 : Int} {st : z_St} {o : Int × z_St} (hc : z_C κ RL cL_builds 8 29 32 (6 * 32)) (hap : z_AP κ a z_N) (hX : z_SX κ b n9 f) (he : z_EU 0 32 κ (some .boolean) z_T z_N a o.1 o.2) (h : J_L_builds_186 f (n9 : Int) v2 v3 v4 s0 st = some o) : z_V κ z_T z_N a 17 (6 * 17) 186 [(0, .ref (a 0)), (1, .ref b), (2, .int (zI v2)), (3, .int (zI v3)), (4, .int (zI v4))] [.int (zI s0)] st := by
  unfold J_L_builds_186 at h
  refine z_iconst hc dL_builds_186 ?_
  refine z_sub [(0, .ref (a 0)), (1, .ref b), (2, .int (zI v2)), (3, .int (zI v3)), (4, .int (zI v4))] [0, 1, 2, 3, 4] rfl ?_
  exact w_L_builds_187 hc hap hX he h
noncomputable def J_L_builds (f : Int → Int) (n9 : Int) (x2 : Int) (st : z_St) : Option (Int × z_St) :=
  z_b (J_L_cell f n9 1 st) fun r1 =>
  z_b (J_L_low r1 2 st) fun r2 =>
  z_b (z_iter z_F (fun q9 : (Int × Int × z_St) => J_L_builds_b21 f n9 x2 r1 (2 + r2) q9.1 q9.2.1 q9.2.2) (1, 0, st)) fun lx9 =>
    z_b (J_L_types (z_ishr r1 3) (2 + r2) lx9.2) fun r10 =>
    z_g (z32 r10.1) (if r10.1 = 0 then
      J_L_builds_186 f n9 x2 r1 (2 + r2) lx9.1 r10.2
    else
      z_b (J_L_low (z_ishr r1 11) 40 r10.2) fun r21 =>
      z_g (z32 r21) <|
      z_b (J_L_ask 6 r21 0 r10.2) fun r22 =>
      z_g (z64 r22.1 ∧ z64 0) (if r22.1 = 0 then
        z_b (J_L_types (z_ishr r1 14) (2 + r2) r22.2) fun r23 =>
        z_g (z32 r23.1) (if r23.1 = 0 then
          J_L_builds_186 f n9 x2 r1 (2 + r2) lx9.1 r23.2
        else
          z_b (J_L_low (z_ishr r1 22) 40 r23.2) fun r24 =>
          z_g (z32 r24) <|
          z_b (J_L_ask 6 r24 0 r23.2) fun r25 =>
          z_g (z64 r25.1 ∧ z64 1) (if r25.1 = 1 then
            J_L_builds_187 f n9 x2 r1 (2 + r2) 1 lx9.1 r25.2
          else
            J_L_builds_186 f n9 x2 r1 (2 + r2) lx9.1 r25.2))
      else
        J_L_builds_186 f n9 x2 r1 (2 + r2) lx9.1 r22.2))
set_option maxRecDepth 100000 in
set_option maxHeartbeats 4000000 in
theorem w_L_builds {κ : zK} {a : Nat → Nat} {b n9 : Nat} {f : Int → Int} {x2 : Int} {st : z_St} {o : Int × z_St} (hc : z_C κ RL cL_builds 8 29 32 (6 * 32)) (hap : z_AP κ a z_N) (hX : z_SX κ b n9 f) (he : z_EU 0 32 κ (some .boolean) z_T z_N a o.1 o.2) (h : J_L_builds f (n9 : Int) x2 st = some o) : z_V κ z_T z_N a 0 (6 * 0) 0 [(0, .ref (a 0)), (1, .ref b), (2, .int (zI x2))] [] st := by
  unfold J_L_builds at h
  refine z_aload_n (i := 1) 1 hc dL_builds_0 rfl rfl ?_
  refine z_iconst hc dL_builds_1 ?_
  obtain ⟨r1, hr1, h⟩ := z_b_some h
  refine z_callSS 0 (6 * 0) (mu := 0) [.ref b, .int (zI 1)] hX hc hap o_L_cell ml_RL_148 (fun l hl => c_L_cell hl hr1) (by decide) rfl rfl (Nat.le_of_ble_eq_true rfl) (by omega) (by omega) (by omega) (by omega) dL_builds_2 ?_
  refine z_istore_n (i := 3) [(3, .int (zI r1)), (0, .ref (a 0)), (1, .ref b), (2, .int (zI x2))] hc dL_builds_5 rfl (by decide) rfl ?_
  refine z_iconst hc dL_builds_6 ?_
  refine z_iload_n (i := 3) 0 hc dL_builds_7 rfl rfl ?_
  refine z_iconst hc dL_builds_8 ?_
  obtain ⟨r2, hr2, h⟩ := z_b_some h
  refine z_callSI [.int (zI r1), .int (zI 2)] hc hap o_L_low ml_RL_129 (fun l hl => c_L_low hl hr2) (by decide) rfl rfl (Nat.le_of_ble_eq_true rfl) (by omega) (by omega) dL_builds_9 ?_
  refine z_iadd hc dL_builds_12 ?_
  refine z_istore [(4, .int (zI (2 + r2))), (3, .int (zI r1)), (0, .ref (a 0)), (1, .ref b), (2, .int (zI x2))] hc dL_builds_13 (by decide) rfl ?_
  refine z_iconst hc dL_builds_15 ?_
  refine z_istore [(5, .int (zI 1)), (4, .int (zI (2 + r2))), (3, .int (zI r1)), (0, .ref (a 0)), (1, .ref b), (2, .int (zI x2))] hc dL_builds_16 (by decide) rfl ?_
  refine z_iconst hc dL_builds_18 ?_
  refine z_istore [(6, .int (zI 0)), (5, .int (zI 1)), (4, .int (zI (2 + r2))), (3, .int (zI r1)), (0, .ref (a 0)), (1, .ref b), (2, .int (zI x2))] hc dL_builds_19 (by decide) rfl ?_
  obtain ⟨lx9, hlx9, h⟩ := z_b_some h
  refine z_sub [(0, .ref (a 0)), (1, .ref b), (2, .int (zI x2)), (3, .int (zI r1)), (4, .int (zI (2 + r2))), (5, .int (zI 1)), (6, .int (zI 0))] [4, 5, 6, 3, 2, 1, 0] rfl ?_
  refine z_wide (cells' := (0 + 1 * (0 : Int).toNat)) (slots' := 6 * (0 + 1 * (0 : Int).toNat)) (by omega) (by omega) ?_
  refine z_loop (fun q9 : (Int × Int × z_St) => J_L_builds_b21 f n9 x2 r1 (2 + r2) q9.1 q9.2.1 q9.2.2) (fun q9 : (Int × Int × z_St) => z_V κ z_T z_N a (0 + 1 * (q9.2.1 : Int).toNat) (6 * (0 + 1 * (q9.2.1 : Int).toNat)) 21 [(0, .ref (a 0)), (1, .ref b), (2, .int (zI x2)), (3, .int (zI r1)), (4, .int (zI (2 + r2))), (5, .int (zI q9.1)), (6, .int (zI q9.2.1))] [] q9.2.2) (fun x9 : (Int × z_St) => z_V κ z_T z_N a 5 (6 * 5) 111 [(0, .ref (a 0)), (1, .ref b), (2, .int (zI x2)), (3, .int (zI r1)), (4, .int (zI (2 + r2))), (5, .int (zI x9.1))] [] x9.2) (fun q9 o9 hb k1 k2 => ?_) _ _ _ hlx9 ?_
  · exact w_L_builds_b21 hc hap hX k1 k2 hb
  · show z_V κ z_T z_N a 5 (6 * 5) 111 [(0, .ref (a 0)), (1, .ref b), (2, .int (zI x2)), (3, .int (zI r1)), (4, .int (zI (2 + r2))), (5, .int (zI lx9.1))] [] lx9.2
    refine z_iload 5 hc dL_builds_111 rfl ?_
    refine z_aload_n (i := 0) 0 hc dL_builds_113 rfl rfl ?_
    refine z_iload_n (i := 3) 3 hc dL_builds_114 rfl rfl ?_
    refine z_iconst hc dL_builds_115 ?_
    refine z_ishr_r hc dL_builds_116 ?_
    refine z_iload 4 hc dL_builds_117 rfl ?_
    obtain ⟨r10, hr10, h⟩ := z_b_some h
    refine z_callUI 10 (6 * 10) (mu := 5) [.ref (a 0), .int (zI (z_ishr r1 3)), .int (zI (2 + r2))] hc hap o_L_types ml_RL_152 (fun l hl => c_L_types hl hr10) (by decide) rfl rfl (Nat.le_of_ble_eq_true rfl) (by omega) (by omega) (by omega) (by omega) dL_builds_119 ?_
    refine z_if_eq (tgt := 186) hc dL_builds_122 (by decide) h (fun c122 h => ?_) (fun c122 h => ?_)
    · refine z_sub [(0, .ref (a 0)), (1, .ref b), (2, .int (zI x2)), (3, .int (zI r1)), (4, .int (zI (2 + r2)))] [0, 1, 2, 3, 4] rfl ?_
      refine z_wide (cells' := 17) (slots' := 6 * 17) (Nat.le_of_ble_eq_true rfl) (Nat.le_of_ble_eq_true rfl) ?_
      exact w_L_builds_186 hc hap hX he h
    · refine z_aload_n (i := 0) 0 hc dL_builds_125 rfl rfl ?_
      refine z_bipush hc dL_builds_126 rfl ?_
      refine z_iload_n (i := 3) 3 hc dL_builds_128 rfl rfl ?_
      refine z_bipush hc dL_builds_129 rfl ?_
      refine z_ishr_r hc dL_builds_131 ?_
      refine z_bipush hc dL_builds_132 rfl ?_
      obtain ⟨r21, hr21, h⟩ := z_b_some h
      refine z_callSI [.int (zI (z_ishr r1 11)), .int (zI 40)] hc hap o_L_low ml_RL_129 (fun l hl => c_L_low hl hr21) (by decide) rfl rfl (Nat.le_of_ble_eq_true rfl) (by omega) (by omega) dL_builds_134 ?_
      refine z_i2l hc dL_builds_137 h (fun h => ?_)
      refine z_iconst hc dL_builds_138 ?_
      obtain ⟨r22, hr22, h⟩ := z_b_some h
      refine z_callUJ 11 (6 * 11) (mu := 1) [.ref (a 0), .int (zI 6), .long (zJ r21), .int (zI 0)] hc hap o_L_ask ml_RL_125 (fun l hl => c_L_ask hl hr22) (by decide) rfl rfl (Nat.le_of_ble_eq_true rfl) (by omega) (by omega) (by omega) (by omega) dL_builds_139 ?_
      refine z_lconst 0 hc dL_builds_142 rfl ?_
      refine z_lcmp_ne (tgt := 186) hc dL_builds_143 dL_builds_144 (by decide) h (fun c143 h => ?_) (fun c143 h => ?_)
      · refine z_aload_n (i := 0) 0 hc dL_builds_147 rfl rfl ?_
        refine z_iload_n (i := 3) 3 hc dL_builds_148 rfl rfl ?_
        refine z_bipush hc dL_builds_149 rfl ?_
        refine z_ishr_r hc dL_builds_151 ?_
        refine z_iload 4 hc dL_builds_152 rfl ?_
        obtain ⟨r23, hr23, h⟩ := z_b_some h
        refine z_callUI 16 (6 * 16) (mu := 5) [.ref (a 0), .int (zI (z_ishr r1 14)), .int (zI (2 + r2))] hc hap o_L_types ml_RL_152 (fun l hl => c_L_types hl hr23) (by decide) rfl rfl (Nat.le_of_ble_eq_true rfl) (by omega) (by omega) (by omega) (by omega) dL_builds_154 ?_
        refine z_if_eq (tgt := 186) hc dL_builds_157 (by decide) h (fun c157 h => ?_) (fun c157 h => ?_)
        · refine z_sub [(0, .ref (a 0)), (1, .ref b), (2, .int (zI x2)), (3, .int (zI r1)), (4, .int (zI (2 + r2)))] [0, 1, 2, 3, 4] rfl ?_
          refine z_wide (cells' := 17) (slots' := 6 * 17) (Nat.le_of_ble_eq_true rfl) (Nat.le_of_ble_eq_true rfl) ?_
          exact w_L_builds_186 hc hap hX he h
        · refine z_aload_n (i := 0) 0 hc dL_builds_160 rfl rfl ?_
          refine z_bipush hc dL_builds_161 rfl ?_
          refine z_iload_n (i := 3) 3 hc dL_builds_163 rfl rfl ?_
          refine z_bipush hc dL_builds_164 rfl ?_
          refine z_ishr_r hc dL_builds_166 ?_
          refine z_bipush hc dL_builds_167 rfl ?_
          obtain ⟨r24, hr24, h⟩ := z_b_some h
          refine z_callSI [.int (zI (z_ishr r1 22)), .int (zI 40)] hc hap o_L_low ml_RL_129 (fun l hl => c_L_low hl hr24) (by decide) rfl rfl (Nat.le_of_ble_eq_true rfl) (by omega) (by omega) dL_builds_169 ?_
          refine z_i2l hc dL_builds_172 h (fun h => ?_)
          refine z_iconst hc dL_builds_173 ?_
          obtain ⟨r25, hr25, h⟩ := z_b_some h
          refine z_callUJ 17 (6 * 17) (mu := 1) [.ref (a 0), .int (zI 6), .long (zJ r24), .int (zI 0)] hc hap o_L_ask ml_RL_125 (fun l hl => c_L_ask hl hr25) (by decide) rfl rfl (Nat.le_of_ble_eq_true rfl) (by omega) (by omega) (by omega) (by omega) dL_builds_174 ?_
          refine z_lconst 1 hc dL_builds_177 rfl ?_
          refine z_lcmp_ne (tgt := 186) hc dL_builds_178 dL_builds_179 (by decide) h (fun c178 h => ?_) (fun c178 h => ?_)
          · refine z_iconst hc dL_builds_182 ?_
            refine z_goto (tgt := 187) hc dL_builds_183 (by decide) ?_
            refine z_sub [(0, .ref (a 0)), (1, .ref b), (2, .int (zI x2)), (3, .int (zI r1)), (4, .int (zI (2 + r2)))] [0, 1, 2, 3, 4] rfl ?_
            exact w_L_builds_187 hc hap hX he h
          · refine z_sub [(0, .ref (a 0)), (1, .ref b), (2, .int (zI x2)), (3, .int (zI r1)), (4, .int (zI (2 + r2)))] [0, 1, 2, 3, 4] rfl ?_
            exact w_L_builds_186 hc hap hX he h
      · refine z_sub [(0, .ref (a 0)), (1, .ref b), (2, .int (zI x2)), (3, .int (zI r1)), (4, .int (zI (2 + r2)))] [0, 1, 2, 3, 4] rfl ?_
        refine z_wide (cells' := 17) (slots' := 6 * 17) (Nat.le_of_ble_eq_true rfl) (Nat.le_of_ble_eq_true rfl) ?_
        exact w_L_builds_186 hc hap hX he h
set_option maxRecDepth 100000 in
set_option maxHeartbeats 4000000 in
theorem c_L_builds {l : Launch} (hl : l.stackTraces = false) {a : Nat → Nat} {b n9 : Nat} {f : Int → Int} {x2 : Int} {st : z_St} {o : Int × z_St} (h : J_L_builds f (n9 : Int) x2 st = some o) : z_MS 0 32 l yL_builds (z_w yL_builds cL_builds 8 (some .boolean)) 29 z_T z_N a [.ref (a 0), .ref b, .int (zI x2)] b n9 f st o.1 o.2 := z_ofS hl (by decide +kernel) (Nat.le_of_ble_eq_true rfl) (fun κ hc hap hX he => w_L_builds hc hap hX he h)
