theorem dL_finds_0 : decode cL_finds 0 = .ok (.aload_n 0, 1) := by decide +kernel
theorem dL_finds_1 : decode cL_finds 1 = .ok (.bipush 17, 2) := by decide +kernel
theorem dL_finds_3 : decode cL_finds 3 = .ok (.lconst 0, 1) := by decide +kernel
theorem dL_finds_4 : decode cL_finds 4 = .ok (.iconst 0, 1) := by decide +kernel
theorem dL_finds_5 : decode cL_finds 5 = .ok (.invokestatic 125, 3) := by decide +kernel
theorem dL_finds_8 : decode cL_finds 8 = .ok (.l2i, 1) := by decide +kernel
theorem dL_finds_9 : decode cL_finds 9 = .ok (.istore 4, 2) := by decide +kernel
theorem dL_finds_11 : decode cL_finds 11 = .ok (.iload 4, 2) := by decide +kernel
theorem dL_finds_13 : decode cL_finds 13 = .ok (.ifCond .ge 9, 3) := by decide +kernel
theorem dL_finds_16 : decode cL_finds 16 = .ok (.ldc2_w 135, 3) := by decide +kernel
theorem dL_finds_19 : decode cL_finds 19 = .ok (.goto 13, 3) := by decide +kernel
theorem dL_finds_22 : decode cL_finds 22 = .ok (.aload_n 0, 1) := by decide +kernel
theorem dL_finds_23 : decode cL_finds 23 = .ok (.bipush 15, 2) := by decide +kernel
theorem dL_finds_25 : decode cL_finds 25 = .ok (.iload 4, 2) := by decide +kernel
theorem dL_finds_27 : decode cL_finds 27 = .ok (.i2l, 1) := by decide +kernel
theorem dL_finds_28 : decode cL_finds 28 = .ok (.iconst 0, 1) := by decide +kernel
theorem dL_finds_29 : decode cL_finds 29 = .ok (.invokestatic 125, 3) := by decide +kernel
theorem dL_finds_32 : decode cL_finds 32 = .ok (.lstore 5, 2) := by decide +kernel
theorem dL_finds_34 : decode cL_finds 34 = .ok (.aload_n 0, 1) := by decide +kernel
theorem dL_finds_35 : decode cL_finds 35 = .ok (.bipush 18, 2) := by decide +kernel
theorem dL_finds_37 : decode cL_finds 37 = .ok (.ldc2_w 139, 3) := by decide +kernel
theorem dL_finds_40 : decode cL_finds 40 = .ok (.bipush 20, 2) := by decide +kernel
theorem dL_finds_42 : decode cL_finds 42 = .ok (.iconst 0, 1) := by decide +kernel
theorem dL_finds_43 : decode cL_finds 43 = .ok (.iconst 0, 1) := by decide +kernel
theorem dL_finds_44 : decode cL_finds 44 = .ok (.invokestatic 119, 3) := by decide +kernel
theorem dL_finds_47 : decode cL_finds 47 = .ok (.iload 4, 2) := by decide +kernel
theorem dL_finds_49 : decode cL_finds 49 = .ok (.i2l, 1) := by decide +kernel
theorem dL_finds_50 : decode cL_finds 50 = .ok (.lcmp, 1) := by decide +kernel
theorem dL_finds_51 : decode cL_finds 51 = .ok (.ifCond .ne 44, 3) := by decide +kernel
theorem dL_finds_54 : decode cL_finds 54 = .ok (.aload_n 0, 1) := by decide +kernel
theorem dL_finds_55 : decode cL_finds 55 = .ok (.bipush 18, 2) := by decide +kernel
theorem dL_finds_57 : decode cL_finds 57 = .ok (.ldc2_w 139, 3) := by decide +kernel
theorem dL_finds_60 : decode cL_finds 60 = .ok (.bipush 20, 2) := by decide +kernel
theorem dL_finds_62 : decode cL_finds 62 = .ok (.iconst 1, 1) := by decide +kernel
theorem dL_finds_63 : decode cL_finds 63 = .ok (.iconst 0, 1) := by decide +kernel
theorem dL_finds_64 : decode cL_finds 64 = .ok (.invokestatic 119, 3) := by decide +kernel
theorem dL_finds_67 : decode cL_finds 67 = .ok (.lload 5, 2) := by decide +kernel
theorem dL_finds_69 : decode cL_finds 69 = .ok (.lcmp, 1) := by decide +kernel
theorem dL_finds_70 : decode cL_finds 70 = .ok (.ifCond .ne 25, 3) := by decide +kernel
theorem dL_finds_73 : decode cL_finds 73 = .ok (.aload_n 0, 1) := by decide +kernel
theorem dL_finds_74 : decode cL_finds 74 = .ok (.bipush 18, 2) := by decide +kernel
theorem dL_finds_76 : decode cL_finds 76 = .ok (.ldc2_w 139, 3) := by decide +kernel
theorem dL_finds_79 : decode cL_finds 79 = .ok (.bipush 20, 2) := by decide +kernel
theorem dL_finds_81 : decode cL_finds 81 = .ok (.iconst 2, 1) := by decide +kernel
theorem dL_finds_82 : decode cL_finds 82 = .ok (.iconst 0, 1) := by decide +kernel
theorem dL_finds_83 : decode cL_finds 83 = .ok (.invokestatic 119, 3) := by decide +kernel
theorem dL_finds_86 : decode cL_finds 86 = .ok (.lconst 0, 1) := by decide +kernel
theorem dL_finds_87 : decode cL_finds 87 = .ok (.lcmp, 1) := by decide +kernel
theorem dL_finds_88 : decode cL_finds 88 = .ok (.ifCond .ne 7, 3) := by decide +kernel
theorem dL_finds_91 : decode cL_finds 91 = .ok (.iconst 1, 1) := by decide +kernel
theorem dL_finds_92 : decode cL_finds 92 = .ok (.goto 4, 3) := by decide +kernel
theorem dL_finds_95 : decode cL_finds 95 = .ok (.iconst 0, 1) := by decide +kernel
theorem dL_finds_96 : decode cL_finds 96 = .ok (.istore 7, 2) := by decide +kernel
theorem dL_finds_98 : decode cL_finds 98 = .ok (.aload_n 0, 1) := by decide +kernel
theorem dL_finds_99 : decode cL_finds 99 = .ok (.bipush 18, 2) := by decide +kernel
theorem dL_finds_101 : decode cL_finds 101 = .ok (.lload_n 1, 1) := by decide +kernel
theorem dL_finds_102 : decode cL_finds 102 = .ok (.iload_n 3, 1) := by decide +kernel
theorem dL_finds_103 : decode cL_finds 103 = .ok (.iconst 0, 1) := by decide +kernel
theorem dL_finds_104 : decode cL_finds 104 = .ok (.iconst 0, 1) := by decide +kernel
theorem dL_finds_105 : decode cL_finds 105 = .ok (.invokestatic 119, 3) := by decide +kernel
theorem dL_finds_108 : decode cL_finds 108 = .ok (.lstore 8, 2) := by decide +kernel
theorem dL_finds_110 : decode cL_finds 110 = .ok (.aload_n 0, 1) := by decide +kernel
theorem dL_finds_111 : decode cL_finds 111 = .ok (.bipush 18, 2) := by decide +kernel
theorem dL_finds_113 : decode cL_finds 113 = .ok (.lload_n 1, 1) := by decide +kernel
theorem dL_finds_114 : decode cL_finds 114 = .ok (.iload_n 3, 1) := by decide +kernel
theorem dL_finds_115 : decode cL_finds 115 = .ok (.iconst 1, 1) := by decide +kernel
theorem dL_finds_116 : decode cL_finds 116 = .ok (.iconst 0, 1) := by decide +kernel
theorem dL_finds_117 : decode cL_finds 117 = .ok (.invokestatic 119, 3) := by decide +kernel
theorem dL_finds_120 : decode cL_finds 120 = .ok (.lstore 10, 2) := by decide +kernel
theorem dL_finds_122 : decode cL_finds 122 = .ok (.aload_n 0, 1) := by decide +kernel
theorem dL_finds_123 : decode cL_finds 123 = .ok (.bipush 18, 2) := by decide +kernel
theorem dL_finds_125 : decode cL_finds 125 = .ok (.lload_n 1, 1) := by decide +kernel
theorem dL_finds_126 : decode cL_finds 126 = .ok (.iload_n 3, 1) := by decide +kernel
theorem dL_finds_127 : decode cL_finds 127 = .ok (.iconst 2, 1) := by decide +kernel
theorem dL_finds_128 : decode cL_finds 128 = .ok (.iconst 0, 1) := by decide +kernel
theorem dL_finds_129 : decode cL_finds 129 = .ok (.invokestatic 119, 3) := by decide +kernel
theorem dL_finds_132 : decode cL_finds 132 = .ok (.lstore 12, 2) := by decide +kernel
theorem dL_finds_134 : decode cL_finds 134 = .ok (.iload 7, 2) := by decide +kernel
theorem dL_finds_136 : decode cL_finds 136 = .ok (.lload 12, 2) := by decide +kernel
theorem dL_finds_138 : decode cL_finds 138 = .ok (.lconst 0, 1) := by decide +kernel
theorem dL_finds_139 : decode cL_finds 139 = .ok (.lcmp, 1) := by decide +kernel
theorem dL_finds_140 : decode cL_finds 140 = .ok (.ifCond .lt 34, 3) := by decide +kernel
theorem dL_finds_143 : decode cL_finds 143 = .ok (.lload 8, 2) := by decide +kernel
theorem dL_finds_145 : decode cL_finds 145 = .ok (.lconst 0, 1) := by decide +kernel
theorem dL_finds_146 : decode cL_finds 146 = .ok (.lcmp, 1) := by decide +kernel
theorem dL_finds_147 : decode cL_finds 147 = .ok (.ifCond .ge 7, 3) := by decide +kernel
theorem dL_finds_150 : decode cL_finds 150 = .ok (.iconst 1, 1) := by decide +kernel
theorem dL_finds_151 : decode cL_finds 151 = .ok (.goto 4, 3) := by decide +kernel
theorem dL_finds_154 : decode cL_finds 154 = .ok (.iconst 0, 1) := by decide +kernel
theorem dL_finds_155 : decode cL_finds 155 = .ok (.lload 10, 2) := by decide +kernel
theorem dL_finds_157 : decode cL_finds 157 = .ok (.lconst 0, 1) := by decide +kernel
theorem dL_finds_158 : decode cL_finds 158 = .ok (.lcmp, 1) := by decide +kernel
theorem dL_finds_159 : decode cL_finds 159 = .ok (.ifCond .ge 7, 3) := by decide +kernel
theorem dL_finds_162 : decode cL_finds 162 = .ok (.iconst 1, 1) := by decide +kernel
theorem dL_finds_163 : decode cL_finds 163 = .ok (.goto 4, 3) := by decide +kernel
theorem dL_finds_166 : decode cL_finds 166 = .ok (.iconst 0, 1) := by decide +kernel
theorem dL_finds_167 : decode cL_finds 167 = .ok (.if_icmp .ne 7, 3) := by decide +kernel
theorem dL_finds_170 : decode cL_finds 170 = .ok (.iconst 1, 1) := by decide +kernel
theorem dL_finds_171 : decode cL_finds 171 = .ok (.goto 4, 3) := by decide +kernel
theorem dL_finds_174 : decode cL_finds 174 = .ok (.iconst 0, 1) := by decide +kernel
theorem dL_finds_175 : decode cL_finds 175 = .ok (.iand, 1) := by decide +kernel
theorem dL_finds_176 : decode cL_finds 176 = .ok (.istore 7, 2) := by decide +kernel
theorem dL_finds_178 : decode cL_finds 178 = .ok (.iload 7, 2) := by decide +kernel
theorem dL_finds_180 : decode cL_finds 180 = .ok (.lload 8, 2) := by decide +kernel
theorem dL_finds_182 : decode cL_finds 182 = .ok (.lconst 0, 1) := by decide +kernel
theorem dL_finds_183 : decode cL_finds 183 = .ok (.lcmp, 1) := by decide +kernel
theorem dL_finds_184 : decode cL_finds 184 = .ok (.ifCond .lt 33, 3) := by decide +kernel
theorem dL_finds_187 : decode cL_finds 187 = .ok (.aload_n 0, 1) := by decide +kernel
theorem dL_finds_188 : decode cL_finds 188 = .ok (.bipush 15, 2) := by decide +kernel
theorem dL_finds_190 : decode cL_finds 190 = .ok (.lload 8, 2) := by decide +kernel
theorem dL_finds_192 : decode cL_finds 192 = .ok (.iconst 0, 1) := by decide +kernel
theorem dL_finds_193 : decode cL_finds 193 = .ok (.invokestatic 125, 3) := by decide +kernel
theorem dL_finds_196 : decode cL_finds 196 = .ok (.lload 5, 2) := by decide +kernel
theorem dL_finds_198 : decode cL_finds 198 = .ok (.lcmp, 1) := by decide +kernel
theorem dL_finds_199 : decode cL_finds 199 = .ok (.ifCond .lt 22, 3) := by decide +kernel
theorem dL_finds_202 : decode cL_finds 202 = .ok (.lload 10, 2) := by decide +kernel
theorem dL_finds_204 : decode cL_finds 204 = .ok (.aload_n 0, 1) := by decide +kernel
theorem dL_finds_205 : decode cL_finds 205 = .ok (.bipush 15, 2) := by decide +kernel
theorem dL_finds_207 : decode cL_finds 207 = .ok (.lload 8, 2) := by decide +kernel
theorem dL_finds_209 : decode cL_finds 209 = .ok (.iconst 0, 1) := by decide +kernel
theorem dL_finds_210 : decode cL_finds 210 = .ok (.invokestatic 125, 3) := by decide +kernel
theorem dL_finds_213 : decode cL_finds 213 = .ok (.lcmp, 1) := by decide +kernel
theorem dL_finds_214 : decode cL_finds 214 = .ok (.ifCond .lt 7, 3) := by decide +kernel
theorem dL_finds_217 : decode cL_finds 217 = .ok (.iconst 1, 1) := by decide +kernel
theorem dL_finds_218 : decode cL_finds 218 = .ok (.goto 4, 3) := by decide +kernel
theorem dL_finds_221 : decode cL_finds 221 = .ok (.iconst 0, 1) := by decide +kernel
theorem dL_finds_222 : decode cL_finds 222 = .ok (.iand, 1) := by decide +kernel
theorem dL_finds_223 : decode cL_finds 223 = .ok (.istore 7, 2) := by decide +kernel
theorem dL_finds_225 : decode cL_finds 225 = .ok (.iload 7, 2) := by decide +kernel
theorem dL_finds_227 : decode cL_finds 227 = .ok (.ifCond .eq 23, 3) := by decide +kernel
theorem dL_finds_230 : decode cL_finds 230 = .ok (.lload 12, 2) := by decide +kernel
theorem dL_finds_232 : decode cL_finds 232 = .ok (.lconst 0, 1) := by decide +kernel
theorem dL_finds_233 : decode cL_finds 233 = .ok (.lcmp, 1) := by decide +kernel
theorem dL_finds_234 : decode cL_finds 234 = .ok (.ifCond .gt 12, 3) := by decide +kernel
theorem dL_finds_237 : decode cL_finds 237 = .ok (.lload 8, 2) := by decide +kernel
theorem dL_finds_239 : decode cL_finds 239 = .ok (.iload 4, 2) := by decide +kernel
theorem dL_finds_241 : decode cL_finds 241 = .ok (.i2l, 1) := by decide +kernel
theorem dL_finds_242 : decode cL_finds 242 = .ok (.lcmp, 1) := by decide +kernel
theorem dL_finds_243 : decode cL_finds 243 = .ok (.ifCond .ne 7, 3) := by decide +kernel
theorem dL_finds_246 : decode cL_finds 246 = .ok (.iconst 1, 1) := by decide +kernel
theorem dL_finds_247 : decode cL_finds 247 = .ok (.goto 4, 3) := by decide +kernel
theorem dL_finds_250 : decode cL_finds 250 = .ok (.iconst 0, 1) := by decide +kernel
theorem dL_finds_251 : decode cL_finds 251 = .ok (.ireturn, 1) := by decide +kernel
noncomputable def J_L_finds_251 (s0 : Int) (st : z_St) : Option (Int × z_St) :=
  z_g (s0 = 0 ∨ s0 = 1) <|
  some (s0, st)
set_option maxRecDepth 100000 in
set_option maxHeartbeats 4000000 in
theorem w_L_finds_251 {κ : zK} {a : Nat → Nat} {s0 : Int} {st : z_St} {o : Int × z_St} (hc : z_C κ RL cL_finds 14 28 10 (6 * 10)) (hap : z_AP κ a z_N) (he : z_EU 0 10 κ (some .boolean) z_T z_N a o.1 o.2) (h : J_L_finds_251 s0 st = some o) : z_V κ z_T z_N a 10 (6 * 10) 251 [] [.int (zI s0)] st := by
  unfold J_L_finds_251 at h
  obtain ⟨hz, h⟩ := z_g_some h
  have h := Option.some.inj h
  subst h
  exact z_retUZ hc he hz dL_finds_251
noncomputable def J_L_finds_250 (st : z_St) : Option (Int × z_St) :=
  J_L_finds_251 0 st
set_option maxRecDepth 100000 in
set_option maxHeartbeats 4000000 in
theorem w_L_finds_250 {κ : zK} {a : Nat → Nat} {st : z_St} {o : Int × z_St} (hc : z_C κ RL cL_finds 14 28 10 (6 * 10)) (hap : z_AP κ a z_N) (he : z_EU 0 10 κ (some .boolean) z_T z_N a o.1 o.2) (h : J_L_finds_250 st = some o) : z_V κ z_T z_N a 10 (6 * 10) 250 [] [] st := by
  unfold J_L_finds_250 at h
  refine z_iconst hc dL_finds_250 ?_
  refine z_sub [] [] rfl ?_
  exact w_L_finds_251 hc hap he h
noncomputable def J_L_finds_246 (st : z_St) : Option (Int × z_St) :=
  J_L_finds_251 1 st
set_option maxRecDepth 100000 in
set_option maxHeartbeats 4000000 in
theorem w_L_finds_246 {κ : zK} {a : Nat → Nat} {st : z_St} {o : Int × z_St} (hc : z_C κ RL cL_finds 14 28 10 (6 * 10)) (hap : z_AP κ a z_N) (he : z_EU 0 10 κ (some .boolean) z_T z_N a o.1 o.2) (h : J_L_finds_246 st = some o) : z_V κ z_T z_N a 10 (6 * 10) 246 [] [] st := by
  unfold J_L_finds_246 at h
  refine z_iconst hc dL_finds_246 ?_
  refine z_goto (tgt := 251) hc dL_finds_247 (by decide) ?_
  refine z_sub [] [] rfl ?_
  exact w_L_finds_251 hc hap he h
noncomputable def J_L_finds_222 (v4 v8 v12 s0 s1 : Int) (st : z_St) : Option (Int × z_St) :=
  z_g (z32 (z_iand s1 s0)) (if z_iand s1 s0 = 0 then
    J_L_finds_250 st
  else
    z_g (z64 v12 ∧ z64 0) (if 0 < v12 then
      J_L_finds_246 st
    else
      z_g (z32 v4) <|
      z_g (z64 v8 ∧ z64 v4) (if v8 = v4 then
        J_L_finds_246 st
      else
        J_L_finds_250 st)))
set_option maxRecDepth 100000 in
set_option maxHeartbeats 4000000 in
theorem w_L_finds_222 {κ : zK} {a : Nat → Nat} {v4 v8 v12 s0 s1 : Int} {st : z_St} {o : Int × z_St} (hc : z_C κ RL cL_finds 14 28 10 (6 * 10)) (hap : z_AP κ a z_N) (he : z_EU 0 10 κ (some .boolean) z_T z_N a o.1 o.2) (h : J_L_finds_222 v4 v8 v12 s0 s1 st = some o) : z_V κ z_T z_N a 10 (6 * 10) 222 [(4, .int (zI v4)), (8, .long (zJ v8)), (12, .long (zJ v12))] [.int (zI s0), .int (zI s1)] st := by
  unfold J_L_finds_222 at h
  refine z_iand_r hc dL_finds_222 ?_
  refine z_istore [(7, .int (zI (z_iand s1 s0))), (4, .int (zI v4)), (8, .long (zJ v8)), (12, .long (zJ v12))] hc dL_finds_223 (by decide) rfl ?_
  refine z_iload 0 hc dL_finds_225 rfl ?_
  refine z_if_eq (tgt := 250) hc dL_finds_227 (by decide) h (fun c227 h => ?_) (fun c227 h => ?_)
  · refine z_sub [] [] rfl ?_
    exact w_L_finds_250 hc hap he h
  · refine z_lload 3 hc dL_finds_230 rfl ?_
    refine z_lconst 0 hc dL_finds_232 rfl ?_
    refine z_lcmp_gt (tgt := 246) hc dL_finds_233 dL_finds_234 (by decide) h (fun c233 h => ?_) (fun c233 h => ?_)
    · refine z_sub [] [] rfl ?_
      exact w_L_finds_246 hc hap he h
    · refine z_lload 2 hc dL_finds_237 rfl ?_
      refine z_iload 1 hc dL_finds_239 rfl ?_
      refine z_i2l hc dL_finds_241 h (fun h => ?_)
      refine z_lcmp_ne (tgt := 250) hc dL_finds_242 dL_finds_243 (by decide) h (fun c242 h => ?_) (fun c242 h => ?_)
      · refine z_sub [] [] rfl ?_
        exact w_L_finds_246 hc hap he h
      · refine z_sub [] [] rfl ?_
        exact w_L_finds_250 hc hap he h
noncomputable def J_L_finds_217 (v4 v8 v12 s0 : Int) (st : z_St) : Option (Int × z_St) :=
  J_L_finds_222 v4 v8 v12 1 s0 st
set_option maxRecDepth 100000 in
set_option maxHeartbeats 4000000 in
theorem w_L_finds_217 {κ : zK} {a : Nat → Nat} {v4 v8 v12 s0 : Int} {st : z_St} {o : Int × z_St} (hc : z_C κ RL cL_finds 14 28 10 (6 * 10)) (hap : z_AP κ a z_N) (he : z_EU 0 10 κ (some .boolean) z_T z_N a o.1 o.2) (h : J_L_finds_217 v4 v8 v12 s0 st = some o) : z_V κ z_T z_N a 10 (6 * 10) 217 [(4, .int (zI v4)), (8, .long (zJ v8)), (12, .long (zJ v12))] [.int (zI s0)] st := by
  unfold J_L_finds_217 at h
  refine z_iconst hc dL_finds_217 ?_
  refine z_goto (tgt := 222) hc dL_finds_218 (by decide) ?_
  refine z_sub [(4, .int (zI v4)), (8, .long (zJ v8)), (12, .long (zJ v12))] [0, 1, 2] rfl ?_
  exact w_L_finds_222 hc hap he h
noncomputable def J_L_finds_221 (v4 v8 v12 s0 : Int) (st : z_St) : Option (Int × z_St) :=
  J_L_finds_222 v4 v8 v12 0 s0 st
set_option maxRecDepth 100000 in
set_option maxHeartbeats 4000000 in
theorem w_L_finds_221 {κ : zK} {a : Nat → Nat} {v4 v8 v12 s0 : Int} {st : z_St} {o : Int × z_St} (hc : z_C κ RL cL_finds 14 28 10 (6 * 10)) (hap : z_AP κ a z_N) (he : z_EU 0 10 κ (some .boolean) z_T z_N a o.1 o.2) (h : J_L_finds_221 v4 v8 v12 s0 st = some o) : z_V κ z_T z_N a 10 (6 * 10) 221 [(4, .int (zI v4)), (8, .long (zJ v8)), (12, .long (zJ v12))] [.int (zI s0)] st := by
  unfold J_L_finds_221 at h
  refine z_iconst hc dL_finds_221 ?_
  refine z_sub [(4, .int (zI v4)), (8, .long (zJ v8)), (12, .long (zJ v12))] [0, 1, 2] rfl ?_
  exact w_L_finds_222 hc hap he h
noncomputable def J_L_finds_175 (v4 v5 v8 v10 v12 s0 s1 : Int) (st : z_St) : Option (Int × z_St) :=
  z_g (z64 v8 ∧ z64 0) (if v8 < 0 then
    J_L_finds_217 v4 v8 v12 (z_iand s1 s0) st
  else
    z_b (J_L_ask 15 v8 0 st) fun r8 =>
    z_g (z64 r8.1 ∧ z64 v5) (if r8.1 < v5 then
      J_L_finds_221 v4 v8 v12 (z_iand s1 s0) r8.2
    else
      z_b (J_L_ask 15 v8 0 r8.2) fun r9 =>
      z_g (z64 v10 ∧ z64 r9.1) (if v10 < r9.1 then
        J_L_finds_221 v4 v8 v12 (z_iand s1 s0) r9.2
      else
        J_L_finds_217 v4 v8 v12 (z_iand s1 s0) r9.2)))
set_option maxRecDepth 100000 in
set_option maxHeartbeats 4000000 in
theorem w_L_finds_175 {κ : zK} {a : Nat → Nat} {v4 v5 v8 v10 v12 s0 s1 : Int} {st : z_St} {o : Int × z_St} (hc : z_C κ RL cL_finds 14 28 10 (6 * 10)) (hap : z_AP κ a z_N) (he : z_EU 0 10 κ (some .boolean) z_T z_N a o.1 o.2) (h : J_L_finds_175 v4 v5 v8 v10 v12 s0 s1 st = some o) : z_V κ z_T z_N a 8 (6 * 8) 175 [(0, .ref (a 0)), (4, .int (zI v4)), (5, .long (zJ v5)), (8, .long (zJ v8)), (10, .long (zJ v10)), (12, .long (zJ v12))] [.int (zI s0), .int (zI s1)] st := by
  unfold J_L_finds_175 at h
  refine z_iand_r hc dL_finds_175 ?_
  refine z_istore [(7, .int (zI (z_iand s1 s0))), (0, .ref (a 0)), (4, .int (zI v4)), (5, .long (zJ v5)), (8, .long (zJ v8)), (10, .long (zJ v10)), (12, .long (zJ v12))] hc dL_finds_176 (by decide) rfl ?_
  refine z_iload 0 hc dL_finds_178 rfl ?_
  refine z_lload 4 hc dL_finds_180 rfl ?_
  refine z_lconst 0 hc dL_finds_182 rfl ?_
  refine z_lcmp_lt (tgt := 217) hc dL_finds_183 dL_finds_184 (by decide) h (fun c183 h => ?_) (fun c183 h => ?_)
  · refine z_sub [(4, .int (zI v4)), (8, .long (zJ v8)), (12, .long (zJ v12))] [2, 4, 6] rfl ?_
    refine z_wide (cells' := 10) (slots' := 6 * 10) (Nat.le_of_ble_eq_true rfl) (Nat.le_of_ble_eq_true rfl) ?_
    exact w_L_finds_217 hc hap he h
  · refine z_aload_n (i := 0) 1 hc dL_finds_187 rfl rfl ?_
    refine z_bipush hc dL_finds_188 rfl ?_
    refine z_lload 4 hc dL_finds_190 rfl ?_
    refine z_iconst hc dL_finds_192 ?_
    obtain ⟨r8, hr8, h⟩ := z_b_some h
    refine z_callUJ 9 (6 * 9) (mu := 1) [.ref (a 0), .int (zI 15), .long (zJ v8), .int (zI 0)] hc hap o_L_ask ml_RL_125 (fun l hl => c_L_ask hl hr8) (by decide) rfl rfl (Nat.le_of_ble_eq_true rfl) (by omega) (by omega) (by omega) (by omega) dL_finds_193 ?_
    refine z_lload 3 hc dL_finds_196 rfl ?_
    refine z_lcmp_lt (tgt := 221) hc dL_finds_198 dL_finds_199 (by decide) h (fun c198 h => ?_) (fun c198 h => ?_)
    · refine z_sub [(4, .int (zI v4)), (8, .long (zJ v8)), (12, .long (zJ v12))] [2, 4, 6] rfl ?_
      refine z_wide (cells' := 10) (slots' := 6 * 10) (Nat.le_of_ble_eq_true rfl) (Nat.le_of_ble_eq_true rfl) ?_
      exact w_L_finds_221 hc hap he h
    · refine z_lload 5 hc dL_finds_202 rfl ?_
      refine z_aload_n (i := 0) 1 hc dL_finds_204 rfl rfl ?_
      refine z_bipush hc dL_finds_205 rfl ?_
      refine z_lload 4 hc dL_finds_207 rfl ?_
      refine z_iconst hc dL_finds_209 ?_
      obtain ⟨r9, hr9, h⟩ := z_b_some h
      refine z_callUJ 10 (6 * 10) (mu := 1) [.ref (a 0), .int (zI 15), .long (zJ v8), .int (zI 0)] hc hap o_L_ask ml_RL_125 (fun l hl => c_L_ask hl hr9) (by decide) rfl rfl (Nat.le_of_ble_eq_true rfl) (by omega) (by omega) (by omega) (by omega) dL_finds_210 ?_
      refine z_lcmp_lt (tgt := 221) hc dL_finds_213 dL_finds_214 (by decide) h (fun c213 h => ?_) (fun c213 h => ?_)
      · refine z_sub [(4, .int (zI v4)), (8, .long (zJ v8)), (12, .long (zJ v12))] [2, 4, 6] rfl ?_
        exact w_L_finds_221 hc hap he h
      · refine z_sub [(4, .int (zI v4)), (8, .long (zJ v8)), (12, .long (zJ v12))] [2, 4, 6] rfl ?_
        exact w_L_finds_217 hc hap he h
noncomputable def J_L_finds_174 (v4 v5 v8 v10 v12 s0 : Int) (st : z_St) : Option (Int × z_St) :=
  J_L_finds_175 v4 v5 v8 v10 v12 0 s0 st
set_option maxRecDepth 100000 in
set_option maxHeartbeats 4000000 in
theorem w_L_finds_174 {κ : zK} {a : Nat → Nat} {v4 v5 v8 v10 v12 s0 : Int} {st : z_St} {o : Int × z_St} (hc : z_C κ RL cL_finds 14 28 10 (6 * 10)) (hap : z_AP κ a z_N) (he : z_EU 0 10 κ (some .boolean) z_T z_N a o.1 o.2) (h : J_L_finds_174 v4 v5 v8 v10 v12 s0 st = some o) : z_V κ z_T z_N a 8 (6 * 8) 174 [(0, .ref (a 0)), (4, .int (zI v4)), (5, .long (zJ v5)), (8, .long (zJ v8)), (10, .long (zJ v10)), (12, .long (zJ v12))] [.int (zI s0)] st := by
  unfold J_L_finds_174 at h
  refine z_iconst hc dL_finds_174 ?_
  refine z_sub [(0, .ref (a 0)), (4, .int (zI v4)), (5, .long (zJ v5)), (8, .long (zJ v8)), (10, .long (zJ v10)), (12, .long (zJ v12))] [0, 1, 2, 3, 4, 5] rfl ?_
  exact w_L_finds_175 hc hap he h
noncomputable def J_L_finds_167 (v4 v5 v8 v10 v12 s0 s1 s2 : Int) (st : z_St) : Option (Int × z_St) :=
  z_g (z32 s1 ∧ z32 s0) (if s1 = s0 then
    J_L_finds_175 v4 v5 v8 v10 v12 1 s2 st
  else
    J_L_finds_174 v4 v5 v8 v10 v12 s2 st)
set_option maxRecDepth 100000 in
set_option maxHeartbeats 4000000 in
theorem w_L_finds_167 {κ : zK} {a : Nat → Nat} {v4 v5 v8 v10 v12 s0 s1 s2 : Int} {st : z_St} {o : Int × z_St} (hc : z_C κ RL cL_finds 14 28 10 (6 * 10)) (hap : z_AP κ a z_N) (he : z_EU 0 10 κ (some .boolean) z_T z_N a o.1 o.2) (h : J_L_finds_167 v4 v5 v8 v10 v12 s0 s1 s2 st = some o) : z_V κ z_T z_N a 8 (6 * 8) 167 [(0, .ref (a 0)), (4, .int (zI v4)), (5, .long (zJ v5)), (8, .long (zJ v8)), (10, .long (zJ v10)), (12, .long (zJ v12))] [.int (zI s0), .int (zI s1), .int (zI s2)] st := by
  unfold J_L_finds_167 at h
  refine z_icmp_ne (tgt := 174) hc dL_finds_167 (by decide) h (fun c167 h => ?_) (fun c167 h => ?_)
  · refine z_iconst hc dL_finds_170 ?_
    refine z_goto (tgt := 175) hc dL_finds_171 (by decide) ?_
    refine z_sub [(0, .ref (a 0)), (4, .int (zI v4)), (5, .long (zJ v5)), (8, .long (zJ v8)), (10, .long (zJ v10)), (12, .long (zJ v12))] [0, 1, 2, 3, 4, 5] rfl ?_
    exact w_L_finds_175 hc hap he h
  · refine z_sub [(0, .ref (a 0)), (4, .int (zI v4)), (5, .long (zJ v5)), (8, .long (zJ v8)), (10, .long (zJ v10)), (12, .long (zJ v12))] [0, 1, 2, 3, 4, 5] rfl ?_
    exact w_L_finds_174 hc hap he h
noncomputable def J_L_finds_155 (v4 v5 v8 v10 v12 s0 s1 : Int) (st : z_St) : Option (Int × z_St) :=
  z_g (z64 v10 ∧ z64 0) (if v10 < 0 then
    J_L_finds_167 v4 v5 v8 v10 v12 1 s0 s1 st
  else
    J_L_finds_167 v4 v5 v8 v10 v12 0 s0 s1 st)
set_option maxRecDepth 100000 in
set_option maxHeartbeats 4000000 in
theorem w_L_finds_155 {κ : zK} {a : Nat → Nat} {v4 v5 v8 v10 v12 s0 s1 : Int} {st : z_St} {o : Int × z_St} (hc : z_C κ RL cL_finds 14 28 10 (6 * 10)) (hap : z_AP κ a z_N) (he : z_EU 0 10 κ (some .boolean) z_T z_N a o.1 o.2) (h : J_L_finds_155 v4 v5 v8 v10 v12 s0 s1 st = some o) : z_V κ z_T z_N a 8 (6 * 8) 155 [(0, .ref (a 0)), (4, .int (zI v4)), (5, .long (zJ v5)), (8, .long (zJ v8)), (10, .long (zJ v10)), (12, .long (zJ v12))] [.int (zI s0), .int (zI s1)] st := by
  unfold J_L_finds_155 at h
  refine z_lload 4 hc dL_finds_155 rfl ?_
  refine z_lconst 0 hc dL_finds_157 rfl ?_
  refine z_lcmp_ge (tgt := 166) hc dL_finds_158 dL_finds_159 (by decide) h (fun c158 h => ?_) (fun c158 h => ?_)
  · refine z_iconst hc dL_finds_162 ?_
    refine z_goto (tgt := 167) hc dL_finds_163 (by decide) ?_
    refine z_sub [(0, .ref (a 0)), (4, .int (zI v4)), (5, .long (zJ v5)), (8, .long (zJ v8)), (10, .long (zJ v10)), (12, .long (zJ v12))] [0, 1, 2, 3, 4, 5] rfl ?_
    exact w_L_finds_167 hc hap he h
  · refine z_iconst hc dL_finds_166 ?_
    refine z_sub [(0, .ref (a 0)), (4, .int (zI v4)), (5, .long (zJ v5)), (8, .long (zJ v8)), (10, .long (zJ v10)), (12, .long (zJ v12))] [0, 1, 2, 3, 4, 5] rfl ?_
    exact w_L_finds_167 hc hap he h
noncomputable def J_L_finds_96 (v1 v3 v4 v5 s0 : Int) (st : z_St) : Option (Int × z_St) :=
  z_b (J_L_does 18 v1 v3 0 0 st) fun r5 =>
  z_b (J_L_does 18 v1 v3 1 0 r5.2) fun r6 =>
  z_b (J_L_does 18 v1 v3 2 0 r6.2) fun r7 =>
  z_g (z64 r7.1 ∧ z64 0) (if r7.1 < 0 then
    J_L_finds_174 v4 v5 r5.1 r6.1 r7.1 s0 r7.2
  else
    z_g (z64 r5.1 ∧ z64 0) (if r5.1 < 0 then
      J_L_finds_155 v4 v5 r5.1 r6.1 r7.1 1 s0 r7.2
    else
      J_L_finds_155 v4 v5 r5.1 r6.1 r7.1 0 s0 r7.2))
set_option maxRecDepth 100000 in
set_option maxHeartbeats 4000000 in
theorem w_L_finds_96 {κ : zK} {a : Nat → Nat} {v1 v3 v4 v5 s0 : Int} {st : z_St} {o : Int × z_St} (hc : z_C κ RL cL_finds 14 28 10 (6 * 10)) (hap : z_AP κ a z_N) (he : z_EU 0 10 κ (some .boolean) z_T z_N a o.1 o.2) (h : J_L_finds_96 v1 v3 v4 v5 s0 st = some o) : z_V κ z_T z_N a 5 (6 * 5) 96 [(0, .ref (a 0)), (1, .long (zJ v1)), (3, .int (zI v3)), (4, .int (zI v4)), (5, .long (zJ v5))] [.int (zI s0)] st := by
  unfold J_L_finds_96 at h
  refine z_istore [(7, .int (zI s0)), (0, .ref (a 0)), (1, .long (zJ v1)), (3, .int (zI v3)), (4, .int (zI v4)), (5, .long (zJ v5))] hc dL_finds_96 (by decide) rfl ?_
  refine z_aload_n (i := 0) 1 hc dL_finds_98 rfl rfl ?_
  refine z_bipush hc dL_finds_99 rfl ?_
  refine z_lload_n (i := 1) 2 hc dL_finds_101 rfl rfl ?_
  refine z_iload_n (i := 3) 3 hc dL_finds_102 rfl rfl ?_
  refine z_iconst hc dL_finds_103 ?_
  refine z_iconst hc dL_finds_104 ?_
  obtain ⟨r5, hr5, h⟩ := z_b_some h
  refine z_callHJ 6 (6 * 6) (mu := 1) (np := 6) [.ref (a 0), .int (zI 18), .long (zJ v1), .int (zI v3), .int (zI 0), .int (zI 0)] hc hap kL_does ml_RL_119 (z_t2 168 rfl rfl) (z_t1 0 rfl rfl) (by decide +kernel) (by decide) (fun l hl => c_L_does hl hr5) (by decide) rfl rfl (Nat.le_of_ble_eq_true rfl) (by omega) (by omega) (by omega) (by omega) dL_finds_105 ?_
  refine z_lstore [(8, .long (zJ r5.1)), (7, .int (zI s0)), (0, .ref (a 0)), (1, .long (zJ v1)), (3, .int (zI v3)), (4, .int (zI v4)), (5, .long (zJ v5))] hc dL_finds_108 (by decide) rfl ?_
  refine z_aload_n (i := 0) 2 hc dL_finds_110 rfl rfl ?_
  refine z_bipush hc dL_finds_111 rfl ?_
  refine z_lload_n (i := 1) 3 hc dL_finds_113 rfl rfl ?_
  refine z_iload_n (i := 3) 4 hc dL_finds_114 rfl rfl ?_
  refine z_iconst hc dL_finds_115 ?_
  refine z_iconst hc dL_finds_116 ?_
  obtain ⟨r6, hr6, h⟩ := z_b_some h
  refine z_callHJ 7 (6 * 7) (mu := 1) (np := 6) [.ref (a 0), .int (zI 18), .long (zJ v1), .int (zI v3), .int (zI 1), .int (zI 0)] hc hap kL_does ml_RL_119 (z_t2 168 rfl rfl) (z_t1 0 rfl rfl) (by decide +kernel) (by decide) (fun l hl => c_L_does hl hr6) (by decide) rfl rfl (Nat.le_of_ble_eq_true rfl) (by omega) (by omega) (by omega) (by omega) dL_finds_117 ?_
  refine z_lstore [(10, .long (zJ r6.1)), (8, .long (zJ r5.1)), (7, .int (zI s0)), (0, .ref (a 0)), (1, .long (zJ v1)), (3, .int (zI v3)), (4, .int (zI v4)), (5, .long (zJ v5))] hc dL_finds_120 (by decide) rfl ?_
  refine z_aload_n (i := 0) 3 hc dL_finds_122 rfl rfl ?_
  refine z_bipush hc dL_finds_123 rfl ?_
  refine z_lload_n (i := 1) 4 hc dL_finds_125 rfl rfl ?_
  refine z_iload_n (i := 3) 5 hc dL_finds_126 rfl rfl ?_
  refine z_iconst hc dL_finds_127 ?_
  refine z_iconst hc dL_finds_128 ?_
  obtain ⟨r7, hr7, h⟩ := z_b_some h
  refine z_callHJ 8 (6 * 8) (mu := 1) (np := 6) [.ref (a 0), .int (zI 18), .long (zJ v1), .int (zI v3), .int (zI 2), .int (zI 0)] hc hap kL_does ml_RL_119 (z_t2 168 rfl rfl) (z_t1 0 rfl rfl) (by decide +kernel) (by decide) (fun l hl => c_L_does hl hr7) (by decide) rfl rfl (Nat.le_of_ble_eq_true rfl) (by omega) (by omega) (by omega) (by omega) dL_finds_129 ?_
  refine z_lstore [(12, .long (zJ r7.1)), (10, .long (zJ r6.1)), (8, .long (zJ r5.1)), (7, .int (zI s0)), (0, .ref (a 0)), (1, .long (zJ v1)), (3, .int (zI v3)), (4, .int (zI v4)), (5, .long (zJ v5))] hc dL_finds_132 (by decide) rfl ?_
  refine z_iload 3 hc dL_finds_134 rfl ?_
  refine z_lload 0 hc dL_finds_136 rfl ?_
  refine z_lconst 0 hc dL_finds_138 rfl ?_
  refine z_lcmp_lt (tgt := 174) hc dL_finds_139 dL_finds_140 (by decide) h (fun c139 h => ?_) (fun c139 h => ?_)
  · refine z_sub [(0, .ref (a 0)), (4, .int (zI v4)), (5, .long (zJ v5)), (8, .long (zJ r5.1)), (10, .long (zJ r6.1)), (12, .long (zJ r7.1))] [4, 7, 8, 2, 1, 0] rfl ?_
    exact w_L_finds_174 hc hap he h
  · refine z_lload 2 hc dL_finds_143 rfl ?_
    refine z_lconst 0 hc dL_finds_145 rfl ?_
    refine z_lcmp_ge (tgt := 154) hc dL_finds_146 dL_finds_147 (by decide) h (fun c146 h => ?_) (fun c146 h => ?_)
    · refine z_iconst hc dL_finds_150 ?_
      refine z_goto (tgt := 155) hc dL_finds_151 (by decide) ?_
      refine z_sub [(0, .ref (a 0)), (4, .int (zI v4)), (5, .long (zJ v5)), (8, .long (zJ r5.1)), (10, .long (zJ r6.1)), (12, .long (zJ r7.1))] [4, 7, 8, 2, 1, 0] rfl ?_
      exact w_L_finds_155 hc hap he h
    · refine z_iconst hc dL_finds_154 ?_
      refine z_sub [(0, .ref (a 0)), (4, .int (zI v4)), (5, .long (zJ v5)), (8, .long (zJ r5.1)), (10, .long (zJ r6.1)), (12, .long (zJ r7.1))] [4, 7, 8, 2, 1, 0] rfl ?_
      exact w_L_finds_155 hc hap he h
noncomputable def J_L_finds_95 (v1 v3 v4 v5 : Int) (st : z_St) : Option (Int × z_St) :=
  J_L_finds_96 v1 v3 v4 v5 0 st
set_option maxRecDepth 100000 in
set_option maxHeartbeats 4000000 in
theorem w_L_finds_95 {κ : zK} {a : Nat → Nat} {v1 v3 v4 v5 : Int} {st : z_St} {o : Int × z_St} (hc : z_C κ RL cL_finds 14 28 10 (6 * 10)) (hap : z_AP κ a z_N) (he : z_EU 0 10 κ (some .boolean) z_T z_N a o.1 o.2) (h : J_L_finds_95 v1 v3 v4 v5 st = some o) : z_V κ z_T z_N a 5 (6 * 5) 95 [(0, .ref (a 0)), (1, .long (zJ v1)), (3, .int (zI v3)), (4, .int (zI v4)), (5, .long (zJ v5))] [] st := by
  unfold J_L_finds_95 at h
  refine z_iconst hc dL_finds_95 ?_
  refine z_sub [(0, .ref (a 0)), (1, .long (zJ v1)), (3, .int (zI v3)), (4, .int (zI v4)), (5, .long (zJ v5))] [0, 1, 2, 3, 4] rfl ?_
  exact w_L_finds_96 hc hap he h
noncomputable def J_L_finds_32 (v1 v3 v4 s0 : Int) (st : z_St) : Option (Int × z_St) :=
  z_b (J_L_does 18 900000000000000000 20 0 0 st) fun r2 =>
  z_g (z32 v4) <|
  z_g (z64 r2.1 ∧ z64 v4) (if r2.1 = v4 then
    z_b (J_L_does 18 900000000000000000 20 1 0 r2.2) fun r3 =>
    z_g (z64 r3.1 ∧ z64 s0) (if r3.1 = s0 then
      z_b (J_L_does 18 900000000000000000 20 2 0 r3.2) fun r4 =>
      z_g (z64 r4.1 ∧ z64 0) (if r4.1 = 0 then
        J_L_finds_96 v1 v3 v4 s0 1 r4.2
      else
        J_L_finds_95 v1 v3 v4 s0 r4.2)
    else
      J_L_finds_95 v1 v3 v4 s0 r3.2)
  else
    J_L_finds_95 v1 v3 v4 s0 r2.2)
set_option maxRecDepth 100000 in
set_option maxHeartbeats 4000000 in
theorem w_L_finds_32 {κ : zK} {a : Nat → Nat} {v1 v3 v4 s0 : Int} {st : z_St} {o : Int × z_St} (hc : z_C κ RL cL_finds 14 28 10 (6 * 10)) (hap : z_AP κ a z_N) (he : z_EU 0 10 κ (some .boolean) z_T z_N a o.1 o.2) (h : J_L_finds_32 v1 v3 v4 s0 st = some o) : z_V κ z_T z_N a 2 (6 * 2) 32 [(0, .ref (a 0)), (1, .long (zJ v1)), (3, .int (zI v3)), (4, .int (zI v4))] [.long (zJ s0)] st := by
  unfold J_L_finds_32 at h
  refine z_lstore [(5, .long (zJ s0)), (0, .ref (a 0)), (1, .long (zJ v1)), (3, .int (zI v3)), (4, .int (zI v4))] hc dL_finds_32 (by decide) rfl ?_
  refine z_aload_n (i := 0) 1 hc dL_finds_34 rfl rfl ?_
  refine z_bipush hc dL_finds_35 rfl ?_
  refine z_ldc2 900000000000000000 hc kc_RL_139 dL_finds_37 rfl ?_
  refine z_bipush hc dL_finds_40 rfl ?_
  refine z_iconst hc dL_finds_42 ?_
  refine z_iconst hc dL_finds_43 ?_
  obtain ⟨r2, hr2, h⟩ := z_b_some h
  refine z_callHJ 3 (6 * 3) (mu := 1) (np := 6) [.ref (a 0), .int (zI 18), .long (zJ 900000000000000000), .int (zI 20), .int (zI 0), .int (zI 0)] hc hap kL_does ml_RL_119 (z_t2 168 rfl rfl) (z_t1 0 rfl rfl) (by decide +kernel) (by decide) (fun l hl => c_L_does hl hr2) (by decide) rfl rfl (Nat.le_of_ble_eq_true rfl) (by omega) (by omega) (by omega) (by omega) dL_finds_44 ?_
  refine z_iload 4 hc dL_finds_47 rfl ?_
  refine z_i2l hc dL_finds_49 h (fun h => ?_)
  refine z_lcmp_ne (tgt := 95) hc dL_finds_50 dL_finds_51 (by decide) h (fun c50 h => ?_) (fun c50 h => ?_)
  · refine z_aload_n (i := 0) 1 hc dL_finds_54 rfl rfl ?_
    refine z_bipush hc dL_finds_55 rfl ?_
    refine z_ldc2 900000000000000000 hc kc_RL_139 dL_finds_57 rfl ?_
    refine z_bipush hc dL_finds_60 rfl ?_
    refine z_iconst hc dL_finds_62 ?_
    refine z_iconst hc dL_finds_63 ?_
    obtain ⟨r3, hr3, h⟩ := z_b_some h
    refine z_callHJ 4 (6 * 4) (mu := 1) (np := 6) [.ref (a 0), .int (zI 18), .long (zJ 900000000000000000), .int (zI 20), .int (zI 1), .int (zI 0)] hc hap kL_does ml_RL_119 (z_t2 168 rfl rfl) (z_t1 0 rfl rfl) (by decide +kernel) (by decide) (fun l hl => c_L_does hl hr3) (by decide) rfl rfl (Nat.le_of_ble_eq_true rfl) (by omega) (by omega) (by omega) (by omega) dL_finds_64 ?_
    refine z_lload 0 hc dL_finds_67 rfl ?_
    refine z_lcmp_ne (tgt := 95) hc dL_finds_69 dL_finds_70 (by decide) h (fun c69 h => ?_) (fun c69 h => ?_)
    · refine z_aload_n (i := 0) 1 hc dL_finds_73 rfl rfl ?_
      refine z_bipush hc dL_finds_74 rfl ?_
      refine z_ldc2 900000000000000000 hc kc_RL_139 dL_finds_76 rfl ?_
      refine z_bipush hc dL_finds_79 rfl ?_
      refine z_iconst hc dL_finds_81 ?_
      refine z_iconst hc dL_finds_82 ?_
      obtain ⟨r4, hr4, h⟩ := z_b_some h
      refine z_callHJ 5 (6 * 5) (mu := 1) (np := 6) [.ref (a 0), .int (zI 18), .long (zJ 900000000000000000), .int (zI 20), .int (zI 2), .int (zI 0)] hc hap kL_does ml_RL_119 (z_t2 168 rfl rfl) (z_t1 0 rfl rfl) (by decide +kernel) (by decide) (fun l hl => c_L_does hl hr4) (by decide) rfl rfl (Nat.le_of_ble_eq_true rfl) (by omega) (by omega) (by omega) (by omega) dL_finds_83 ?_
      refine z_lconst 0 hc dL_finds_86 rfl ?_
      refine z_lcmp_ne (tgt := 95) hc dL_finds_87 dL_finds_88 (by decide) h (fun c87 h => ?_) (fun c87 h => ?_)
      · refine z_iconst hc dL_finds_91 ?_
        refine z_goto (tgt := 96) hc dL_finds_92 (by decide) ?_
        refine z_sub [(0, .ref (a 0)), (1, .long (zJ v1)), (3, .int (zI v3)), (4, .int (zI v4)), (5, .long (zJ s0))] [1, 2, 3, 4, 0] rfl ?_
        exact w_L_finds_96 hc hap he h
      · refine z_sub [(0, .ref (a 0)), (1, .long (zJ v1)), (3, .int (zI v3)), (4, .int (zI v4)), (5, .long (zJ s0))] [1, 2, 3, 4, 0] rfl ?_
        exact w_L_finds_95 hc hap he h
    · refine z_sub [(0, .ref (a 0)), (1, .long (zJ v1)), (3, .int (zI v3)), (4, .int (zI v4)), (5, .long (zJ s0))] [1, 2, 3, 4, 0] rfl ?_
      refine z_wide (cells' := 5) (slots' := 6 * 5) (Nat.le_of_ble_eq_true rfl) (Nat.le_of_ble_eq_true rfl) ?_
      exact w_L_finds_95 hc hap he h
  · refine z_sub [(0, .ref (a 0)), (1, .long (zJ v1)), (3, .int (zI v3)), (4, .int (zI v4)), (5, .long (zJ s0))] [1, 2, 3, 4, 0] rfl ?_
    refine z_wide (cells' := 5) (slots' := 6 * 5) (Nat.le_of_ble_eq_true rfl) (Nat.le_of_ble_eq_true rfl) ?_
    exact w_L_finds_95 hc hap he h
noncomputable def J_L_finds (x1 x3 : Int) (st : z_St) : Option (Int × z_St) :=
  z_b (J_L_ask 17 0 0 st) fun r1 =>
  z_g (z32 r1.1) (if r1.1 < 0 then
    J_L_finds_32 x1 x3 r1.1 (-1) r1.2
  else
    z_g (z32 r1.1) <|
    z_b (J_L_ask 15 r1.1 0 r1.2) fun r10 =>
    J_L_finds_32 x1 x3 r1.1 r10.1 r10.2)
set_option maxRecDepth 100000 in
set_option maxHeartbeats 4000000 in
theorem w_L_finds {κ : zK} {a : Nat → Nat} {x1 x3 : Int} {st : z_St} {o : Int × z_St} (hc : z_C κ RL cL_finds 14 28 10 (6 * 10)) (hap : z_AP κ a z_N) (he : z_EU 0 10 κ (some .boolean) z_T z_N a o.1 o.2) (h : J_L_finds x1 x3 st = some o) : z_V κ z_T z_N a 0 (6 * 0) 0 [(0, .ref (a 0)), (1, .long (zJ x1)), (3, .int (zI x3))] [] st := by
  unfold J_L_finds at h
  refine z_aload_n (i := 0) 0 hc dL_finds_0 rfl rfl ?_
  refine z_bipush hc dL_finds_1 rfl ?_
  refine z_lconst 0 hc dL_finds_3 rfl ?_
  refine z_iconst hc dL_finds_4 ?_
  obtain ⟨r1, hr1, h⟩ := z_b_some h
  refine z_callUJ 1 (6 * 1) (mu := 1) [.ref (a 0), .int (zI 17), .long (zJ 0), .int (zI 0)] hc hap o_L_ask ml_RL_125 (fun l hl => c_L_ask hl hr1) (by decide) rfl rfl (Nat.le_of_ble_eq_true rfl) (by omega) (by omega) (by omega) (by omega) dL_finds_5 ?_
  refine z_l2i hc dL_finds_8 ?_
  refine z_istore [(4, .int (zI r1.1)), (0, .ref (a 0)), (1, .long (zJ x1)), (3, .int (zI x3))] hc dL_finds_9 (by decide) rfl ?_
  refine z_iload 0 hc dL_finds_11 rfl ?_
  refine z_if_ge (tgt := 22) hc dL_finds_13 (by decide) h (fun c13 h => ?_) (fun c13 h => ?_)
  · refine z_ldc2 (-1) hc kc_RL_135 dL_finds_16 rfl ?_
    refine z_goto (tgt := 32) hc dL_finds_19 (by decide) ?_
    refine z_sub [(0, .ref (a 0)), (1, .long (zJ x1)), (3, .int (zI x3)), (4, .int (zI r1.1))] [1, 2, 3, 0] rfl ?_
    refine z_wide (cells' := 2) (slots' := 6 * 2) (Nat.le_of_ble_eq_true rfl) (Nat.le_of_ble_eq_true rfl) ?_
    exact w_L_finds_32 hc hap he h
  · refine z_aload_n (i := 0) 1 hc dL_finds_22 rfl rfl ?_
    refine z_bipush hc dL_finds_23 rfl ?_
    refine z_iload 0 hc dL_finds_25 rfl ?_
    refine z_i2l hc dL_finds_27 h (fun h => ?_)
    refine z_iconst hc dL_finds_28 ?_
    obtain ⟨r10, hr10, h⟩ := z_b_some h
    refine z_callUJ 2 (6 * 2) (mu := 1) [.ref (a 0), .int (zI 15), .long (zJ r1.1), .int (zI 0)] hc hap o_L_ask ml_RL_125 (fun l hl => c_L_ask hl hr10) (by decide) rfl rfl (Nat.le_of_ble_eq_true rfl) (by omega) (by omega) (by omega) (by omega) dL_finds_29 ?_
    refine z_sub [(0, .ref (a 0)), (1, .long (zJ x1)), (3, .int (zI x3)), (4, .int (zI r1.1))] [1, 2, 3, 0] rfl ?_
    exact w_L_finds_32 hc hap he h
set_option maxRecDepth 100000 in
set_option maxHeartbeats 4000000 in
theorem c_L_finds {l : Launch} (hl : l.stackTraces = false) {a : Nat → Nat} {x1 x3 : Int} {st : z_St} {o : Int × z_St} (h : J_L_finds x1 x3 st = some o) : z_MU 0 10 l yL_finds (z_w yL_finds cL_finds 14 (some .boolean)) 28 z_T z_N a [.ref (a 0), .long (zJ x1), .int (zI x3)] st o.1 o.2 := z_ofU hl (by decide +kernel) (Nat.le_of_ble_eq_true rfl) (fun κ hc hap he => w_L_finds hc hap he h)
