theorem dL_weighs_0 : decode cL_weighs 0 = .ok (.iload_n 1, 1) := by decide +kernel
theorem dL_weighs_1 : decode cL_weighs 1 = .ok (.iload_n 3, 1) := by decide +kernel
theorem dL_weighs_2 : decode cL_weighs 2 = .ok (.invokestatic 132, 3) := by decide +kernel
theorem dL_weighs_5 : decode cL_weighs 5 = .ok (.istore 4, 2) := by decide +kernel
theorem dL_weighs_7 : decode cL_weighs 7 = .ok (.iload_n 2, 1) := by decide +kernel
theorem dL_weighs_8 : decode cL_weighs 8 = .ok (.iload_n 3, 1) := by decide +kernel
theorem dL_weighs_9 : decode cL_weighs 9 = .ok (.invokestatic 132, 3) := by decide +kernel
theorem dL_weighs_12 : decode cL_weighs 12 = .ok (.istore 5, 2) := by decide +kernel
theorem dL_weighs_14 : decode cL_weighs 14 = .ok (.aload_n 0, 1) := by decide +kernel
theorem dL_weighs_15 : decode cL_weighs 15 = .ok (.bipush 15, 2) := by decide +kernel
theorem dL_weighs_17 : decode cL_weighs 17 = .ok (.iload 4, 2) := by decide +kernel
theorem dL_weighs_19 : decode cL_weighs 19 = .ok (.i2l, 1) := by decide +kernel
theorem dL_weighs_20 : decode cL_weighs 20 = .ok (.iconst 0, 1) := by decide +kernel
theorem dL_weighs_21 : decode cL_weighs 21 = .ok (.invokestatic 125, 3) := by decide +kernel
theorem dL_weighs_24 : decode cL_weighs 24 = .ok (.lstore 6, 2) := by decide +kernel
theorem dL_weighs_26 : decode cL_weighs 26 = .ok (.aload_n 0, 1) := by decide +kernel
theorem dL_weighs_27 : decode cL_weighs 27 = .ok (.bipush 15, 2) := by decide +kernel
theorem dL_weighs_29 : decode cL_weighs 29 = .ok (.iload 5, 2) := by decide +kernel
theorem dL_weighs_31 : decode cL_weighs 31 = .ok (.i2l, 1) := by decide +kernel
theorem dL_weighs_32 : decode cL_weighs 32 = .ok (.iconst 0, 1) := by decide +kernel
theorem dL_weighs_33 : decode cL_weighs 33 = .ok (.invokestatic 125, 3) := by decide +kernel
theorem dL_weighs_36 : decode cL_weighs 36 = .ok (.lstore 8, 2) := by decide +kernel
theorem dL_weighs_38 : decode cL_weighs 38 = .ok (.lload 6, 2) := by decide +kernel
theorem dL_weighs_40 : decode cL_weighs 40 = .ok (.aload_n 0, 1) := by decide +kernel
theorem dL_weighs_41 : decode cL_weighs 41 = .ok (.bipush 16, 2) := by decide +kernel
theorem dL_weighs_43 : decode cL_weighs 43 = .ok (.iload 4, 2) := by decide +kernel
theorem dL_weighs_45 : decode cL_weighs 45 = .ok (.i2l, 1) := by decide +kernel
theorem dL_weighs_46 : decode cL_weighs 46 = .ok (.iconst 0, 1) := by decide +kernel
theorem dL_weighs_47 : decode cL_weighs 47 = .ok (.invokestatic 125, 3) := by decide +kernel
theorem dL_weighs_50 : decode cL_weighs 50 = .ok (.lcmp, 1) := by decide +kernel
theorem dL_weighs_51 : decode cL_weighs 51 = .ok (.ifCond .ne 32, 3) := by decide +kernel
theorem dL_weighs_54 : decode cL_weighs 54 = .ok (.lload 8, 2) := by decide +kernel
theorem dL_weighs_56 : decode cL_weighs 56 = .ok (.aload_n 0, 1) := by decide +kernel
theorem dL_weighs_57 : decode cL_weighs 57 = .ok (.bipush 16, 2) := by decide +kernel
theorem dL_weighs_59 : decode cL_weighs 59 = .ok (.iload 5, 2) := by decide +kernel
theorem dL_weighs_61 : decode cL_weighs 61 = .ok (.i2l, 1) := by decide +kernel
theorem dL_weighs_62 : decode cL_weighs 62 = .ok (.iconst 0, 1) := by decide +kernel
theorem dL_weighs_63 : decode cL_weighs 63 = .ok (.invokestatic 125, 3) := by decide +kernel
theorem dL_weighs_66 : decode cL_weighs 66 = .ok (.lcmp, 1) := by decide +kernel
theorem dL_weighs_67 : decode cL_weighs 67 = .ok (.ifCond .ne 16, 3) := by decide +kernel
theorem dL_weighs_70 : decode cL_weighs 70 = .ok (.lload 6, 2) := by decide +kernel
theorem dL_weighs_72 : decode cL_weighs 72 = .ok (.ldc2_w 135, 3) := by decide +kernel
theorem dL_weighs_75 : decode cL_weighs 75 = .ok (.lcmp, 1) := by decide +kernel
theorem dL_weighs_76 : decode cL_weighs 76 = .ok (.ifCond .lt 7, 3) := by decide +kernel
theorem dL_weighs_79 : decode cL_weighs 79 = .ok (.iconst 1, 1) := by decide +kernel
theorem dL_weighs_80 : decode cL_weighs 80 = .ok (.goto 4, 3) := by decide +kernel
theorem dL_weighs_83 : decode cL_weighs 83 = .ok (.iconst 0, 1) := by decide +kernel
theorem dL_weighs_84 : decode cL_weighs 84 = .ok (.istore 10, 2) := by decide +kernel
theorem dL_weighs_86 : decode cL_weighs 86 = .ok (.aload_n 0, 1) := by decide +kernel
theorem dL_weighs_87 : decode cL_weighs 87 = .ok (.bipush 17, 2) := by decide +kernel
theorem dL_weighs_89 : decode cL_weighs 89 = .ok (.lconst 0, 1) := by decide +kernel
theorem dL_weighs_90 : decode cL_weighs 90 = .ok (.iconst 0, 1) := by decide +kernel
theorem dL_weighs_91 : decode cL_weighs 91 = .ok (.invokestatic 125, 3) := by decide +kernel
theorem dL_weighs_94 : decode cL_weighs 94 = .ok (.l2i, 1) := by decide +kernel
theorem dL_weighs_95 : decode cL_weighs 95 = .ok (.istore 11, 2) := by decide +kernel
theorem dL_weighs_97 : decode cL_weighs 97 = .ok (.iload 11, 2) := by decide +kernel
theorem dL_weighs_99 : decode cL_weighs 99 = .ok (.ifCond .ge 9, 3) := by decide +kernel
theorem dL_weighs_102 : decode cL_weighs 102 = .ok (.ldc2_w 135, 3) := by decide +kernel
theorem dL_weighs_105 : decode cL_weighs 105 = .ok (.goto 13, 3) := by decide +kernel
theorem dL_weighs_108 : decode cL_weighs 108 = .ok (.aload_n 0, 1) := by decide +kernel
theorem dL_weighs_109 : decode cL_weighs 109 = .ok (.bipush 15, 2) := by decide +kernel
theorem dL_weighs_111 : decode cL_weighs 111 = .ok (.iload 11, 2) := by decide +kernel
theorem dL_weighs_113 : decode cL_weighs 113 = .ok (.i2l, 1) := by decide +kernel
theorem dL_weighs_114 : decode cL_weighs 114 = .ok (.iconst 0, 1) := by decide +kernel
theorem dL_weighs_115 : decode cL_weighs 115 = .ok (.invokestatic 125, 3) := by decide +kernel
theorem dL_weighs_118 : decode cL_weighs 118 = .ok (.lstore 12, 2) := by decide +kernel
theorem dL_weighs_120 : decode cL_weighs 120 = .ok (.iload 10, 2) := by decide +kernel
theorem dL_weighs_122 : decode cL_weighs 122 = .ok (.iload 11, 2) := by decide +kernel
theorem dL_weighs_124 : decode cL_weighs 124 = .ok (.ifCond .gt 21, 3) := by decide +kernel
theorem dL_weighs_127 : decode cL_weighs 127 = .ok (.lload 6, 2) := by decide +kernel
theorem dL_weighs_129 : decode cL_weighs 129 = .ok (.ldc2_w 135, 3) := by decide +kernel
theorem dL_weighs_132 : decode cL_weighs 132 = .ok (.lcmp, 1) := by decide +kernel
theorem dL_weighs_133 : decode cL_weighs 133 = .ok (.ifCond .ne 16, 3) := by decide +kernel
theorem dL_weighs_136 : decode cL_weighs 136 = .ok (.lload 8, 2) := by decide +kernel
theorem dL_weighs_138 : decode cL_weighs 138 = .ok (.ldc2_w 135, 3) := by decide +kernel
theorem dL_weighs_141 : decode cL_weighs 141 = .ok (.lcmp, 1) := by decide +kernel
theorem dL_weighs_142 : decode cL_weighs 142 = .ok (.ifCond .ne 7, 3) := by decide +kernel
theorem dL_weighs_145 : decode cL_weighs 145 = .ok (.iconst 1, 1) := by decide +kernel
theorem dL_weighs_146 : decode cL_weighs 146 = .ok (.goto 4, 3) := by decide +kernel
theorem dL_weighs_149 : decode cL_weighs 149 = .ok (.iconst 0, 1) := by decide +kernel
theorem dL_weighs_150 : decode cL_weighs 150 = .ok (.iand, 1) := by decide +kernel
theorem dL_weighs_151 : decode cL_weighs 151 = .ok (.istore 10, 2) := by decide +kernel
theorem dL_weighs_153 : decode cL_weighs 153 = .ok (.iload 10, 2) := by decide +kernel
theorem dL_weighs_155 : decode cL_weighs 155 = .ok (.ifCond .eq 67, 3) := by decide +kernel
theorem dL_weighs_158 : decode cL_weighs 158 = .ok (.lload 6, 2) := by decide +kernel
theorem dL_weighs_160 : decode cL_weighs 160 = .ok (.lconst 0, 1) := by decide +kernel
theorem dL_weighs_161 : decode cL_weighs 161 = .ok (.lcmp, 1) := by decide +kernel
theorem dL_weighs_162 : decode cL_weighs 162 = .ok (.ifCond .lt 26, 3) := by decide +kernel
theorem dL_weighs_165 : decode cL_weighs 165 = .ok (.lload 6, 2) := by decide +kernel
theorem dL_weighs_167 : decode cL_weighs 167 = .ok (.lload 12, 2) := by decide +kernel
theorem dL_weighs_169 : decode cL_weighs 169 = .ok (.lcmp, 1) := by decide +kernel
theorem dL_weighs_170 : decode cL_weighs 170 = .ok (.ifCond .gt 18, 3) := by decide +kernel
theorem dL_weighs_173 : decode cL_weighs 173 = .ok (.lload 6, 2) := by decide +kernel
theorem dL_weighs_175 : decode cL_weighs 175 = .ok (.lload 12, 2) := by decide +kernel
theorem dL_weighs_177 : decode cL_weighs 177 = .ok (.lcmp, 1) := by decide +kernel
theorem dL_weighs_178 : decode cL_weighs 178 = .ok (.ifCond .ne 44, 3) := by decide +kernel
theorem dL_weighs_181 : decode cL_weighs 181 = .ok (.iload 4, 2) := by decide +kernel
theorem dL_weighs_183 : decode cL_weighs 183 = .ok (.iload 11, 2) := by decide +kernel
theorem dL_weighs_185 : decode cL_weighs 185 = .ok (.if_icmp .lt 37, 3) := by decide +kernel
theorem dL_weighs_188 : decode cL_weighs 188 = .ok (.lload 8, 2) := by decide +kernel
theorem dL_weighs_190 : decode cL_weighs 190 = .ok (.lconst 0, 1) := by decide +kernel
theorem dL_weighs_191 : decode cL_weighs 191 = .ok (.lcmp, 1) := by decide +kernel
theorem dL_weighs_192 : decode cL_weighs 192 = .ok (.ifCond .lt 26, 3) := by decide +kernel
theorem dL_weighs_195 : decode cL_weighs 195 = .ok (.lload 8, 2) := by decide +kernel
theorem dL_weighs_197 : decode cL_weighs 197 = .ok (.lload 12, 2) := by decide +kernel
theorem dL_weighs_199 : decode cL_weighs 199 = .ok (.lcmp, 1) := by decide +kernel
theorem dL_weighs_200 : decode cL_weighs 200 = .ok (.ifCond .gt 18, 3) := by decide +kernel
theorem dL_weighs_203 : decode cL_weighs 203 = .ok (.lload 8, 2) := by decide +kernel
theorem dL_weighs_205 : decode cL_weighs 205 = .ok (.lload 12, 2) := by decide +kernel
theorem dL_weighs_207 : decode cL_weighs 207 = .ok (.lcmp, 1) := by decide +kernel
theorem dL_weighs_208 : decode cL_weighs 208 = .ok (.ifCond .ne 14, 3) := by decide +kernel
theorem dL_weighs_211 : decode cL_weighs 211 = .ok (.iload 5, 2) := by decide +kernel
theorem dL_weighs_213 : decode cL_weighs 213 = .ok (.iload 11, 2) := by decide +kernel
theorem dL_weighs_215 : decode cL_weighs 215 = .ok (.if_icmp .lt 7, 3) := by decide +kernel
theorem dL_weighs_218 : decode cL_weighs 218 = .ok (.iconst 1, 1) := by decide +kernel
theorem dL_weighs_219 : decode cL_weighs 219 = .ok (.goto 4, 3) := by decide +kernel
theorem dL_weighs_222 : decode cL_weighs 222 = .ok (.iconst 0, 1) := by decide +kernel
theorem dL_weighs_223 : decode cL_weighs 223 = .ok (.ireturn, 1) := by decide +kernel
noncomputable def J_L_weighs_223 (s0 : Int) (st : z_St) : Option (Int × z_St) :=
  z_g (s0 = 0 ∨ s0 = 1) <|
  some (s0, st)
set_option maxRecDepth 100000 in
set_option maxHeartbeats 4000000 in
theorem w_L_weighs_223 {κ : zK} {a : Nat → Nat} {s0 : Int} {st : z_St} {o : Int × z_St} (hc : z_C κ RL cL_weighs 14 28 6 (6 * 6)) (hap : z_AP κ a z_N) (he : z_EU 0 6 κ (some .boolean) z_T z_N a o.1 o.2) (h : J_L_weighs_223 s0 st = some o) : z_V κ z_T z_N a 6 (6 * 6) 223 [] [.int (zI s0)] st := by
  unfold J_L_weighs_223 at h
  obtain ⟨hz, h⟩ := z_g_some h
  have h := Option.some.inj h
  subst h
  exact z_retUZ hc he hz dL_weighs_223
noncomputable def J_L_weighs_222 (st : z_St) : Option (Int × z_St) :=
  J_L_weighs_223 0 st
set_option maxRecDepth 100000 in
set_option maxHeartbeats 4000000 in
theorem w_L_weighs_222 {κ : zK} {a : Nat → Nat} {st : z_St} {o : Int × z_St} (hc : z_C κ RL cL_weighs 14 28 6 (6 * 6)) (hap : z_AP κ a z_N) (he : z_EU 0 6 κ (some .boolean) z_T z_N a o.1 o.2) (h : J_L_weighs_222 st = some o) : z_V κ z_T z_N a 6 (6 * 6) 222 [] [] st := by
  unfold J_L_weighs_222 at h
  refine z_iconst hc dL_weighs_222 ?_
  refine z_sub [] [] rfl ?_
  exact w_L_weighs_223 hc hap he h
noncomputable def J_L_weighs_218 (st : z_St) : Option (Int × z_St) :=
  J_L_weighs_223 1 st
set_option maxRecDepth 100000 in
set_option maxHeartbeats 4000000 in
theorem w_L_weighs_218 {κ : zK} {a : Nat → Nat} {st : z_St} {o : Int × z_St} (hc : z_C κ RL cL_weighs 14 28 6 (6 * 6)) (hap : z_AP κ a z_N) (he : z_EU 0 6 κ (some .boolean) z_T z_N a o.1 o.2) (h : J_L_weighs_218 st = some o) : z_V κ z_T z_N a 6 (6 * 6) 218 [] [] st := by
  unfold J_L_weighs_218 at h
  refine z_iconst hc dL_weighs_218 ?_
  refine z_goto (tgt := 223) hc dL_weighs_219 (by decide) ?_
  refine z_sub [] [] rfl ?_
  exact w_L_weighs_223 hc hap he h
noncomputable def J_L_weighs_188 (v5 v8 v11 v12 : Int) (st : z_St) : Option (Int × z_St) :=
  z_g (z64 v8 ∧ z64 0) (if v8 < 0 then
    J_L_weighs_218 st
  else
    z_g (z64 v8 ∧ z64 v12) (if v12 < v8 then
      J_L_weighs_218 st
    else
      z_g (z64 v8 ∧ z64 v12) (if v8 = v12 then
        z_g (z32 v5 ∧ z32 v11) (if v5 < v11 then
          J_L_weighs_222 st
        else
          J_L_weighs_218 st)
      else
        J_L_weighs_222 st)))
set_option maxRecDepth 100000 in
set_option maxHeartbeats 4000000 in
theorem w_L_weighs_188 {κ : zK} {a : Nat → Nat} {v5 v8 v11 v12 : Int} {st : z_St} {o : Int × z_St} (hc : z_C κ RL cL_weighs 14 28 6 (6 * 6)) (hap : z_AP κ a z_N) (he : z_EU 0 6 κ (some .boolean) z_T z_N a o.1 o.2) (h : J_L_weighs_188 v5 v8 v11 v12 st = some o) : z_V κ z_T z_N a 6 (6 * 6) 188 [(5, .int (zI v5)), (8, .long (zJ v8)), (11, .int (zI v11)), (12, .long (zJ v12))] [] st := by
  unfold J_L_weighs_188 at h
  refine z_lload 1 hc dL_weighs_188 rfl ?_
  refine z_lconst 0 hc dL_weighs_190 rfl ?_
  refine z_lcmp_lt (tgt := 218) hc dL_weighs_191 dL_weighs_192 (by decide) h (fun c191 h => ?_) (fun c191 h => ?_)
  · refine z_sub [] [] rfl ?_
    exact w_L_weighs_218 hc hap he h
  · refine z_lload 1 hc dL_weighs_195 rfl ?_
    refine z_lload 3 hc dL_weighs_197 rfl ?_
    refine z_lcmp_gt (tgt := 218) hc dL_weighs_199 dL_weighs_200 (by decide) h (fun c199 h => ?_) (fun c199 h => ?_)
    · refine z_sub [] [] rfl ?_
      exact w_L_weighs_218 hc hap he h
    · refine z_lload 1 hc dL_weighs_203 rfl ?_
      refine z_lload 3 hc dL_weighs_205 rfl ?_
      refine z_lcmp_ne (tgt := 222) hc dL_weighs_207 dL_weighs_208 (by decide) h (fun c207 h => ?_) (fun c207 h => ?_)
      · refine z_iload 0 hc dL_weighs_211 rfl ?_
        refine z_iload 2 hc dL_weighs_213 rfl ?_
        refine z_icmp_lt (tgt := 222) hc dL_weighs_215 (by decide) h (fun c215 h => ?_) (fun c215 h => ?_)
        · refine z_sub [] [] rfl ?_
          exact w_L_weighs_222 hc hap he h
        · refine z_sub [] [] rfl ?_
          exact w_L_weighs_218 hc hap he h
      · refine z_sub [] [] rfl ?_
        exact w_L_weighs_222 hc hap he h
noncomputable def J_L_weighs_150 (v4 v5 v6 v8 v11 v12 s0 s1 : Int) (st : z_St) : Option (Int × z_St) :=
  z_g (z32 (z_iand s1 s0)) (if z_iand s1 s0 = 0 then
    J_L_weighs_222 st
  else
    z_g (z64 v6 ∧ z64 0) (if v6 < 0 then
      J_L_weighs_188 v5 v8 v11 v12 st
    else
      z_g (z64 v6 ∧ z64 v12) (if v12 < v6 then
        J_L_weighs_188 v5 v8 v11 v12 st
      else
        z_g (z64 v6 ∧ z64 v12) (if v6 = v12 then
          z_g (z32 v4 ∧ z32 v11) (if v4 < v11 then
            J_L_weighs_222 st
          else
            J_L_weighs_188 v5 v8 v11 v12 st)
        else
          J_L_weighs_222 st))))
set_option maxRecDepth 100000 in
set_option maxHeartbeats 4000000 in
theorem w_L_weighs_150 {κ : zK} {a : Nat → Nat} {v4 v5 v6 v8 v11 v12 s0 s1 : Int} {st : z_St} {o : Int × z_St} (hc : z_C κ RL cL_weighs 14 28 6 (6 * 6)) (hap : z_AP κ a z_N) (he : z_EU 0 6 κ (some .boolean) z_T z_N a o.1 o.2) (h : J_L_weighs_150 v4 v5 v6 v8 v11 v12 s0 s1 st = some o) : z_V κ z_T z_N a 6 (6 * 6) 150 [(4, .int (zI v4)), (5, .int (zI v5)), (6, .long (zJ v6)), (8, .long (zJ v8)), (11, .int (zI v11)), (12, .long (zJ v12))] [.int (zI s0), .int (zI s1)] st := by
  unfold J_L_weighs_150 at h
  refine z_iand_r hc dL_weighs_150 ?_
  refine z_istore [(10, .int (zI (z_iand s1 s0))), (4, .int (zI v4)), (5, .int (zI v5)), (6, .long (zJ v6)), (8, .long (zJ v8)), (11, .int (zI v11)), (12, .long (zJ v12))] hc dL_weighs_151 (by decide) rfl ?_
  refine z_iload 0 hc dL_weighs_153 rfl ?_
  refine z_if_eq (tgt := 222) hc dL_weighs_155 (by decide) h (fun c155 h => ?_) (fun c155 h => ?_)
  · refine z_sub [] [] rfl ?_
    exact w_L_weighs_222 hc hap he h
  · refine z_lload 3 hc dL_weighs_158 rfl ?_
    refine z_lconst 0 hc dL_weighs_160 rfl ?_
    refine z_lcmp_lt (tgt := 188) hc dL_weighs_161 dL_weighs_162 (by decide) h (fun c161 h => ?_) (fun c161 h => ?_)
    · refine z_sub [(5, .int (zI v5)), (8, .long (zJ v8)), (11, .int (zI v11)), (12, .long (zJ v12))] [2, 4, 5, 6] rfl ?_
      exact w_L_weighs_188 hc hap he h
    · refine z_lload 3 hc dL_weighs_165 rfl ?_
      refine z_lload 6 hc dL_weighs_167 rfl ?_
      refine z_lcmp_gt (tgt := 188) hc dL_weighs_169 dL_weighs_170 (by decide) h (fun c169 h => ?_) (fun c169 h => ?_)
      · refine z_sub [(5, .int (zI v5)), (8, .long (zJ v8)), (11, .int (zI v11)), (12, .long (zJ v12))] [2, 4, 5, 6] rfl ?_
        exact w_L_weighs_188 hc hap he h
      · refine z_lload 3 hc dL_weighs_173 rfl ?_
        refine z_lload 6 hc dL_weighs_175 rfl ?_
        refine z_lcmp_ne (tgt := 222) hc dL_weighs_177 dL_weighs_178 (by decide) h (fun c177 h => ?_) (fun c177 h => ?_)
        · refine z_iload 1 hc dL_weighs_181 rfl ?_
          refine z_iload 5 hc dL_weighs_183 rfl ?_
          refine z_icmp_lt (tgt := 222) hc dL_weighs_185 (by decide) h (fun c185 h => ?_) (fun c185 h => ?_)
          · refine z_sub [] [] rfl ?_
            exact w_L_weighs_222 hc hap he h
          · refine z_sub [(5, .int (zI v5)), (8, .long (zJ v8)), (11, .int (zI v11)), (12, .long (zJ v12))] [2, 4, 5, 6] rfl ?_
            exact w_L_weighs_188 hc hap he h
        · refine z_sub [] [] rfl ?_
          exact w_L_weighs_222 hc hap he h
noncomputable def J_L_weighs_145 (v4 v5 v6 v8 v11 v12 s0 : Int) (st : z_St) : Option (Int × z_St) :=
  J_L_weighs_150 v4 v5 v6 v8 v11 v12 1 s0 st
set_option maxRecDepth 100000 in
set_option maxHeartbeats 4000000 in
theorem w_L_weighs_145 {κ : zK} {a : Nat → Nat} {v4 v5 v6 v8 v11 v12 s0 : Int} {st : z_St} {o : Int × z_St} (hc : z_C κ RL cL_weighs 14 28 6 (6 * 6)) (hap : z_AP κ a z_N) (he : z_EU 0 6 κ (some .boolean) z_T z_N a o.1 o.2) (h : J_L_weighs_145 v4 v5 v6 v8 v11 v12 s0 st = some o) : z_V κ z_T z_N a 6 (6 * 6) 145 [(4, .int (zI v4)), (5, .int (zI v5)), (6, .long (zJ v6)), (8, .long (zJ v8)), (11, .int (zI v11)), (12, .long (zJ v12))] [.int (zI s0)] st := by
  unfold J_L_weighs_145 at h
  refine z_iconst hc dL_weighs_145 ?_
  refine z_goto (tgt := 150) hc dL_weighs_146 (by decide) ?_
  refine z_sub [(4, .int (zI v4)), (5, .int (zI v5)), (6, .long (zJ v6)), (8, .long (zJ v8)), (11, .int (zI v11)), (12, .long (zJ v12))] [0, 1, 2, 3, 4, 5] rfl ?_
  exact w_L_weighs_150 hc hap he h
noncomputable def J_L_weighs_149 (v4 v5 v6 v8 v11 v12 s0 : Int) (st : z_St) : Option (Int × z_St) :=
  J_L_weighs_150 v4 v5 v6 v8 v11 v12 0 s0 st
set_option maxRecDepth 100000 in
set_option maxHeartbeats 4000000 in
theorem w_L_weighs_149 {κ : zK} {a : Nat → Nat} {v4 v5 v6 v8 v11 v12 s0 : Int} {st : z_St} {o : Int × z_St} (hc : z_C κ RL cL_weighs 14 28 6 (6 * 6)) (hap : z_AP κ a z_N) (he : z_EU 0 6 κ (some .boolean) z_T z_N a o.1 o.2) (h : J_L_weighs_149 v4 v5 v6 v8 v11 v12 s0 st = some o) : z_V κ z_T z_N a 6 (6 * 6) 149 [(4, .int (zI v4)), (5, .int (zI v5)), (6, .long (zJ v6)), (8, .long (zJ v8)), (11, .int (zI v11)), (12, .long (zJ v12))] [.int (zI s0)] st := by
  unfold J_L_weighs_149 at h
  refine z_iconst hc dL_weighs_149 ?_
  refine z_sub [(4, .int (zI v4)), (5, .int (zI v5)), (6, .long (zJ v6)), (8, .long (zJ v8)), (11, .int (zI v11)), (12, .long (zJ v12))] [0, 1, 2, 3, 4, 5] rfl ?_
  exact w_L_weighs_150 hc hap he h
noncomputable def J_L_weighs_118 (v4 v5 v6 v8 v10 v11 s0 : Int) (st : z_St) : Option (Int × z_St) :=
  z_g (z32 v11) (if 0 < v11 then
    J_L_weighs_145 v4 v5 v6 v8 v11 s0 v10 st
  else
    z_g (z64 v6 ∧ z64 (-1)) (if v6 = (-1) then
      z_g (z64 v8 ∧ z64 (-1)) (if v8 = (-1) then
        J_L_weighs_145 v4 v5 v6 v8 v11 s0 v10 st
      else
        J_L_weighs_149 v4 v5 v6 v8 v11 s0 v10 st)
    else
      J_L_weighs_149 v4 v5 v6 v8 v11 s0 v10 st))
set_option maxRecDepth 100000 in
set_option maxHeartbeats 4000000 in
theorem w_L_weighs_118 {κ : zK} {a : Nat → Nat} {v4 v5 v6 v8 v10 v11 s0 : Int} {st : z_St} {o : Int × z_St} (hc : z_C κ RL cL_weighs 14 28 6 (6 * 6)) (hap : z_AP κ a z_N) (he : z_EU 0 6 κ (some .boolean) z_T z_N a o.1 o.2) (h : J_L_weighs_118 v4 v5 v6 v8 v10 v11 s0 st = some o) : z_V κ z_T z_N a 6 (6 * 6) 118 [(4, .int (zI v4)), (5, .int (zI v5)), (6, .long (zJ v6)), (8, .long (zJ v8)), (10, .int (zI v10)), (11, .int (zI v11))] [.long (zJ s0)] st := by
  unfold J_L_weighs_118 at h
  refine z_lstore [(12, .long (zJ s0)), (4, .int (zI v4)), (5, .int (zI v5)), (6, .long (zJ v6)), (8, .long (zJ v8)), (10, .int (zI v10)), (11, .int (zI v11))] hc dL_weighs_118 (by decide) rfl ?_
  refine z_iload 5 hc dL_weighs_120 rfl ?_
  refine z_iload 6 hc dL_weighs_122 rfl ?_
  refine z_if_gt (tgt := 145) hc dL_weighs_124 (by decide) h (fun c124 h => ?_) (fun c124 h => ?_)
  · refine z_sub [(4, .int (zI v4)), (5, .int (zI v5)), (6, .long (zJ v6)), (8, .long (zJ v8)), (11, .int (zI v11)), (12, .long (zJ s0))] [1, 2, 3, 4, 6, 0] rfl ?_
    exact w_L_weighs_145 hc hap he h
  · refine z_lload 3 hc dL_weighs_127 rfl ?_
    refine z_ldc2 (-1) hc kc_RL_135 dL_weighs_129 rfl ?_
    refine z_lcmp_ne (tgt := 149) hc dL_weighs_132 dL_weighs_133 (by decide) h (fun c132 h => ?_) (fun c132 h => ?_)
    · refine z_lload 4 hc dL_weighs_136 rfl ?_
      refine z_ldc2 (-1) hc kc_RL_135 dL_weighs_138 rfl ?_
      refine z_lcmp_ne (tgt := 149) hc dL_weighs_141 dL_weighs_142 (by decide) h (fun c141 h => ?_) (fun c141 h => ?_)
      · refine z_sub [(4, .int (zI v4)), (5, .int (zI v5)), (6, .long (zJ v6)), (8, .long (zJ v8)), (11, .int (zI v11)), (12, .long (zJ s0))] [1, 2, 3, 4, 6, 0] rfl ?_
        exact w_L_weighs_145 hc hap he h
      · refine z_sub [(4, .int (zI v4)), (5, .int (zI v5)), (6, .long (zJ v6)), (8, .long (zJ v8)), (11, .int (zI v11)), (12, .long (zJ s0))] [1, 2, 3, 4, 6, 0] rfl ?_
        exact w_L_weighs_149 hc hap he h
    · refine z_sub [(4, .int (zI v4)), (5, .int (zI v5)), (6, .long (zJ v6)), (8, .long (zJ v8)), (11, .int (zI v11)), (12, .long (zJ s0))] [1, 2, 3, 4, 6, 0] rfl ?_
      exact w_L_weighs_149 hc hap he h
noncomputable def J_L_weighs_84 (v4 v5 v6 v8 s0 : Int) (st : z_St) : Option (Int × z_St) :=
  z_b (J_L_ask 17 0 0 st) fun r7 =>
  z_g (z32 r7.1) (if r7.1 < 0 then
    J_L_weighs_118 v4 v5 v6 v8 s0 r7.1 (-1) r7.2
  else
    z_g (z32 r7.1) <|
    z_b (J_L_ask 15 r7.1 0 r7.2) fun r8 =>
    J_L_weighs_118 v4 v5 v6 v8 s0 r7.1 r8.1 r8.2)
set_option maxRecDepth 100000 in
set_option maxHeartbeats 4000000 in
theorem w_L_weighs_84 {κ : zK} {a : Nat → Nat} {v4 v5 v6 v8 s0 : Int} {st : z_St} {o : Int × z_St} (hc : z_C κ RL cL_weighs 14 28 6 (6 * 6)) (hap : z_AP κ a z_N) (he : z_EU 0 6 κ (some .boolean) z_T z_N a o.1 o.2) (h : J_L_weighs_84 v4 v5 v6 v8 s0 st = some o) : z_V κ z_T z_N a 4 (6 * 4) 84 [(0, .ref (a 0)), (4, .int (zI v4)), (5, .int (zI v5)), (6, .long (zJ v6)), (8, .long (zJ v8))] [.int (zI s0)] st := by
  unfold J_L_weighs_84 at h
  refine z_istore [(10, .int (zI s0)), (0, .ref (a 0)), (4, .int (zI v4)), (5, .int (zI v5)), (6, .long (zJ v6)), (8, .long (zJ v8))] hc dL_weighs_84 (by decide) rfl ?_
  refine z_aload_n (i := 0) 1 hc dL_weighs_86 rfl rfl ?_
  refine z_bipush hc dL_weighs_87 rfl ?_
  refine z_lconst 0 hc dL_weighs_89 rfl ?_
  refine z_iconst hc dL_weighs_90 ?_
  obtain ⟨r7, hr7, h⟩ := z_b_some h
  refine z_callUJ 5 (6 * 5) (mu := 1) [.ref (a 0), .int (zI 17), .long (zJ 0), .int (zI 0)] hc hap o_L_ask ml_RL_125 (fun l hl => c_L_ask hl hr7) (by decide) rfl rfl (Nat.le_of_ble_eq_true rfl) (by omega) (by omega) (by omega) (by omega) dL_weighs_91 ?_
  refine z_l2i hc dL_weighs_94 ?_
  refine z_istore [(11, .int (zI r7.1)), (10, .int (zI s0)), (0, .ref (a 0)), (4, .int (zI v4)), (5, .int (zI v5)), (6, .long (zJ v6)), (8, .long (zJ v8))] hc dL_weighs_95 (by decide) rfl ?_
  refine z_iload 0 hc dL_weighs_97 rfl ?_
  refine z_if_ge (tgt := 108) hc dL_weighs_99 (by decide) h (fun c99 h => ?_) (fun c99 h => ?_)
  · refine z_ldc2 (-1) hc kc_RL_135 dL_weighs_102 rfl ?_
    refine z_goto (tgt := 118) hc dL_weighs_105 (by decide) ?_
    refine z_sub [(4, .int (zI v4)), (5, .int (zI v5)), (6, .long (zJ v6)), (8, .long (zJ v8)), (10, .int (zI s0)), (11, .int (zI r7.1))] [3, 4, 5, 6, 1, 0] rfl ?_
    refine z_wide (cells' := 6) (slots' := 6 * 6) (Nat.le_of_ble_eq_true rfl) (Nat.le_of_ble_eq_true rfl) ?_
    exact w_L_weighs_118 hc hap he h
  · refine z_aload_n (i := 0) 2 hc dL_weighs_108 rfl rfl ?_
    refine z_bipush hc dL_weighs_109 rfl ?_
    refine z_iload 0 hc dL_weighs_111 rfl ?_
    refine z_i2l hc dL_weighs_113 h (fun h => ?_)
    refine z_iconst hc dL_weighs_114 ?_
    obtain ⟨r8, hr8, h⟩ := z_b_some h
    refine z_callUJ 6 (6 * 6) (mu := 1) [.ref (a 0), .int (zI 15), .long (zJ r7.1), .int (zI 0)] hc hap o_L_ask ml_RL_125 (fun l hl => c_L_ask hl hr8) (by decide) rfl rfl (Nat.le_of_ble_eq_true rfl) (by omega) (by omega) (by omega) (by omega) dL_weighs_115 ?_
    refine z_sub [(4, .int (zI v4)), (5, .int (zI v5)), (6, .long (zJ v6)), (8, .long (zJ v8)), (10, .int (zI s0)), (11, .int (zI r7.1))] [3, 4, 5, 6, 1, 0] rfl ?_
    exact w_L_weighs_118 hc hap he h
noncomputable def J_L_weighs_83 (v4 v5 v6 v8 : Int) (st : z_St) : Option (Int × z_St) :=
  J_L_weighs_84 v4 v5 v6 v8 0 st
set_option maxRecDepth 100000 in
set_option maxHeartbeats 4000000 in
theorem w_L_weighs_83 {κ : zK} {a : Nat → Nat} {v4 v5 v6 v8 : Int} {st : z_St} {o : Int × z_St} (hc : z_C κ RL cL_weighs 14 28 6 (6 * 6)) (hap : z_AP κ a z_N) (he : z_EU 0 6 κ (some .boolean) z_T z_N a o.1 o.2) (h : J_L_weighs_83 v4 v5 v6 v8 st = some o) : z_V κ z_T z_N a 4 (6 * 4) 83 [(0, .ref (a 0)), (4, .int (zI v4)), (5, .int (zI v5)), (6, .long (zJ v6)), (8, .long (zJ v8))] [] st := by
  unfold J_L_weighs_83 at h
  refine z_iconst hc dL_weighs_83 ?_
  refine z_sub [(0, .ref (a 0)), (4, .int (zI v4)), (5, .int (zI v5)), (6, .long (zJ v6)), (8, .long (zJ v8))] [0, 1, 2, 3, 4] rfl ?_
  exact w_L_weighs_84 hc hap he h
noncomputable def J_L_weighs (x1 x2 x3 : Int) (st : z_St) : Option (Int × z_St) :=
  z_b (J_L_row x1 x3 st) fun r1 =>
  z_b (J_L_row x2 x3 st) fun r2 =>
  z_g (z32 r1) <|
  z_b (J_L_ask 15 r1 0 st) fun r3 =>
  z_g (z32 r2) <|
  z_b (J_L_ask 15 r2 0 r3.2) fun r4 =>
  z_g (z32 r1) <|
  z_b (J_L_ask 16 r1 0 r4.2) fun r5 =>
  z_g (z64 r3.1 ∧ z64 r5.1) (if r3.1 = r5.1 then
    z_g (z32 r2) <|
    z_b (J_L_ask 16 r2 0 r5.2) fun r6 =>
    z_g (z64 r4.1 ∧ z64 r6.1) (if r4.1 = r6.1 then
      z_g (z64 r3.1 ∧ z64 (-1)) (if r3.1 < (-1) then
        J_L_weighs_83 r1 r2 r3.1 r4.1 r6.2
      else
        J_L_weighs_84 r1 r2 r3.1 r4.1 1 r6.2)
    else
      J_L_weighs_83 r1 r2 r3.1 r4.1 r6.2)
  else
    J_L_weighs_83 r1 r2 r3.1 r4.1 r5.2)
set_option maxRecDepth 100000 in
set_option maxHeartbeats 4000000 in
theorem w_L_weighs {κ : zK} {a : Nat → Nat} {x1 x2 x3 : Int} {st : z_St} {o : Int × z_St} (hc : z_C κ RL cL_weighs 14 28 6 (6 * 6)) (hap : z_AP κ a z_N) (he : z_EU 0 6 κ (some .boolean) z_T z_N a o.1 o.2) (h : J_L_weighs x1 x2 x3 st = some o) : z_V κ z_T z_N a 0 (6 * 0) 0 [(0, .ref (a 0)), (1, .int (zI x1)), (2, .int (zI x2)), (3, .int (zI x3))] [] st := by
  unfold J_L_weighs at h
  refine z_iload_n (i := 1) 1 hc dL_weighs_0 rfl rfl ?_
  refine z_iload_n (i := 3) 3 hc dL_weighs_1 rfl rfl ?_
  obtain ⟨r1, hr1, h⟩ := z_b_some h
  refine z_callSI [.int (zI x1), .int (zI x3)] hc hap o_L_row ml_RL_132 (fun l hl => c_L_row hl hr1) (by decide) rfl rfl (Nat.le_of_ble_eq_true rfl) (by omega) (by omega) dL_weighs_2 ?_
  refine z_istore [(4, .int (zI r1)), (0, .ref (a 0)), (1, .int (zI x1)), (2, .int (zI x2)), (3, .int (zI x3))] hc dL_weighs_5 (by decide) rfl ?_
  refine z_iload_n (i := 2) 3 hc dL_weighs_7 rfl rfl ?_
  refine z_iload_n (i := 3) 4 hc dL_weighs_8 rfl rfl ?_
  obtain ⟨r2, hr2, h⟩ := z_b_some h
  refine z_callSI [.int (zI x2), .int (zI x3)] hc hap o_L_row ml_RL_132 (fun l hl => c_L_row hl hr2) (by decide) rfl rfl (Nat.le_of_ble_eq_true rfl) (by omega) (by omega) dL_weighs_9 ?_
  refine z_istore [(5, .int (zI r2)), (4, .int (zI r1)), (0, .ref (a 0)), (1, .int (zI x1)), (2, .int (zI x2)), (3, .int (zI x3))] hc dL_weighs_12 (by decide) rfl ?_
  refine z_aload_n (i := 0) 2 hc dL_weighs_14 rfl rfl ?_
  refine z_bipush hc dL_weighs_15 rfl ?_
  refine z_iload 1 hc dL_weighs_17 rfl ?_
  refine z_i2l hc dL_weighs_19 h (fun h => ?_)
  refine z_iconst hc dL_weighs_20 ?_
  obtain ⟨r3, hr3, h⟩ := z_b_some h
  refine z_callUJ 1 (6 * 1) (mu := 1) [.ref (a 0), .int (zI 15), .long (zJ r1), .int (zI 0)] hc hap o_L_ask ml_RL_125 (fun l hl => c_L_ask hl hr3) (by decide) rfl rfl (Nat.le_of_ble_eq_true rfl) (by omega) (by omega) (by omega) (by omega) dL_weighs_21 ?_
  refine z_lstore [(6, .long (zJ r3.1)), (5, .int (zI r2)), (4, .int (zI r1)), (0, .ref (a 0)), (1, .int (zI x1)), (2, .int (zI x2)), (3, .int (zI x3))] hc dL_weighs_24 (by decide) rfl ?_
  refine z_aload_n (i := 0) 3 hc dL_weighs_26 rfl rfl ?_
  refine z_bipush hc dL_weighs_27 rfl ?_
  refine z_iload 1 hc dL_weighs_29 rfl ?_
  refine z_i2l hc dL_weighs_31 h (fun h => ?_)
  refine z_iconst hc dL_weighs_32 ?_
  obtain ⟨r4, hr4, h⟩ := z_b_some h
  refine z_callUJ 2 (6 * 2) (mu := 1) [.ref (a 0), .int (zI 15), .long (zJ r2), .int (zI 0)] hc hap o_L_ask ml_RL_125 (fun l hl => c_L_ask hl hr4) (by decide) rfl rfl (Nat.le_of_ble_eq_true rfl) (by omega) (by omega) (by omega) (by omega) dL_weighs_33 ?_
  refine z_lstore [(8, .long (zJ r4.1)), (6, .long (zJ r3.1)), (5, .int (zI r2)), (4, .int (zI r1)), (0, .ref (a 0)), (1, .int (zI x1)), (2, .int (zI x2)), (3, .int (zI x3))] hc dL_weighs_36 (by decide) rfl ?_
  refine z_lload 1 hc dL_weighs_38 rfl ?_
  refine z_aload_n (i := 0) 4 hc dL_weighs_40 rfl rfl ?_
  refine z_bipush hc dL_weighs_41 rfl ?_
  refine z_iload 3 hc dL_weighs_43 rfl ?_
  refine z_i2l hc dL_weighs_45 h (fun h => ?_)
  refine z_iconst hc dL_weighs_46 ?_
  obtain ⟨r5, hr5, h⟩ := z_b_some h
  refine z_callUJ 3 (6 * 3) (mu := 1) [.ref (a 0), .int (zI 16), .long (zJ r1), .int (zI 0)] hc hap o_L_ask ml_RL_125 (fun l hl => c_L_ask hl hr5) (by decide) rfl rfl (Nat.le_of_ble_eq_true rfl) (by omega) (by omega) (by omega) (by omega) dL_weighs_47 ?_
  refine z_lcmp_ne (tgt := 83) hc dL_weighs_50 dL_weighs_51 (by decide) h (fun c50 h => ?_) (fun c50 h => ?_)
  · refine z_lload 0 hc dL_weighs_54 rfl ?_
    refine z_aload_n (i := 0) 4 hc dL_weighs_56 rfl rfl ?_
    refine z_bipush hc dL_weighs_57 rfl ?_
    refine z_iload 2 hc dL_weighs_59 rfl ?_
    refine z_i2l hc dL_weighs_61 h (fun h => ?_)
    refine z_iconst hc dL_weighs_62 ?_
    obtain ⟨r6, hr6, h⟩ := z_b_some h
    refine z_callUJ 4 (6 * 4) (mu := 1) [.ref (a 0), .int (zI 16), .long (zJ r2), .int (zI 0)] hc hap o_L_ask ml_RL_125 (fun l hl => c_L_ask hl hr6) (by decide) rfl rfl (Nat.le_of_ble_eq_true rfl) (by omega) (by omega) (by omega) (by omega) dL_weighs_63 ?_
    refine z_lcmp_ne (tgt := 83) hc dL_weighs_66 dL_weighs_67 (by decide) h (fun c66 h => ?_) (fun c66 h => ?_)
    · refine z_lload 1 hc dL_weighs_70 rfl ?_
      refine z_ldc2 (-1) hc kc_RL_135 dL_weighs_72 rfl ?_
      refine z_lcmp_lt (tgt := 83) hc dL_weighs_75 dL_weighs_76 (by decide) h (fun c75 h => ?_) (fun c75 h => ?_)
      · refine z_sub [(0, .ref (a 0)), (4, .int (zI r1)), (5, .int (zI r2)), (6, .long (zJ r3.1)), (8, .long (zJ r4.1))] [4, 3, 2, 1, 0] rfl ?_
        exact w_L_weighs_83 hc hap he h
      · refine z_iconst hc dL_weighs_79 ?_
        refine z_goto (tgt := 84) hc dL_weighs_80 (by decide) ?_
        refine z_sub [(0, .ref (a 0)), (4, .int (zI r1)), (5, .int (zI r2)), (6, .long (zJ r3.1)), (8, .long (zJ r4.1))] [4, 3, 2, 1, 0] rfl ?_
        exact w_L_weighs_84 hc hap he h
    · refine z_sub [(0, .ref (a 0)), (4, .int (zI r1)), (5, .int (zI r2)), (6, .long (zJ r3.1)), (8, .long (zJ r4.1))] [4, 3, 2, 1, 0] rfl ?_
      exact w_L_weighs_83 hc hap he h
  · refine z_sub [(0, .ref (a 0)), (4, .int (zI r1)), (5, .int (zI r2)), (6, .long (zJ r3.1)), (8, .long (zJ r4.1))] [4, 3, 2, 1, 0] rfl ?_
    refine z_wide (cells' := 4) (slots' := 6 * 4) (Nat.le_of_ble_eq_true rfl) (Nat.le_of_ble_eq_true rfl) ?_
    exact w_L_weighs_83 hc hap he h
set_option maxRecDepth 100000 in
set_option maxHeartbeats 4000000 in
theorem c_L_weighs {l : Launch} (hl : l.stackTraces = false) {a : Nat → Nat} {x1 x2 x3 : Int} {st : z_St} {o : Int × z_St} (h : J_L_weighs x1 x2 x3 st = some o) : z_MU 0 6 l yL_weighs (z_w yL_weighs cL_weighs 14 (some .boolean)) 28 z_T z_N a [.ref (a 0), .int (zI x1), .int (zI x2), .int (zI x3)] st o.1 o.2 := z_ofU hl (by decide +kernel) (Nat.le_of_ble_eq_true rfl) (fun κ hc hap he => w_L_weighs hc hap he h)
