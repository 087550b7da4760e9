theorem dL_rises_0 : decode cL_rises 0 = .ok (.aload_n 0, 1) := by decide +kernel
theorem dL_rises_1 : decode cL_rises 1 = .ok (.bipush 27, 2) := by decide +kernel
theorem dL_rises_3 : decode cL_rises 3 = .ok (.ldc2_w 137, 3) := by decide +kernel
theorem dL_rises_6 : decode cL_rises 6 = .ok (.iconst 0, 1) := by decide +kernel
theorem dL_rises_7 : decode cL_rises 7 = .ok (.invokestatic 125, 3) := by decide +kernel
theorem dL_rises_10 : decode cL_rises 10 = .ok (.lstore_n 2, 1) := by decide +kernel
theorem dL_rises_11 : decode cL_rises 11 = .ok (.aload_n 0, 1) := by decide +kernel
theorem dL_rises_12 : decode cL_rises 12 = .ok (.bipush 17, 2) := by decide +kernel
theorem dL_rises_14 : decode cL_rises 14 = .ok (.iload_n 1, 1) := by decide +kernel
theorem dL_rises_15 : decode cL_rises 15 = .ok (.i2l, 1) := by decide +kernel
theorem dL_rises_16 : decode cL_rises 16 = .ok (.iconst 0, 1) := by decide +kernel
theorem dL_rises_17 : decode cL_rises 17 = .ok (.invokestatic 125, 3) := by decide +kernel
theorem dL_rises_20 : decode cL_rises 20 = .ok (.l2i, 1) := by decide +kernel
theorem dL_rises_21 : decode cL_rises 21 = .ok (.istore 4, 2) := by decide +kernel
theorem dL_rises_23 : decode cL_rises 23 = .ok (.aload_n 0, 1) := by decide +kernel
theorem dL_rises_24 : decode cL_rises 24 = .ok (.bipush 17, 2) := by decide +kernel
theorem dL_rises_26 : decode cL_rises 26 = .ok (.iload_n 1, 1) := by decide +kernel
theorem dL_rises_27 : decode cL_rises 27 = .ok (.iconst 1, 1) := by decide +kernel
theorem dL_rises_28 : decode cL_rises 28 = .ok (.iadd, 1) := by decide +kernel
theorem dL_rises_29 : decode cL_rises 29 = .ok (.i2l, 1) := by decide +kernel
theorem dL_rises_30 : decode cL_rises 30 = .ok (.iconst 0, 1) := by decide +kernel
theorem dL_rises_31 : decode cL_rises 31 = .ok (.invokestatic 125, 3) := by decide +kernel
theorem dL_rises_34 : decode cL_rises 34 = .ok (.l2i, 1) := by decide +kernel
theorem dL_rises_35 : decode cL_rises 35 = .ok (.istore 5, 2) := by decide +kernel
theorem dL_rises_37 : decode cL_rises 37 = .ok (.iload 5, 2) := by decide +kernel
theorem dL_rises_39 : decode cL_rises 39 = .ok (.ifCond .ge 45, 3) := by decide +kernel
theorem dL_rises_42 : decode cL_rises 42 = .ok (.lload_n 2, 1) := by decide +kernel
theorem dL_rises_43 : decode cL_rises 43 = .ok (.iload_n 1, 1) := by decide +kernel
theorem dL_rises_44 : decode cL_rises 44 = .ok (.i2l, 1) := by decide +kernel
theorem dL_rises_45 : decode cL_rises 45 = .ok (.lconst 1, 1) := by decide +kernel
theorem dL_rises_46 : decode cL_rises 46 = .ok (.ladd, 1) := by decide +kernel
theorem dL_rises_47 : decode cL_rises 47 = .ok (.lcmp, 1) := by decide +kernel
theorem dL_rises_48 : decode cL_rises 48 = .ok (.ifCond .gt 34, 3) := by decide +kernel
theorem dL_rises_51 : decode cL_rises 51 = .ok (.iload 4, 2) := by decide +kernel
theorem dL_rises_53 : decode cL_rises 53 = .ok (.ifCond .le 7, 3) := by decide +kernel
theorem dL_rises_56 : decode cL_rises 56 = .ok (.iconst 1, 1) := by decide +kernel
theorem dL_rises_57 : decode cL_rises 57 = .ok (.goto 4, 3) := by decide +kernel
theorem dL_rises_60 : decode cL_rises 60 = .ok (.iconst 0, 1) := by decide +kernel
theorem dL_rises_61 : decode cL_rises 61 = .ok (.lload_n 2, 1) := by decide +kernel
theorem dL_rises_62 : decode cL_rises 62 = .ok (.iload_n 1, 1) := by decide +kernel
theorem dL_rises_63 : decode cL_rises 63 = .ok (.i2l, 1) := by decide +kernel
theorem dL_rises_64 : decode cL_rises 64 = .ok (.lconst 1, 1) := by decide +kernel
theorem dL_rises_65 : decode cL_rises 65 = .ok (.ladd, 1) := by decide +kernel
theorem dL_rises_66 : decode cL_rises 66 = .ok (.lcmp, 1) := by decide +kernel
theorem dL_rises_67 : decode cL_rises 67 = .ok (.ifCond .ne 7, 3) := by decide +kernel
theorem dL_rises_70 : decode cL_rises 70 = .ok (.iconst 1, 1) := by decide +kernel
theorem dL_rises_71 : decode cL_rises 71 = .ok (.goto 4, 3) := by decide +kernel
theorem dL_rises_74 : decode cL_rises 74 = .ok (.iconst 0, 1) := by decide +kernel
theorem dL_rises_75 : decode cL_rises 75 = .ok (.if_icmp .ne 7, 3) := by decide +kernel
theorem dL_rises_78 : decode cL_rises 78 = .ok (.iconst 1, 1) := by decide +kernel
theorem dL_rises_79 : decode cL_rises 79 = .ok (.goto 4, 3) := by decide +kernel
theorem dL_rises_82 : decode cL_rises 82 = .ok (.iconst 0, 1) := by decide +kernel
theorem dL_rises_83 : decode cL_rises 83 = .ok (.ireturn, 1) := by decide +kernel
theorem dL_rises_84 : decode cL_rises 84 = .ok (.aload_n 0, 1) := by decide +kernel
theorem dL_rises_85 : decode cL_rises 85 = .ok (.bipush 15, 2) := by decide +kernel
theorem dL_rises_87 : decode cL_rises 87 = .ok (.iload 4, 2) := by decide +kernel
theorem dL_rises_89 : decode cL_rises 89 = .ok (.i2l, 1) := by decide +kernel
theorem dL_rises_90 : decode cL_rises 90 = .ok (.iconst 0, 1) := by decide +kernel
theorem dL_rises_91 : decode cL_rises 91 = .ok (.invokestatic 125, 3) := by decide +kernel
theorem dL_rises_94 : decode cL_rises 94 = .ok (.lstore 6, 2) := by decide +kernel
theorem dL_rises_96 : decode cL_rises 96 = .ok (.aload_n 0, 1) := by decide +kernel
theorem dL_rises_97 : decode cL_rises 97 = .ok (.bipush 15, 2) := by decide +kernel
theorem dL_rises_99 : decode cL_rises 99 = .ok (.iload 5, 2) := by decide +kernel
theorem dL_rises_101 : decode cL_rises 101 = .ok (.i2l, 1) := by decide +kernel
theorem dL_rises_102 : decode cL_rises 102 = .ok (.iconst 0, 1) := by decide +kernel
theorem dL_rises_103 : decode cL_rises 103 = .ok (.invokestatic 125, 3) := by decide +kernel
theorem dL_rises_106 : decode cL_rises 106 = .ok (.lstore 8, 2) := by decide +kernel
theorem dL_rises_108 : decode cL_rises 108 = .ok (.lload_n 2, 1) := by decide +kernel
theorem dL_rises_109 : decode cL_rises 109 = .ok (.iload_n 1, 1) := by decide +kernel
theorem dL_rises_110 : decode cL_rises 110 = .ok (.i2l, 1) := by decide +kernel
theorem dL_rises_111 : decode cL_rises 111 = .ok (.lconst 1, 1) := by decide +kernel
theorem dL_rises_112 : decode cL_rises 112 = .ok (.ladd, 1) := by decide +kernel
theorem dL_rises_113 : decode cL_rises 113 = .ok (.lcmp, 1) := by decide +kernel
theorem dL_rises_114 : decode cL_rises 114 = .ok (.ifCond .le 37, 3) := by decide +kernel
theorem dL_rises_117 : decode cL_rises 117 = .ok (.lload 6, 2) := by decide +kernel
theorem dL_rises_119 : decode cL_rises 119 = .ok (.lconst 0, 1) := by decide +kernel
theorem dL_rises_120 : decode cL_rises 120 = .ok (.lcmp, 1) := by decide +kernel
theorem dL_rises_121 : decode cL_rises 121 = .ok (.ifCond .lt 30, 3) := by decide +kernel
theorem dL_rises_124 : decode cL_rises 124 = .ok (.lload 6, 2) := by decide +kernel
theorem dL_rises_126 : decode cL_rises 126 = .ok (.lload 8, 2) := by decide +kernel
theorem dL_rises_128 : decode cL_rises 128 = .ok (.lcmp, 1) := by decide +kernel
theorem dL_rises_129 : decode cL_rises 129 = .ok (.ifCond .lt 18, 3) := by decide +kernel
theorem dL_rises_132 : decode cL_rises 132 = .ok (.lload 6, 2) := by decide +kernel
theorem dL_rises_134 : decode cL_rises 134 = .ok (.lload 8, 2) := by decide +kernel
theorem dL_rises_136 : decode cL_rises 136 = .ok (.lcmp, 1) := by decide +kernel
theorem dL_rises_137 : decode cL_rises 137 = .ok (.ifCond .ne 14, 3) := by decide +kernel
theorem dL_rises_140 : decode cL_rises 140 = .ok (.iload 4, 2) := by decide +kernel
theorem dL_rises_142 : decode cL_rises 142 = .ok (.iload 5, 2) := by decide +kernel
theorem dL_rises_144 : decode cL_rises 144 = .ok (.if_icmp .ge 7, 3) := by decide +kernel
theorem dL_rises_147 : decode cL_rises 147 = .ok (.iconst 1, 1) := by decide +kernel
theorem dL_rises_148 : decode cL_rises 148 = .ok (.goto 4, 3) := by decide +kernel
theorem dL_rises_151 : decode cL_rises 151 = .ok (.iconst 0, 1) := by decide +kernel
theorem dL_rises_152 : decode cL_rises 152 = .ok (.ireturn, 1) := by decide +kernel
noncomputable def J_L_rises_83 (s0 : Int) (st : z_St) : Option (Int × z_St) :=
  z_g (s0 = 0 ∨ s0 = 1) <|
  some (s0, st)
set_option maxRecDepth 100000 in
set_option maxHeartbeats 4000000 in
theorem w_L_rises_83 {κ : zK} {a : Nat → Nat} {s0 : Int} {st : z_St} {o : Int × z_St} (hc : z_C κ RL cL_rises 10 28 5 (6 * 5)) (hap : z_AP κ a z_N) (he : z_EU 0 5 κ (some .boolean) z_T z_N a o.1 o.2) (h : J_L_rises_83 s0 st = some o) : z_V κ z_T z_N a 3 (6 * 3) 83 [] [.int (zI s0)] st := by
  unfold J_L_rises_83 at h
  obtain ⟨hz, h⟩ := z_g_some h
  refine z_wide (cells' := 5) (slots' := 6 * 5) (Nat.le_of_ble_eq_true rfl) (Nat.le_of_ble_eq_true rfl) ?_
  have h := Option.some.inj h
  subst h
  exact z_retUZ hc he hz dL_rises_83
noncomputable def J_L_rises_82 (st : z_St) : Option (Int × z_St) :=
  J_L_rises_83 0 st
set_option maxRecDepth 100000 in
set_option maxHeartbeats 4000000 in
theorem w_L_rises_82 {κ : zK} {a : Nat → Nat} {st : z_St} {o : Int × z_St} (hc : z_C κ RL cL_rises 10 28 5 (6 * 5)) (hap : z_AP κ a z_N) (he : z_EU 0 5 κ (some .boolean) z_T z_N a o.1 o.2) (h : J_L_rises_82 st = some o) : z_V κ z_T z_N a 3 (6 * 3) 82 [] [] st := by
  unfold J_L_rises_82 at h
  refine z_iconst hc dL_rises_82 ?_
  refine z_sub [] [] rfl ?_
  exact w_L_rises_83 hc hap he h
noncomputable def J_L_rises_75 (s0 s1 : Int) (st : z_St) : Option (Int × z_St) :=
  z_g (z32 s1 ∧ z32 s0) (if s1 = s0 then
    J_L_rises_83 1 st
  else
    J_L_rises_82 st)
set_option maxRecDepth 100000 in
set_option maxHeartbeats 4000000 in
theorem w_L_rises_75 {κ : zK} {a : Nat → Nat} {s0 s1 : Int} {st : z_St} {o : Int × z_St} (hc : z_C κ RL cL_rises 10 28 5 (6 * 5)) (hap : z_AP κ a z_N) (he : z_EU 0 5 κ (some .boolean) z_T z_N a o.1 o.2) (h : J_L_rises_75 s0 s1 st = some o) : z_V κ z_T z_N a 3 (6 * 3) 75 [] [.int (zI s0), .int (zI s1)] st := by
  unfold J_L_rises_75 at h
  refine z_icmp_ne (tgt := 82) hc dL_rises_75 (by decide) h (fun c75 h => ?_) (fun c75 h => ?_)
  · refine z_iconst hc dL_rises_78 ?_
    refine z_goto (tgt := 83) hc dL_rises_79 (by decide) ?_
    refine z_sub [] [] rfl ?_
    exact w_L_rises_83 hc hap he h
  · refine z_sub [] [] rfl ?_
    exact w_L_rises_82 hc hap he h
noncomputable def J_L_rises_61 (v1 v2 s0 : Int) (st : z_St) : Option (Int × z_St) :=
  z_g (z32 v1) <|
  z_g (z64 v2 ∧ z64 (v1 + 1)) (if v2 = v1 + 1 then
    J_L_rises_75 1 s0 st
  else
    J_L_rises_75 0 s0 st)
set_option maxRecDepth 100000 in
set_option maxHeartbeats 4000000 in
theorem w_L_rises_61 {κ : zK} {a : Nat → Nat} {v1 v2 s0 : Int} {st : z_St} {o : Int × z_St} (hc : z_C κ RL cL_rises 10 28 5 (6 * 5)) (hap : z_AP κ a z_N) (he : z_EU 0 5 κ (some .boolean) z_T z_N a o.1 o.2) (h : J_L_rises_61 v1 v2 s0 st = some o) : z_V κ z_T z_N a 3 (6 * 3) 61 [(1, .int (zI v1)), (2, .long (zJ v2))] [.int (zI s0)] st := by
  unfold J_L_rises_61 at h
  refine z_lload_n (i := 2) 1 hc dL_rises_61 rfl rfl ?_
  refine z_iload_n (i := 1) 0 hc dL_rises_62 rfl rfl ?_
  refine z_i2l hc dL_rises_63 h (fun h => ?_)
  refine z_lconst 1 hc dL_rises_64 rfl ?_
  refine z_ladd hc dL_rises_65 ?_
  refine z_lcmp_ne (tgt := 74) hc dL_rises_66 dL_rises_67 (by decide) h (fun c66 h => ?_) (fun c66 h => ?_)
  · refine z_iconst hc dL_rises_70 ?_
    refine z_goto (tgt := 75) hc dL_rises_71 (by decide) ?_
    refine z_sub [] [] rfl ?_
    exact w_L_rises_75 hc hap he h
  · refine z_iconst hc dL_rises_74 ?_
    refine z_sub [] [] rfl ?_
    exact w_L_rises_75 hc hap he h
noncomputable def J_L_rises_152 (s0 : Int) (st : z_St) : Option (Int × z_St) :=
  z_g (s0 = 0 ∨ s0 = 1) <|
  some (s0, st)
set_option maxRecDepth 100000 in
set_option maxHeartbeats 4000000 in
theorem w_L_rises_152 {κ : zK} {a : Nat → Nat} {s0 : Int} {st : z_St} {o : Int × z_St} (hc : z_C κ RL cL_rises 10 28 5 (6 * 5)) (hap : z_AP κ a z_N) (he : z_EU 0 5 κ (some .boolean) z_T z_N a o.1 o.2) (h : J_L_rises_152 s0 st = some o) : z_V κ z_T z_N a 5 (6 * 5) 152 [] [.int (zI s0)] st := by
  unfold J_L_rises_152 at h
  obtain ⟨hz, h⟩ := z_g_some h
  have h := Option.some.inj h
  subst h
  exact z_retUZ hc he hz dL_rises_152
noncomputable def J_L_rises_151 (st : z_St) : Option (Int × z_St) :=
  J_L_rises_152 0 st
set_option maxRecDepth 100000 in
set_option maxHeartbeats 4000000 in
theorem w_L_rises_151 {κ : zK} {a : Nat → Nat} {st : z_St} {o : Int × z_St} (hc : z_C κ RL cL_rises 10 28 5 (6 * 5)) (hap : z_AP κ a z_N) (he : z_EU 0 5 κ (some .boolean) z_T z_N a o.1 o.2) (h : J_L_rises_151 st = some o) : z_V κ z_T z_N a 5 (6 * 5) 151 [] [] st := by
  unfold J_L_rises_151 at h
  refine z_iconst hc dL_rises_151 ?_
  refine z_sub [] [] rfl ?_
  exact w_L_rises_152 hc hap he h
noncomputable def J_L_rises_147 (st : z_St) : Option (Int × z_St) :=
  J_L_rises_152 1 st
set_option maxRecDepth 100000 in
set_option maxHeartbeats 4000000 in
theorem w_L_rises_147 {κ : zK} {a : Nat → Nat} {st : z_St} {o : Int × z_St} (hc : z_C κ RL cL_rises 10 28 5 (6 * 5)) (hap : z_AP κ a z_N) (he : z_EU 0 5 κ (some .boolean) z_T z_N a o.1 o.2) (h : J_L_rises_147 st = some o) : z_V κ z_T z_N a 5 (6 * 5) 147 [] [] st := by
  unfold J_L_rises_147 at h
  refine z_iconst hc dL_rises_147 ?_
  refine z_goto (tgt := 152) hc dL_rises_148 (by decide) ?_
  refine z_sub [] [] rfl ?_
  exact w_L_rises_152 hc hap he h
noncomputable def J_L_rises (x1 : Int) (st : z_St) : Option (Int × z_St) :=
  z_b (J_L_ask 27 8 0 st) fun r1 =>
  z_g (z32 x1) <|
  z_b (J_L_ask 17 x1 0 r1.2) fun r2 =>
  z_g (z32 (x1 + 1)) <|
  z_b (J_L_ask 17 (x1 + 1) 0 r2.2) fun r3 =>
  z_g (z32 r3.1) (if r3.1 < 0 then
    z_g (z32 x1) <|
    z_g (z64 r1.1 ∧ z64 (x1 + 1)) (if x1 + 1 < r1.1 then
      J_L_rises_82 r3.2
    else
      z_g (z32 r2.1) (if 0 < r2.1 then
        J_L_rises_61 x1 r1.1 1 r3.2
      else
        J_L_rises_61 x1 r1.1 0 r3.2))
  else
    z_g (z32 r2.1) <|
    z_b (J_L_ask 15 r2.1 0 r3.2) fun r4 =>
    z_g (z32 r3.1) <|
    z_b (J_L_ask 15 r3.1 0 r4.2) fun r5 =>
    z_g (z32 x1) <|
    z_g (z64 r1.1 ∧ z64 (x1 + 1)) (if x1 + 1 < r1.1 then
      z_g (z64 r4.1 ∧ z64 0) (if r4.1 < 0 then
        J_L_rises_151 r5.2
      else
        z_g (z64 r4.1 ∧ z64 r5.1) (if r4.1 < r5.1 then
          J_L_rises_147 r5.2
        else
          z_g (z64 r4.1 ∧ z64 r5.1) (if r4.1 = r5.1 then
            z_g (z32 r2.1 ∧ z32 r3.1) (if r2.1 < r3.1 then
              J_L_rises_147 r5.2
            else
              J_L_rises_151 r5.2)
          else
            J_L_rises_151 r5.2)))
    else
      J_L_rises_151 r5.2))
set_option maxRecDepth 100000 in
set_option maxHeartbeats 4000000 in
theorem w_L_rises {κ : zK} {a : Nat → Nat} {x1 : Int} {st : z_St} {o : Int × z_St} (hc : z_C κ RL cL_rises 10 28 5 (6 * 5)) (hap : z_AP κ a z_N) (he : z_EU 0 5 κ (some .boolean) z_T z_N a o.1 o.2) (h : J_L_rises x1 st = some o) : z_V κ z_T z_N a 0 (6 * 0) 0 [(0, .ref (a 0)), (1, .int (zI x1))] [] st := by
  unfold J_L_rises at h
  refine z_aload_n (i := 0) 0 hc dL_rises_0 rfl rfl ?_
  refine z_bipush hc dL_rises_1 rfl ?_
  refine z_ldc2 8 hc kc_RL_137 dL_rises_3 rfl ?_
  refine z_iconst hc dL_rises_6 ?_
  obtain ⟨r1, hr1, h⟩ := z_b_some h
  refine z_callUJ 1 (6 * 1) (mu := 1) [.ref (a 0), .int (zI 27), .long (zJ 8), .int (zI 0)] hc hap o_L_ask ml_RL_125 (fun l hl => c_L_ask hl hr1) (by decide) rfl rfl (Nat.le_of_ble_eq_true rfl) (by omega) (by omega) (by omega) (by omega) dL_rises_7 ?_
  refine z_lstore_n (i := 2) [(2, .long (zJ r1.1)), (0, .ref (a 0)), (1, .int (zI x1))] hc dL_rises_10 rfl (by decide) rfl ?_
  refine z_aload_n (i := 0) 1 hc dL_rises_11 rfl rfl ?_
  refine z_bipush hc dL_rises_12 rfl ?_
  refine z_iload_n (i := 1) 2 hc dL_rises_14 rfl rfl ?_
  refine z_i2l hc dL_rises_15 h (fun h => ?_)
  refine z_iconst hc dL_rises_16 ?_
  obtain ⟨r2, hr2, h⟩ := z_b_some h
  refine z_callUJ 2 (6 * 2) (mu := 1) [.ref (a 0), .int (zI 17), .long (zJ x1), .int (zI 0)] hc hap o_L_ask ml_RL_125 (fun l hl => c_L_ask hl hr2) (by decide) rfl rfl (Nat.le_of_ble_eq_true rfl) (by omega) (by omega) (by omega) (by omega) dL_rises_17 ?_
  refine z_l2i hc dL_rises_20 ?_
  refine z_istore [(4, .int (zI r2.1)), (2, .long (zJ r1.1)), (0, .ref (a 0)), (1, .int (zI x1))] hc dL_rises_21 (by decide) rfl ?_
  refine z_aload_n (i := 0) 2 hc dL_rises_23 rfl rfl ?_
  refine z_bipush hc dL_rises_24 rfl ?_
  refine z_iload_n (i := 1) 3 hc dL_rises_26 rfl rfl ?_
  refine z_iconst hc dL_rises_27 ?_
  refine z_iadd hc dL_rises_28 ?_
  refine z_i2l hc dL_rises_29 h (fun h => ?_)
  refine z_iconst hc dL_rises_30 ?_
  obtain ⟨r3, hr3, h⟩ := z_b_some h
  refine z_callUJ 3 (6 * 3) (mu := 1) [.ref (a 0), .int (zI 17), .long (zJ (x1 + 1)), .int (zI 0)] hc hap o_L_ask ml_RL_125 (fun l hl => c_L_ask hl hr3) (by decide) rfl rfl (Nat.le_of_ble_eq_true rfl) (by omega) (by omega) (by omega) (by omega) dL_rises_31 ?_
  refine z_l2i hc dL_rises_34 ?_
  refine z_istore [(5, .int (zI r3.1)), (4, .int (zI r2.1)), (2, .long (zJ r1.1)), (0, .ref (a 0)), (1, .int (zI x1))] hc dL_rises_35 (by decide) rfl ?_
  refine z_iload 0 hc dL_rises_37 rfl ?_
  refine z_if_ge (tgt := 84) hc dL_rises_39 (by decide) h (fun c39 h => ?_) (fun c39 h => ?_)
  · refine z_lload_n (i := 2) 2 hc dL_rises_42 rfl rfl ?_
    refine z_iload_n (i := 1) 4 hc dL_rises_43 rfl rfl ?_
    refine z_i2l hc dL_rises_44 h (fun h => ?_)
    refine z_lconst 1 hc dL_rises_45 rfl ?_
    refine z_ladd hc dL_rises_46 ?_
    refine z_lcmp_gt (tgt := 82) hc dL_rises_47 dL_rises_48 (by decide) h (fun c47 h => ?_) (fun c47 h => ?_)
    · refine z_sub [] [] rfl ?_
      exact w_L_rises_82 hc hap he h
    · refine z_iload 1 hc dL_rises_51 rfl ?_
      refine z_if_le (tgt := 60) hc dL_rises_53 (by decide) h (fun c53 h => ?_) (fun c53 h => ?_)
      · refine z_iconst hc dL_rises_56 ?_
        refine z_goto (tgt := 61) hc dL_rises_57 (by decide) ?_
        refine z_sub [(1, .int (zI x1)), (2, .long (zJ r1.1))] [4, 2] rfl ?_
        exact w_L_rises_61 hc hap he h
      · refine z_iconst hc dL_rises_60 ?_
        refine z_sub [(1, .int (zI x1)), (2, .long (zJ r1.1))] [4, 2] rfl ?_
        exact w_L_rises_61 hc hap he h
  · refine z_aload_n (i := 0) 3 hc dL_rises_84 rfl rfl ?_
    refine z_bipush hc dL_rises_85 rfl ?_
    refine z_iload 1 hc dL_rises_87 rfl ?_
    refine z_i2l hc dL_rises_89 h (fun h => ?_)
    refine z_iconst hc dL_rises_90 ?_
    obtain ⟨r4, hr4, h⟩ := z_b_some h
    refine z_callUJ 4 (6 * 4) (mu := 1) [.ref (a 0), .int (zI 15), .long (zJ r2.1), .int (zI 0)] hc hap o_L_ask ml_RL_125 (fun l hl => c_L_ask hl hr4) (by decide) rfl rfl (Nat.le_of_ble_eq_true rfl) (by omega) (by omega) (by omega) (by omega) dL_rises_91 ?_
    refine z_lstore [(6, .long (zJ r4.1)), (5, .int (zI r3.1)), (4, .int (zI r2.1)), (2, .long (zJ r1.1)), (0, .ref (a 0)), (1, .int (zI x1))] hc dL_rises_94 (by decide) rfl ?_
    refine z_aload_n (i := 0) 4 hc dL_rises_96 rfl rfl ?_
    refine z_bipush hc dL_rises_97 rfl ?_
    refine z_iload 1 hc dL_rises_99 rfl ?_
    refine z_i2l hc dL_rises_101 h (fun h => ?_)
    refine z_iconst hc dL_rises_102 ?_
    obtain ⟨r5, hr5, h⟩ := z_b_some h
    refine z_callUJ 5 (6 * 5) (mu := 1) [.ref (a 0), .int (zI 15), .long (zJ r3.1), .int (zI 0)] hc hap o_L_ask ml_RL_125 (fun l hl => c_L_ask hl hr5) (by decide) rfl rfl (Nat.le_of_ble_eq_true rfl) (by omega) (by omega) (by omega) (by omega) dL_rises_103 ?_
    refine z_lstore [(8, .long (zJ r5.1)), (6, .long (zJ r4.1)), (5, .int (zI r3.1)), (4, .int (zI r2.1)), (2, .long (zJ r1.1)), (0, .ref (a 0)), (1, .int (zI x1))] hc dL_rises_106 (by decide) rfl ?_
    refine z_lload_n (i := 2) 4 hc dL_rises_108 rfl rfl ?_
    refine z_iload_n (i := 1) 6 hc dL_rises_109 rfl rfl ?_
    refine z_i2l hc dL_rises_110 h (fun h => ?_)
    refine z_lconst 1 hc dL_rises_111 rfl ?_
    refine z_ladd hc dL_rises_112 ?_
    refine z_lcmp_le (tgt := 151) hc dL_rises_113 dL_rises_114 (by decide) h (fun c113 h => ?_) (fun c113 h => ?_)
    · refine z_lload 1 hc dL_rises_117 rfl ?_
      refine z_lconst 0 hc dL_rises_119 rfl ?_
      refine z_lcmp_lt (tgt := 151) hc dL_rises_120 dL_rises_121 (by decide) h (fun c120 h => ?_) (fun c120 h => ?_)
      · refine z_sub [] [] rfl ?_
        exact w_L_rises_151 hc hap he h
      · refine z_lload 1 hc dL_rises_124 rfl ?_
        refine z_lload 0 hc dL_rises_126 rfl ?_
        refine z_lcmp_lt (tgt := 147) hc dL_rises_128 dL_rises_129 (by decide) h (fun c128 h => ?_) (fun c128 h => ?_)
        · refine z_sub [] [] rfl ?_
          exact w_L_rises_147 hc hap he h
        · refine z_lload 1 hc dL_rises_132 rfl ?_
          refine z_lload 0 hc dL_rises_134 rfl ?_
          refine z_lcmp_ne (tgt := 151) hc dL_rises_136 dL_rises_137 (by decide) h (fun c136 h => ?_) (fun c136 h => ?_)
          · refine z_iload 3 hc dL_rises_140 rfl ?_
            refine z_iload 2 hc dL_rises_142 rfl ?_
            refine z_icmp_ge (tgt := 151) hc dL_rises_144 (by decide) h (fun c144 h => ?_) (fun c144 h => ?_)
            · refine z_sub [] [] rfl ?_
              exact w_L_rises_147 hc hap he h
            · refine z_sub [] [] rfl ?_
              exact w_L_rises_151 hc hap he h
          · refine z_sub [] [] rfl ?_
            exact w_L_rises_151 hc hap he h
    · refine z_sub [] [] rfl ?_
      exact w_L_rises_151 hc hap he h
set_option maxRecDepth 100000 in
set_option maxHeartbeats 4000000 in
theorem c_L_rises {l : Launch} (hl : l.stackTraces = false) {a : Nat → Nat} {x1 : Int} {st : z_St} {o : Int × z_St} (h : J_L_rises x1 st = some o) : z_MU 0 5 l yL_rises (z_w yL_rises cL_rises 10 (some .boolean)) 28 z_T z_N a [.ref (a 0), .int (zI x1)] st o.1 o.2 := z_ofU hl (by decide +kernel) (Nat.le_of_ble_eq_true rfl) (fun κ hc hap he => w_L_rises hc hap he h)
