theorem dX3_arcAt_0 : decode cX3_arcAt 0 = .ok (.iload_n 0, 1) := by decide +kernel
theorem dX3_arcAt_1 : decode cX3_arcAt 1 = .ok (.bipush 17, 2) := by decide +kernel
theorem dX3_arcAt_3 : decode cX3_arcAt 3 = .ok (.imul, 1) := by decide +kernel
theorem dX3_arcAt_4 : decode cX3_arcAt 4 = .ok (.iload_n 1, 1) := by decide +kernel
theorem dX3_arcAt_5 : decode cX3_arcAt 5 = .ok (.iadd, 1) := by decide +kernel
theorem dX3_arcAt_6 : decode cX3_arcAt 6 = .ok (.bipush 17, 2) := by decide +kernel
theorem dX3_arcAt_8 : decode cX3_arcAt 8 = .ok (.imul, 1) := by decide +kernel
theorem dX3_arcAt_9 : decode cX3_arcAt 9 = .ok (.iload_n 2, 1) := by decide +kernel
theorem dX3_arcAt_10 : decode cX3_arcAt 10 = .ok (.iadd, 1) := by decide +kernel
theorem dX3_arcAt_11 : decode cX3_arcAt 11 = .ok (.ireturn, 1) := by decide +kernel
def J_X3_arcAt (x0 x1 x2 : Int) (st : z_St) : Option (Int) :=
  some ((((x0 * 17) + x1) * 17) + x2)
set_option maxRecDepth 100000 in
set_option maxHeartbeats 4000000 in
theorem w_X3_arcAt {κ : zK} {a : Nat → Nat} {x0 x1 x2 : Int} {st : z_St} {o : Int} (hc : z_C κ RX3 cX3_arcAt 3 8 0 0) (hap : z_AP κ a z_N) (he : z_E 0 κ (some .int) z_T z_N a o st) (h : J_X3_arcAt x0 x1 x2 st = some o) : z_V κ z_T z_N a 0 0 0 [(0, .int (zI x0)), (1, .int (zI x1)), (2, .int (zI x2))] [] st := by
  unfold J_X3_arcAt at h
  refine z_iload_n (i := 0) 0 hc dX3_arcAt_0 rfl rfl ?_
  refine z_bipush hc dX3_arcAt_1 rfl ?_
  refine z_imul hc dX3_arcAt_3 ?_
  refine z_iload_n (i := 1) 1 hc dX3_arcAt_4 rfl rfl ?_
  refine z_iadd hc dX3_arcAt_5 ?_
  refine z_bipush hc dX3_arcAt_6 rfl ?_
  refine z_imul hc dX3_arcAt_8 ?_
  refine z_iload_n (i := 2) 2 hc dX3_arcAt_9 rfl rfl ?_
  refine z_iadd hc dX3_arcAt_10 ?_
  have h := Option.some.inj h
  subst h
  exact z_retI hc he dX3_arcAt_11
set_option maxRecDepth 100000 in
set_option maxHeartbeats 4000000 in
theorem c_X3_arcAt {l : Launch} (hl : l.stackTraces = false) {a : Nat → Nat} {x0 x1 x2 : Int} {st : z_St} {o : Int} (h : J_X3_arcAt x0 x1 x2 st = some o) : z_M 0 l yX3_arcAt cX3_arcAt 3 (some .int) 8 z_T z_N a [.int (zI x0), .int (zI x1), .int (zI x2)] st o st := z_of hl (by decide +kernel) (Nat.le_of_ble_eq_true rfl) (fun κ hc hap he => w_X3_arcAt hc hap he h)
theorem dX3_fill_0 : decode cX3_fill 0 = .ok (.aload_n 0, 1) := by decide +kernel
theorem dX3_fill_1 : decode cX3_fill 1 = .ok (.iload_n 2, 1) := by decide +kernel
theorem dX3_fill_2 : decode cX3_fill 2 = .ok (.putfield 21, 3) := by decide +kernel
theorem dX3_fill_5 : decode cX3_fill 5 = .ok (.aload_n 0, 1) := by decide +kernel
theorem dX3_fill_6 : decode cX3_fill 6 = .ok (.iload_n 3, 1) := by decide +kernel
theorem dX3_fill_7 : decode cX3_fill 7 = .ok (.putfield 25, 3) := by decide +kernel
theorem dX3_fill_10 : decode cX3_fill 10 = .ok (.iconst 0, 1) := by decide +kernel
theorem dX3_fill_11 : decode cX3_fill 11 = .ok (.istore 6, 2) := by decide +kernel
theorem dX3_fill_13 : decode cX3_fill 13 = .ok (.iload 6, 2) := by decide +kernel
theorem dX3_fill_15 : decode cX3_fill 15 = .ok (.iconst 4, 1) := by decide +kernel
theorem dX3_fill_16 : decode cX3_fill 16 = .ok (.if_icmp .ge 95, 3) := by decide +kernel
theorem dX3_fill_19 : decode cX3_fill 19 = .ok (.iconst 0, 1) := by decide +kernel
theorem dX3_fill_20 : decode cX3_fill 20 = .ok (.istore 7, 2) := by decide +kernel
theorem dX3_fill_22 : decode cX3_fill 22 = .ok (.iload 7, 2) := by decide +kernel
theorem dX3_fill_24 : decode cX3_fill 24 = .ok (.aload_n 0, 1) := by decide +kernel
theorem dX3_fill_25 : decode cX3_fill 25 = .ok (.getfield 21, 3) := by decide +kernel
theorem dX3_fill_28 : decode cX3_fill 28 = .ok (.if_icmp .ge 77, 3) := by decide +kernel
theorem dX3_fill_31 : decode cX3_fill 31 = .ok (.iconst 0, 1) := by decide +kernel
theorem dX3_fill_32 : decode cX3_fill 32 = .ok (.istore 8, 2) := by decide +kernel
theorem dX3_fill_34 : decode cX3_fill 34 = .ok (.iload 8, 2) := by decide +kernel
theorem dX3_fill_36 : decode cX3_fill 36 = .ok (.aload_n 0, 1) := by decide +kernel
theorem dX3_fill_37 : decode cX3_fill 37 = .ok (.getfield 25, 3) := by decide +kernel
theorem dX3_fill_40 : decode cX3_fill 40 = .ok (.if_icmp .gt 59, 3) := by decide +kernel
theorem dX3_fill_43 : decode cX3_fill 43 = .ok (.aload_n 0, 1) := by decide +kernel
theorem dX3_fill_44 : decode cX3_fill 44 = .ok (.getfield 15, 3) := by decide +kernel
theorem dX3_fill_47 : decode cX3_fill 47 = .ok (.iload 6, 2) := by decide +kernel
theorem dX3_fill_49 : decode cX3_fill 49 = .ok (.iload 7, 2) := by decide +kernel
theorem dX3_fill_51 : decode cX3_fill 51 = .ok (.iload 8, 2) := by decide +kernel
theorem dX3_fill_53 : decode cX3_fill 53 = .ok (.invokestatic 32, 3) := by decide +kernel
theorem dX3_fill_56 : decode cX3_fill 56 = .ok (.aload_n 0, 1) := by decide +kernel
theorem dX3_fill_57 : decode cX3_fill 57 = .ok (.iload 6, 2) := by decide +kernel
theorem dX3_fill_59 : decode cX3_fill 59 = .ok (.iload 7, 2) := by decide +kernel
theorem dX3_fill_61 : decode cX3_fill 61 = .ok (.iload 8, 2) := by decide +kernel
theorem dX3_fill_63 : decode cX3_fill 63 = .ok (.aload_n 1, 1) := by decide +kernel
theorem dX3_fill_64 : decode cX3_fill 64 = .ok (.invokevirtual 36, 3) := by decide +kernel
theorem dX3_fill_67 : decode cX3_fill 67 = .ok (.lastore, 1) := by decide +kernel
theorem dX3_fill_68 : decode cX3_fill 68 = .ok (.aload_n 0, 1) := by decide +kernel
theorem dX3_fill_69 : decode cX3_fill 69 = .ok (.getfield 18, 3) := by decide +kernel
theorem dX3_fill_72 : decode cX3_fill 72 = .ok (.iload 6, 2) := by decide +kernel
theorem dX3_fill_74 : decode cX3_fill 74 = .ok (.iload 7, 2) := by decide +kernel
theorem dX3_fill_76 : decode cX3_fill 76 = .ok (.iload 8, 2) := by decide +kernel
theorem dX3_fill_78 : decode cX3_fill 78 = .ok (.invokestatic 32, 3) := by decide +kernel
theorem dX3_fill_81 : decode cX3_fill 81 = .ok (.aload_n 0, 1) := by decide +kernel
theorem dX3_fill_82 : decode cX3_fill 82 = .ok (.iload 6, 2) := by decide +kernel
theorem dX3_fill_84 : decode cX3_fill 84 = .ok (.iload 7, 2) := by decide +kernel
theorem dX3_fill_86 : decode cX3_fill 86 = .ok (.iload 8, 2) := by decide +kernel
theorem dX3_fill_88 : decode cX3_fill 88 = .ok (.aload_n 1, 1) := by decide +kernel
theorem dX3_fill_89 : decode cX3_fill 89 = .ok (.invokevirtual 40, 3) := by decide +kernel
theorem dX3_fill_92 : decode cX3_fill 92 = .ok (.lastore, 1) := by decide +kernel
theorem dX3_fill_93 : decode cX3_fill 93 = .ok (.iinc 8 1, 3) := by decide +kernel
theorem dX3_fill_96 : decode cX3_fill 96 = .ok (.goto (-62), 3) := by decide +kernel
theorem dX3_fill_99 : decode cX3_fill 99 = .ok (.iinc 7 1, 3) := by decide +kernel
theorem dX3_fill_102 : decode cX3_fill 102 = .ok (.goto (-80), 3) := by decide +kernel
theorem dX3_fill_105 : decode cX3_fill 105 = .ok (.iinc 6 1, 3) := by decide +kernel
theorem dX3_fill_108 : decode cX3_fill 108 = .ok (.goto (-95), 3) := by decide +kernel
theorem dX3_fill_111 : decode cX3_fill 111 = .ok (.iconst 0, 1) := by decide +kernel
theorem dX3_fill_112 : decode cX3_fill 112 = .ok (.istore 6, 2) := by decide +kernel
theorem dX3_fill_114 : decode cX3_fill 114 = .ok (.iload 6, 2) := by decide +kernel
theorem dX3_fill_116 : decode cX3_fill 116 = .ok (.aload_n 0, 1) := by decide +kernel
theorem dX3_fill_117 : decode cX3_fill 117 = .ok (.getfield 21, 3) := by decide +kernel
theorem dX3_fill_120 : decode cX3_fill 120 = .ok (.if_icmp .ge 105, 3) := by decide +kernel
theorem dX3_fill_123 : decode cX3_fill 123 = .ok (.iconst 0, 1) := by decide +kernel
theorem dX3_fill_124 : decode cX3_fill 124 = .ok (.istore 7, 2) := by decide +kernel
theorem dX3_fill_126 : decode cX3_fill 126 = .ok (.iload 7, 2) := by decide +kernel
theorem dX3_fill_128 : decode cX3_fill 128 = .ok (.aload_n 0, 1) := by decide +kernel
theorem dX3_fill_129 : decode cX3_fill 129 = .ok (.getfield 25, 3) := by decide +kernel
theorem dX3_fill_132 : decode cX3_fill 132 = .ok (.if_icmp .ge 87, 3) := by decide +kernel
theorem dX3_fill_135 : decode cX3_fill 135 = .ok (.iload 7, 2) := by decide +kernel
theorem dX3_fill_137 : decode cX3_fill 137 = .ok (.iconst 1, 1) := by decide +kernel
theorem dX3_fill_138 : decode cX3_fill 138 = .ok (.iadd, 1) := by decide +kernel
theorem dX3_fill_139 : decode cX3_fill 139 = .ok (.istore 8, 2) := by decide +kernel
theorem dX3_fill_141 : decode cX3_fill 141 = .ok (.iload 8, 2) := by decide +kernel
theorem dX3_fill_143 : decode cX3_fill 143 = .ok (.aload_n 0, 1) := by decide +kernel
theorem dX3_fill_144 : decode cX3_fill 144 = .ok (.getfield 25, 3) := by decide +kernel
theorem dX3_fill_147 : decode cX3_fill 147 = .ok (.if_icmp .gt 66, 3) := by decide +kernel
theorem dX3_fill_150 : decode cX3_fill 150 = .ok (.aload_n 0, 1) := by decide +kernel
theorem dX3_fill_151 : decode cX3_fill 151 = .ok (.iload 6, 2) := by decide +kernel
theorem dX3_fill_153 : decode cX3_fill 153 = .ok (.iload 7, 2) := by decide +kernel
theorem dX3_fill_155 : decode cX3_fill 155 = .ok (.iload 8, 2) := by decide +kernel
theorem dX3_fill_157 : decode cX3_fill 157 = .ok (.invokevirtual 43, 3) := by decide +kernel
theorem dX3_fill_160 : decode cX3_fill 160 = .ok (.aload_n 1, 1) := by decide +kernel
theorem dX3_fill_161 : decode cX3_fill 161 = .ok (.iload 6, 2) := by decide +kernel
theorem dX3_fill_163 : decode cX3_fill 163 = .ok (.iload 7, 2) := by decide +kernel
theorem dX3_fill_165 : decode cX3_fill 165 = .ok (.iload 8, 2) := by decide +kernel
theorem dX3_fill_167 : decode cX3_fill 167 = .ok (.invokevirtual 47, 3) := by decide +kernel
theorem dX3_fill_170 : decode cX3_fill 170 = .ok (.ladd, 1) := by decide +kernel
theorem dX3_fill_171 : decode cX3_fill 171 = .ok (.lstore 9, 2) := by decide +kernel
theorem dX3_fill_173 : decode cX3_fill 173 = .ok (.aload_n 0, 1) := by decide +kernel
theorem dX3_fill_174 : decode cX3_fill 174 = .ok (.getfield 9, 3) := by decide +kernel
theorem dX3_fill_177 : decode cX3_fill 177 = .ok (.iload 6, 2) := by decide +kernel
theorem dX3_fill_179 : decode cX3_fill 179 = .ok (.iload 7, 2) := by decide +kernel
theorem dX3_fill_181 : decode cX3_fill 181 = .ok (.iload 8, 2) := by decide +kernel
theorem dX3_fill_183 : decode cX3_fill 183 = .ok (.invokestatic 52, 3) := by decide +kernel
theorem dX3_fill_186 : decode cX3_fill 186 = .ok (.lload 9, 2) := by decide +kernel
theorem dX3_fill_188 : decode cX3_fill 188 = .ok (.ldc2_w 55, 3) := by decide +kernel
theorem dX3_fill_191 : decode cX3_fill 191 = .ok (.lcmp, 1) := by decide +kernel
theorem dX3_fill_192 : decode cX3_fill 192 = .ok (.ifCond .lt 9, 3) := by decide +kernel
theorem dX3_fill_195 : decode cX3_fill 195 = .ok (.ldc2_w 55, 3) := by decide +kernel
theorem dX3_fill_198 : decode cX3_fill 198 = .ok (.goto 8, 3) := by decide +kernel
theorem dX3_fill_201 : decode cX3_fill 201 = .ok (.lload 9, 2) := by decide +kernel
theorem dX3_fill_203 : decode cX3_fill 203 = .ok (.lload 4, 2) := by decide +kernel
theorem dX3_fill_205 : decode cX3_fill 205 = .ok (.lsub, 1) := by decide +kernel
theorem dX3_fill_206 : decode cX3_fill 206 = .ok (.lastore, 1) := by decide +kernel
theorem dX3_fill_207 : decode cX3_fill 207 = .ok (.iinc 8 1, 3) := by decide +kernel
theorem dX3_fill_210 : decode cX3_fill 210 = .ok (.goto (-69), 3) := by decide +kernel
theorem dX3_fill_213 : decode cX3_fill 213 = .ok (.iinc 7 1, 3) := by decide +kernel
theorem dX3_fill_216 : decode cX3_fill 216 = .ok (.goto (-90), 3) := by decide +kernel
theorem dX3_fill_219 : decode cX3_fill 219 = .ok (.iinc 6 1, 3) := by decide +kernel
theorem dX3_fill_222 : decode cX3_fill 222 = .ok (.goto (-108), 3) := by decide +kernel
theorem dX3_fill_225 : decode cX3_fill 225 = .ok (.aload_n 0, 1) := by decide +kernel
theorem dX3_fill_226 : decode cX3_fill 226 = .ok (.iconst 1, 1) := by decide +kernel
theorem dX3_fill_227 : decode cX3_fill 227 = .ok (.putfield 28, 3) := by decide +kernel
theorem dX3_fill_230 : decode cX3_fill 230 = .ok (.return_, 1) := by decide +kernel
def J_X3_fill_b34 (v4 v6 v7 v8 : Int) (st : z_St) : Option ((Int × z_St) ⊕ z_St) :=
  z_g (z32 v8 ∧ z32 (st 144 4)) (if st 144 4 < v8 then
    some (.inr st)
  else
    z_b (J_X3_index v6 v7 v8 st) fun r3 =>
    z_b (J_X3_leadOf v6 v7 v8 st) fun r5 =>
    z_g (0 ≤ r3 ∧ r3 < 340) <|
    z_let (z_up st 146 r3 r5) fun st7 =>
    z_b (J_X3_index v6 v7 v8 st7) fun r8 =>
    z_b (J_X3_trailOf v6 v7 v8 st7) fun r10 =>
    z_g (0 ≤ r8 ∧ r8 < 340) <|
    z_let (z_up st7 147 r8 r10) fun st12 =>
    some (.inl (v8 + 1, st12)))
set_option maxRecDepth 100000 in
set_option maxHeartbeats 4000000 in
theorem w_X3_fill_b34 {κ : zK} {a : Nat → Nat} {v4 v6 v7 v8 : Int} {st : z_St} {mc9 ms9 : Nat} {o : (Int × z_St) ⊕ z_St} (hc : z_C κ RX3 cX3_fill 11 10 mc9 ms9) (hap : z_AP κ a z_N) (k1 : ∀ s9 : (Int × z_St), o = .inl s9 → z_V κ z_T z_N a 0 0 34 [(0, .ref (a 144)), (1, .ref (a 99)), (4, .long (zJ v4)), (6, .int (zI v6)), (7, .int (zI v7)), (8, .int (zI s9.1))] [] s9.2) (k2 : ∀ x9 : z_St, o = .inr x9 → z_V κ z_T z_N a 0 0 99 [(0, .ref (a 144)), (1, .ref (a 99)), (4, .long (zJ v4)), (6, .int (zI v6)), (7, .int (zI v7))] [] x9) (h : J_X3_fill_b34 v4 v6 v7 v8 st = some o) : z_V κ z_T z_N a 0 0 34 [(0, .ref (a 144)), (1, .ref (a 99)), (4, .long (zJ v4)), (6, .int (zI v6)), (7, .int (zI v7)), (8, .int (zI v8))] [] st := by
  unfold J_X3_fill_b34 at h
  refine z_iload 5 hc dX3_fill_34 rfl ?_
  refine z_aload_n (i := 0) 0 hc dX3_fill_36 rfl rfl ?_
  refine z_getI (kI := 144) (jI := 4) hc fl_RX3_25 tT_144 (by decide) rfl rfl rfl dX3_fill_37 ?_
  refine z_icmp_gt (tgt := 99) hc dX3_fill_40 (by decide) h (fun c40 h => ?_) (fun c40 h => ?_)
  · refine z_sub [(0, .ref (a 144)), (1, .ref (a 99)), (4, .long (zJ v4)), (6, .int (zI v6)), (7, .int (zI v7))] [0, 1, 2, 3, 4] rfl ?_
    exact k2 st (Option.some.inj h).symm
  · refine z_aload_n (i := 0) 0 hc dX3_fill_43 rfl rfl ?_
    refine z_getA (k' := 146) hc fl_RX3_15 tT_144 (by decide) rfl rfl dX3_fill_44 ?_
    refine z_iload 3 hc dX3_fill_47 rfl ?_
    refine z_iload 4 hc dX3_fill_49 rfl ?_
    refine z_iload 5 hc dX3_fill_51 rfl ?_
    obtain ⟨r3, hr3, h⟩ := z_b_some h
    refine z_callSI [.int (zI v6), .int (zI v7), .int (zI v8)] hc hap o_X3_index ml_RX3_32 (fun l hl => c_X3_index hl  hr3) (by decide) rfl rfl (Nat.le_of_ble_eq_true rfl) (Nat.zero_le _) (Nat.zero_le _) dX3_fill_53 ?_
    refine z_aload_n (i := 0) 0 hc dX3_fill_56 rfl rfl ?_
    refine z_iload 3 hc dX3_fill_57 rfl ?_
    refine z_iload 4 hc dX3_fill_59 rfl ?_
    refine z_iload 5 hc dX3_fill_61 rfl ?_
    refine z_aload_n (i := 1) 1 hc dX3_fill_63 rfl rfl ?_
    obtain ⟨r5, hr5, h⟩ := z_b_some h
    refine z_callVJ [.int (zI v6), .int (zI v7), .int (zI v8), .ref (a 99)] hc hap o_X3_leadOf ml_RX3_36 (fun l hl => c_X3_leadOf hl  hr5) (by decide) tT_144 (by decide) ⟨_, rfl, rfl⟩ rfl rfl (Nat.le_of_ble_eq_true rfl) (Nat.zero_le _) (Nat.zero_le _) dX3_fill_64 ?_
    refine z_last (kI := 146) (nI9 := 340) hc hap tT_146 (by decide) rfl rfl (by decide) dX3_fill_67 h (fun st7 h => ?_)
    refine z_aload_n (i := 0) 0 hc dX3_fill_68 rfl rfl ?_
    refine z_getA (k' := 147) hc fl_RX3_18 tT_144 (by decide) rfl rfl dX3_fill_69 ?_
    refine z_iload 3 hc dX3_fill_72 rfl ?_
    refine z_iload 4 hc dX3_fill_74 rfl ?_
    refine z_iload 5 hc dX3_fill_76 rfl ?_
    obtain ⟨r8, hr8, h⟩ := z_b_some h
    refine z_callSI [.int (zI v6), .int (zI v7), .int (zI v8)] hc hap o_X3_index ml_RX3_32 (fun l hl => c_X3_index hl  hr8) (by decide) rfl rfl (Nat.le_of_ble_eq_true rfl) (Nat.zero_le _) (Nat.zero_le _) dX3_fill_78 ?_
    refine z_aload_n (i := 0) 0 hc dX3_fill_81 rfl rfl ?_
    refine z_iload 3 hc dX3_fill_82 rfl ?_
    refine z_iload 4 hc dX3_fill_84 rfl ?_
    refine z_iload 5 hc dX3_fill_86 rfl ?_
    refine z_aload_n (i := 1) 1 hc dX3_fill_88 rfl rfl ?_
    obtain ⟨r10, hr10, h⟩ := z_b_some h
    refine z_callVJ [.int (zI v6), .int (zI v7), .int (zI v8), .ref (a 99)] hc hap o_X3_trailOf ml_RX3_40 (fun l hl => c_X3_trailOf hl  hr10) (by decide) tT_144 (by decide) ⟨_, rfl, rfl⟩ rfl rfl (Nat.le_of_ble_eq_true rfl) (Nat.zero_le _) (Nat.zero_le _) dX3_fill_89 ?_
    refine z_last (kI := 147) (nI9 := 340) hc hap tT_147 (by decide) rfl rfl (by decide) dX3_fill_92 h (fun st12 h => ?_)
    refine z_iinc [(8, .int (zI (v8 + 1))), (0, .ref (a 144)), (1, .ref (a 99)), (4, .long (zJ v4)), (6, .int (zI v6)), (7, .int (zI v7))] 5 hc dX3_fill_93 rfl (by decide) rfl ?_
    refine z_goto (tgt := 34) hc dX3_fill_96 (by decide) ?_
    refine z_sub [(0, .ref (a 144)), (1, .ref (a 99)), (4, .long (zJ v4)), (6, .int (zI v6)), (7, .int (zI v7)), (8, .int (zI (v8 + 1)))] [1, 2, 3, 4, 5, 0] rfl ?_
    exact k1 _ (Option.some.inj h).symm
def J_X3_fill_b22 (v4 v6 v7 : Int) (st : z_St) : Option ((Int × z_St) ⊕ z_St) :=
  z_g (z32 v7 ∧ z32 (st 144 3)) (if v7 < st 144 3 then
    z_b (z_iter z_F (fun q9 : (Int × z_St) => J_X3_fill_b34 v4 v6 v7 q9.1 q9.2) (0, st)) fun lx13 =>
      some (.inl (v7 + 1, lx13))
  else
    some (.inr st))
set_option maxRecDepth 100000 in
set_option maxHeartbeats 4000000 in
theorem w_X3_fill_b22 {κ : zK} {a : Nat → Nat} {v4 v6 v7 : Int} {st : z_St} {mc9 ms9 : Nat} {o : (Int × z_St) ⊕ z_St} (hc : z_C κ RX3 cX3_fill 11 10 mc9 ms9) (hap : z_AP κ a z_N) (k1 : ∀ s9 : (Int × z_St), o = .inl s9 → z_V κ z_T z_N a 0 0 22 [(0, .ref (a 144)), (1, .ref (a 99)), (4, .long (zJ v4)), (6, .int (zI v6)), (7, .int (zI s9.1))] [] s9.2) (k2 : ∀ x9 : z_St, o = .inr x9 → z_V κ z_T z_N a 0 0 105 [(0, .ref (a 144)), (1, .ref (a 99)), (4, .long (zJ v4)), (6, .int (zI v6))] [] x9) (h : J_X3_fill_b22 v4 v6 v7 st = some o) : z_V κ z_T z_N a 0 0 22 [(0, .ref (a 144)), (1, .ref (a 99)), (4, .long (zJ v4)), (6, .int (zI v6)), (7, .int (zI v7))] [] st := by
  unfold J_X3_fill_b22 at h
  refine z_iload 4 hc dX3_fill_22 rfl ?_
  refine z_aload_n (i := 0) 0 hc dX3_fill_24 rfl rfl ?_
  refine z_getI (kI := 144) (jI := 3) hc fl_RX3_21 tT_144 (by decide) rfl rfl rfl dX3_fill_25 ?_
  refine z_icmp_ge (tgt := 105) hc dX3_fill_28 (by decide) h (fun c28 h => ?_) (fun c28 h => ?_)
  · refine z_iconst hc dX3_fill_31 ?_
    refine z_istore [(8, .int (zI 0)), (0, .ref (a 144)), (1, .ref (a 99)), (4, .long (zJ v4)), (6, .int (zI v6)), (7, .int (zI v7))] hc dX3_fill_32 (by decide) rfl ?_
    obtain ⟨lx13, hlx13, h⟩ := z_b_some h
    refine z_sub [(0, .ref (a 144)), (1, .ref (a 99)), (4, .long (zJ v4)), (6, .int (zI v6)), (7, .int (zI v7)), (8, .int (zI 0))] [1, 2, 3, 4, 5, 0] rfl ?_
    refine z_loop (fun q9 : (Int × z_St) => J_X3_fill_b34 v4 v6 v7 q9.1 q9.2) (fun q9 : (Int × z_St) => z_V κ z_T z_N a 0 0 34 [(0, .ref (a 144)), (1, .ref (a 99)), (4, .long (zJ v4)), (6, .int (zI v6)), (7, .int (zI v7)), (8, .int (zI q9.1))] [] q9.2) (fun x9 : z_St => z_V κ z_T z_N a 0 0 99 [(0, .ref (a 144)), (1, .ref (a 99)), (4, .long (zJ v4)), (6, .int (zI v6)), (7, .int (zI v7))] [] x9) (fun q9 o9 hb k1 k2 => ?_) _ _ _ hlx13 ?_
    · exact w_X3_fill_b34 hc hap k1 k2 hb
    · show z_V κ z_T z_N a 0 0 99 [(0, .ref (a 144)), (1, .ref (a 99)), (4, .long (zJ v4)), (6, .int (zI v6)), (7, .int (zI v7))] [] lx13
      refine z_iinc [(7, .int (zI (v7 + 1))), (0, .ref (a 144)), (1, .ref (a 99)), (4, .long (zJ v4)), (6, .int (zI v6))] 4 hc dX3_fill_99 rfl (by decide) rfl ?_
      refine z_goto (tgt := 22) hc dX3_fill_102 (by decide) ?_
      refine z_sub [(0, .ref (a 144)), (1, .ref (a 99)), (4, .long (zJ v4)), (6, .int (zI v6)), (7, .int (zI (v7 + 1)))] [1, 2, 3, 4, 0] rfl ?_
      exact k1 _ (Option.some.inj h).symm
  · refine z_sub [(0, .ref (a 144)), (1, .ref (a 99)), (4, .long (zJ v4)), (6, .int (zI v6))] [0, 1, 2, 3] rfl ?_
    exact k2 st (Option.some.inj h).symm
def J_X3_fill_b13 (v4 v6 : Int) (st : z_St) : Option ((Int × z_St) ⊕ z_St) :=
  z_g (z32 v6 ∧ z32 4) (if v6 < 4 then
    z_b (z_iter z_F (fun q9 : (Int × z_St) => J_X3_fill_b22 v4 v6 q9.1 q9.2) (0, st)) fun lx14 =>
      some (.inl (v6 + 1, lx14))
  else
    some (.inr st))
set_option maxRecDepth 100000 in
set_option maxHeartbeats 4000000 in
theorem w_X3_fill_b13 {κ : zK} {a : Nat → Nat} {v4 v6 : Int} {st : z_St} {mc9 ms9 : Nat} {o : (Int × z_St) ⊕ z_St} (hc : z_C κ RX3 cX3_fill 11 10 mc9 ms9) (hap : z_AP κ a z_N) (k1 : ∀ s9 : (Int × z_St), o = .inl s9 → z_V κ z_T z_N a 0 0 13 [(0, .ref (a 144)), (1, .ref (a 99)), (4, .long (zJ v4)), (6, .int (zI s9.1))] [] s9.2) (k2 : ∀ x9 : z_St, o = .inr x9 → z_V κ z_T z_N a 0 0 111 [(0, .ref (a 144)), (1, .ref (a 99)), (4, .long (zJ v4))] [] x9) (h : J_X3_fill_b13 v4 v6 st = some o) : z_V κ z_T z_N a 0 0 13 [(0, .ref (a 144)), (1, .ref (a 99)), (4, .long (zJ v4)), (6, .int (zI v6))] [] st := by
  unfold J_X3_fill_b13 at h
  refine z_iload 3 hc dX3_fill_13 rfl ?_
  refine z_iconst hc dX3_fill_15 ?_
  refine z_icmp_ge (tgt := 111) hc dX3_fill_16 (by decide) h (fun c16 h => ?_) (fun c16 h => ?_)
  · refine z_iconst hc dX3_fill_19 ?_
    refine z_istore [(7, .int (zI 0)), (0, .ref (a 144)), (1, .ref (a 99)), (4, .long (zJ v4)), (6, .int (zI v6))] hc dX3_fill_20 (by decide) rfl ?_
    obtain ⟨lx14, hlx14, h⟩ := z_b_some h
    refine z_sub [(0, .ref (a 144)), (1, .ref (a 99)), (4, .long (zJ v4)), (6, .int (zI v6)), (7, .int (zI 0))] [1, 2, 3, 4, 0] rfl ?_
    refine z_loop (fun q9 : (Int × z_St) => J_X3_fill_b22 v4 v6 q9.1 q9.2) (fun q9 : (Int × z_St) => z_V κ z_T z_N a 0 0 22 [(0, .ref (a 144)), (1, .ref (a 99)), (4, .long (zJ v4)), (6, .int (zI v6)), (7, .int (zI q9.1))] [] q9.2) (fun x9 : z_St => z_V κ z_T z_N a 0 0 105 [(0, .ref (a 144)), (1, .ref (a 99)), (4, .long (zJ v4)), (6, .int (zI v6))] [] x9) (fun q9 o9 hb k1 k2 => ?_) _ _ _ hlx14 ?_
    · exact w_X3_fill_b22 hc hap k1 k2 hb
    · show z_V κ z_T z_N a 0 0 105 [(0, .ref (a 144)), (1, .ref (a 99)), (4, .long (zJ v4)), (6, .int (zI v6))] [] lx14
      refine z_iinc [(6, .int (zI (v6 + 1))), (0, .ref (a 144)), (1, .ref (a 99)), (4, .long (zJ v4))] 3 hc dX3_fill_105 rfl (by decide) rfl ?_
      refine z_goto (tgt := 13) hc dX3_fill_108 (by decide) ?_
      refine z_sub [(0, .ref (a 144)), (1, .ref (a 99)), (4, .long (zJ v4)), (6, .int (zI (v6 + 1)))] [1, 2, 3, 0] rfl ?_
      exact k1 _ (Option.some.inj h).symm
  · refine z_sub [(0, .ref (a 144)), (1, .ref (a 99)), (4, .long (zJ v4))] [0, 1, 2] rfl ?_
    exact k2 st (Option.some.inj h).symm
def J_X3_fill_206 (v4 v6 v7 v8 s0 s1 : Int) (st : z_St) : Option ((Int × z_St) ⊕ z_St) :=
  z_g (0 ≤ s1 ∧ s1 < 1445) <|
  z_let (z_up st 145 s1 s0) fun st22 =>
  some (.inl (v8 + 1, st22))
set_option maxRecDepth 100000 in
set_option maxHeartbeats 4000000 in
theorem w_X3_fill_206 {κ : zK} {a : Nat → Nat} {v4 v6 v7 v8 s0 s1 : Int} {st : z_St} {mc9 ms9 : Nat} {o : (Int × z_St) ⊕ z_St} (hc : z_C κ RX3 cX3_fill 11 10 mc9 ms9) (hap : z_AP κ a z_N) (k1 : ∀ s9 : (Int × z_St), o = .inl s9 → z_V κ z_T z_N a 0 0 141 [(0, .ref (a 144)), (1, .ref (a 99)), (4, .long (zJ v4)), (6, .int (zI v6)), (7, .int (zI v7)), (8, .int (zI s9.1))] [] s9.2) (k2 : ∀ x9 : z_St, o = .inr x9 → z_V κ z_T z_N a 0 0 213 [(0, .ref (a 144)), (1, .ref (a 99)), (4, .long (zJ v4)), (6, .int (zI v6)), (7, .int (zI v7))] [] x9) (h : J_X3_fill_206 v4 v6 v7 v8 s0 s1 st = some o) : z_V κ z_T z_N a 0 0 206 [(0, .ref (a 144)), (1, .ref (a 99)), (4, .long (zJ v4)), (6, .int (zI v6)), (7, .int (zI v7)), (8, .int (zI v8))] [.long (zJ s0), .int (zI s1), .ref (a 145)] st := by
  unfold J_X3_fill_206 at h
  refine z_last (kI := 145) (nI9 := 1445) hc hap tT_145 (by decide) rfl rfl (by decide) dX3_fill_206 h (fun st22 h => ?_)
  refine z_iinc [(8, .int (zI (v8 + 1))), (0, .ref (a 144)), (1, .ref (a 99)), (4, .long (zJ v4)), (6, .int (zI v6)), (7, .int (zI v7))] 5 hc dX3_fill_207 rfl (by decide) rfl ?_
  refine z_goto (tgt := 141) hc dX3_fill_210 (by decide) ?_
  refine z_sub [(0, .ref (a 144)), (1, .ref (a 99)), (4, .long (zJ v4)), (6, .int (zI v6)), (7, .int (zI v7)), (8, .int (zI (v8 + 1)))] [1, 2, 3, 4, 5, 0] rfl ?_
  exact k1 _ (Option.some.inj h).symm
def J_X3_fill_b141 (v4 v6 v7 v8 : Int) (st : z_St) : Option ((Int × z_St) ⊕ z_St) :=
  z_g (z32 v8 ∧ z32 (st 144 4)) (if st 144 4 < v8 then
    some (.inr st)
  else
    z_b (J_X3_leastThrough v6 v7 v8 st) fun r16 =>
    z_b (J_X0_span v6 v7 v8 st) fun r18 =>
    z_b (J_X3_arcAt v6 v7 v8 st) fun r20 =>
    z_g (z64 (r16 + r18) ∧ z64 1152921504606846976) (if r16 + r18 < 1152921504606846976 then
      J_X3_fill_206 v4 v6 v7 v8 ((r16 + r18) - v4) r20 st
    else
      J_X3_fill_206 v4 v6 v7 v8 1152921504606846976 r20 st))
set_option maxRecDepth 100000 in
set_option maxHeartbeats 4000000 in
theorem w_X3_fill_b141 {κ : zK} {a : Nat → Nat} {v4 v6 v7 v8 : Int} {st : z_St} {mc9 ms9 : Nat} {o : (Int × z_St) ⊕ z_St} (hc : z_C κ RX3 cX3_fill 11 10 mc9 ms9) (hap : z_AP κ a z_N) (k1 : ∀ s9 : (Int × z_St), o = .inl s9 → z_V κ z_T z_N a 0 0 141 [(0, .ref (a 144)), (1, .ref (a 99)), (4, .long (zJ v4)), (6, .int (zI v6)), (7, .int (zI v7)), (8, .int (zI s9.1))] [] s9.2) (k2 : ∀ x9 : z_St, o = .inr x9 → z_V κ z_T z_N a 0 0 213 [(0, .ref (a 144)), (1, .ref (a 99)), (4, .long (zJ v4)), (6, .int (zI v6)), (7, .int (zI v7))] [] x9) (h : J_X3_fill_b141 v4 v6 v7 v8 st = some o) : z_V κ z_T z_N a 0 0 141 [(0, .ref (a 144)), (1, .ref (a 99)), (4, .long (zJ v4)), (6, .int (zI v6)), (7, .int (zI v7)), (8, .int (zI v8))] [] st := by
  unfold J_X3_fill_b141 at h
  refine z_iload 5 hc dX3_fill_141 rfl ?_
  refine z_aload_n (i := 0) 0 hc dX3_fill_143 rfl rfl ?_
  refine z_getI (kI := 144) (jI := 4) hc fl_RX3_25 tT_144 (by decide) rfl rfl rfl dX3_fill_144 ?_
  refine z_icmp_gt (tgt := 213) hc dX3_fill_147 (by decide) h (fun c147 h => ?_) (fun c147 h => ?_)
  · refine z_sub [(0, .ref (a 144)), (1, .ref (a 99)), (4, .long (zJ v4)), (6, .int (zI v6)), (7, .int (zI v7))] [0, 1, 2, 3, 4] rfl ?_
    exact k2 st (Option.some.inj h).symm
  · refine z_aload_n (i := 0) 0 hc dX3_fill_150 rfl rfl ?_
    refine z_iload 3 hc dX3_fill_151 rfl ?_
    refine z_iload 4 hc dX3_fill_153 rfl ?_
    refine z_iload 5 hc dX3_fill_155 rfl ?_
    obtain ⟨r16, hr16, h⟩ := z_b_some h
    refine z_callVJ [.int (zI v6), .int (zI v7), .int (zI v8)] hc hap o_X3_leastThrough ml_RX3_43 (fun l hl => c_X3_leastThrough hl  hr16) (by decide) tT_144 (by decide) ⟨_, rfl, rfl⟩ rfl rfl (Nat.le_of_ble_eq_true rfl) (Nat.zero_le _) (Nat.zero_le _) dX3_fill_157 ?_
    refine z_aload_n (i := 1) 1 hc dX3_fill_160 rfl rfl ?_
    refine z_iload 3 hc dX3_fill_161 rfl ?_
    refine z_iload 4 hc dX3_fill_163 rfl ?_
    refine z_iload 5 hc dX3_fill_165 rfl ?_
    obtain ⟨r18, hr18, h⟩ := z_b_some h
    refine z_callVJ [.int (zI v6), .int (zI v7), .int (zI v8)] hc hap o_X0_span ml_RX3_47 (fun l hl => c_X0_span hl  hr18) (by decide) tT_99 (by decide) ⟨_, rfl, rfl⟩ rfl rfl (Nat.le_of_ble_eq_true rfl) (Nat.zero_le _) (Nat.zero_le _) dX3_fill_167 ?_
    refine z_ladd hc dX3_fill_170 ?_
    refine z_lstore [(9, .long (zJ (r16 + r18))), (0, .ref (a 144)), (1, .ref (a 99)), (4, .long (zJ v4)), (6, .int (zI v6)), (7, .int (zI v7)), (8, .int (zI v8))] hc dX3_fill_171 (by decide) rfl ?_
    refine z_aload_n (i := 0) 1 hc dX3_fill_173 rfl rfl ?_
    refine z_getA (k' := 145) hc fl_RX3_9 tT_144 (by decide) rfl rfl dX3_fill_174 ?_
    refine z_iload 4 hc dX3_fill_177 rfl ?_
    refine z_iload 5 hc dX3_fill_179 rfl ?_
    refine z_iload 6 hc dX3_fill_181 rfl ?_
    obtain ⟨r20, hr20, h⟩ := z_b_some h
    refine z_callSI [.int (zI v6), .int (zI v7), .int (zI v8)] hc hap o_X3_arcAt ml_RX3_52 (fun l hl => c_X3_arcAt hl  hr20) (by decide) rfl rfl (Nat.le_of_ble_eq_true rfl) (Nat.zero_le _) (Nat.zero_le _) dX3_fill_183 ?_
    refine z_lload 0 hc dX3_fill_186 rfl ?_
    refine z_ldc2 1152921504606846976 hc kc_RX3_55 dX3_fill_188 rfl ?_
    refine z_lcmp_lt (tgt := 201) hc dX3_fill_191 dX3_fill_192 (by decide) h (fun c191 h => ?_) (fun c191 h => ?_)
    · refine z_lload 0 hc dX3_fill_201 rfl ?_
      refine z_lload 3 hc dX3_fill_203 rfl ?_
      refine z_lsub hc dX3_fill_205 ?_
      refine z_sub [(0, .ref (a 144)), (1, .ref (a 99)), (4, .long (zJ v4)), (6, .int (zI v6)), (7, .int (zI v7)), (8, .int (zI v8))] [1, 2, 3, 4, 5, 6] rfl ?_
      exact w_X3_fill_206 hc hap k1 k2 h
    · refine z_ldc2 1152921504606846976 hc kc_RX3_55 dX3_fill_195 rfl ?_
      refine z_goto (tgt := 206) hc dX3_fill_198 (by decide) ?_
      refine z_sub [(0, .ref (a 144)), (1, .ref (a 99)), (4, .long (zJ v4)), (6, .int (zI v6)), (7, .int (zI v7)), (8, .int (zI v8))] [1, 2, 3, 4, 5, 6] rfl ?_
      exact w_X3_fill_206 hc hap k1 k2 h
def J_X3_fill_b126 (v4 v6 v7 : Int) (st : z_St) : Option ((Int × z_St) ⊕ z_St) :=
  z_g (z32 v7 ∧ z32 (st 144 4)) (if v7 < st 144 4 then
    z_b (z_iter z_F (fun q9 : (Int × z_St) => J_X3_fill_b141 v4 v6 v7 q9.1 q9.2) (v7 + 1, st)) fun lx23 =>
      some (.inl (v7 + 1, lx23))
  else
    some (.inr st))
set_option maxRecDepth 100000 in
set_option maxHeartbeats 4000000 in
theorem w_X3_fill_b126 {κ : zK} {a : Nat → Nat} {v4 v6 v7 : Int} {st : z_St} {mc9 ms9 : Nat} {o : (Int × z_St) ⊕ z_St} (hc : z_C κ RX3 cX3_fill 11 10 mc9 ms9) (hap : z_AP κ a z_N) (k1 : ∀ s9 : (Int × z_St), o = .inl s9 → z_V κ z_T z_N a 0 0 126 [(0, .ref (a 144)), (1, .ref (a 99)), (4, .long (zJ v4)), (6, .int (zI v6)), (7, .int (zI s9.1))] [] s9.2) (k2 : ∀ x9 : z_St, o = .inr x9 → z_V κ z_T z_N a 0 0 219 [(0, .ref (a 144)), (1, .ref (a 99)), (4, .long (zJ v4)), (6, .int (zI v6))] [] x9) (h : J_X3_fill_b126 v4 v6 v7 st = some o) : z_V κ z_T z_N a 0 0 126 [(0, .ref (a 144)), (1, .ref (a 99)), (4, .long (zJ v4)), (6, .int (zI v6)), (7, .int (zI v7))] [] st := by
  unfold J_X3_fill_b126 at h
  refine z_iload 4 hc dX3_fill_126 rfl ?_
  refine z_aload_n (i := 0) 0 hc dX3_fill_128 rfl rfl ?_
  refine z_getI (kI := 144) (jI := 4) hc fl_RX3_25 tT_144 (by decide) rfl rfl rfl dX3_fill_129 ?_
  refine z_icmp_ge (tgt := 219) hc dX3_fill_132 (by decide) h (fun c132 h => ?_) (fun c132 h => ?_)
  · refine z_iload 4 hc dX3_fill_135 rfl ?_
    refine z_iconst hc dX3_fill_137 ?_
    refine z_iadd hc dX3_fill_138 ?_
    refine z_istore [(8, .int (zI (v7 + 1))), (0, .ref (a 144)), (1, .ref (a 99)), (4, .long (zJ v4)), (6, .int (zI v6)), (7, .int (zI v7))] hc dX3_fill_139 (by decide) rfl ?_
    obtain ⟨lx23, hlx23, h⟩ := z_b_some h
    refine z_sub [(0, .ref (a 144)), (1, .ref (a 99)), (4, .long (zJ v4)), (6, .int (zI v6)), (7, .int (zI v7)), (8, .int (zI (v7 + 1)))] [1, 2, 3, 4, 5, 0] rfl ?_
    refine z_loop (fun q9 : (Int × z_St) => J_X3_fill_b141 v4 v6 v7 q9.1 q9.2) (fun q9 : (Int × z_St) => z_V κ z_T z_N a 0 0 141 [(0, .ref (a 144)), (1, .ref (a 99)), (4, .long (zJ v4)), (6, .int (zI v6)), (7, .int (zI v7)), (8, .int (zI q9.1))] [] q9.2) (fun x9 : z_St => z_V κ z_T z_N a 0 0 213 [(0, .ref (a 144)), (1, .ref (a 99)), (4, .long (zJ v4)), (6, .int (zI v6)), (7, .int (zI v7))] [] x9) (fun q9 o9 hb k1 k2 => ?_) _ _ _ hlx23 ?_
    · exact w_X3_fill_b141 hc hap k1 k2 hb
    · show z_V κ z_T z_N a 0 0 213 [(0, .ref (a 144)), (1, .ref (a 99)), (4, .long (zJ v4)), (6, .int (zI v6)), (7, .int (zI v7))] [] lx23
      refine z_iinc [(7, .int (zI (v7 + 1))), (0, .ref (a 144)), (1, .ref (a 99)), (4, .long (zJ v4)), (6, .int (zI v6))] 4 hc dX3_fill_213 rfl (by decide) rfl ?_
      refine z_goto (tgt := 126) hc dX3_fill_216 (by decide) ?_
      refine z_sub [(0, .ref (a 144)), (1, .ref (a 99)), (4, .long (zJ v4)), (6, .int (zI v6)), (7, .int (zI (v7 + 1)))] [1, 2, 3, 4, 0] rfl ?_
      exact k1 _ (Option.some.inj h).symm
  · refine z_sub [(0, .ref (a 144)), (1, .ref (a 99)), (4, .long (zJ v4)), (6, .int (zI v6))] [0, 1, 2, 3] rfl ?_
    exact k2 st (Option.some.inj h).symm
def J_X3_fill_b114 (v4 v6 : Int) (st : z_St) : Option ((Int × z_St) ⊕ z_St) :=
  z_g (z32 v6 ∧ z32 (st 144 3)) (if v6 < st 144 3 then
    z_b (z_iter z_F (fun q9 : (Int × z_St) => J_X3_fill_b126 v4 v6 q9.1 q9.2) (0, st)) fun lx24 =>
      some (.inl (v6 + 1, lx24))
  else
    some (.inr st))
set_option maxRecDepth 100000 in
set_option maxHeartbeats 4000000 in
theorem w_X3_fill_b114 {κ : zK} {a : Nat → Nat} {v4 v6 : Int} {st : z_St} {mc9 ms9 : Nat} {o : (Int × z_St) ⊕ z_St} (hc : z_C κ RX3 cX3_fill 11 10 mc9 ms9) (hap : z_AP κ a z_N) (k1 : ∀ s9 : (Int × z_St), o = .inl s9 → z_V κ z_T z_N a 0 0 114 [(0, .ref (a 144)), (1, .ref (a 99)), (4, .long (zJ v4)), (6, .int (zI s9.1))] [] s9.2) (k2 : ∀ x9 : z_St, o = .inr x9 → z_V κ z_T z_N a 0 0 225 [(0, .ref (a 144))] [] x9) (h : J_X3_fill_b114 v4 v6 st = some o) : z_V κ z_T z_N a 0 0 114 [(0, .ref (a 144)), (1, .ref (a 99)), (4, .long (zJ v4)), (6, .int (zI v6))] [] st := by
  unfold J_X3_fill_b114 at h
  refine z_iload 3 hc dX3_fill_114 rfl ?_
  refine z_aload_n (i := 0) 0 hc dX3_fill_116 rfl rfl ?_
  refine z_getI (kI := 144) (jI := 3) hc fl_RX3_21 tT_144 (by decide) rfl rfl rfl dX3_fill_117 ?_
  refine z_icmp_ge (tgt := 225) hc dX3_fill_120 (by decide) h (fun c120 h => ?_) (fun c120 h => ?_)
  · refine z_iconst hc dX3_fill_123 ?_
    refine z_istore [(7, .int (zI 0)), (0, .ref (a 144)), (1, .ref (a 99)), (4, .long (zJ v4)), (6, .int (zI v6))] hc dX3_fill_124 (by decide) rfl ?_
    obtain ⟨lx24, hlx24, h⟩ := z_b_some h
    refine z_sub [(0, .ref (a 144)), (1, .ref (a 99)), (4, .long (zJ v4)), (6, .int (zI v6)), (7, .int (zI 0))] [1, 2, 3, 4, 0] rfl ?_
    refine z_loop (fun q9 : (Int × z_St) => J_X3_fill_b126 v4 v6 q9.1 q9.2) (fun q9 : (Int × z_St) => z_V κ z_T z_N a 0 0 126 [(0, .ref (a 144)), (1, .ref (a 99)), (4, .long (zJ v4)), (6, .int (zI v6)), (7, .int (zI q9.1))] [] q9.2) (fun x9 : z_St => z_V κ z_T z_N a 0 0 219 [(0, .ref (a 144)), (1, .ref (a 99)), (4, .long (zJ v4)), (6, .int (zI v6))] [] x9) (fun q9 o9 hb k1 k2 => ?_) _ _ _ hlx24 ?_
    · exact w_X3_fill_b126 hc hap k1 k2 hb
    · show z_V κ z_T z_N a 0 0 219 [(0, .ref (a 144)), (1, .ref (a 99)), (4, .long (zJ v4)), (6, .int (zI v6))] [] lx24
      refine z_iinc [(6, .int (zI (v6 + 1))), (0, .ref (a 144)), (1, .ref (a 99)), (4, .long (zJ v4))] 3 hc dX3_fill_219 rfl (by decide) rfl ?_
      refine z_goto (tgt := 114) hc dX3_fill_222 (by decide) ?_
      refine z_sub [(0, .ref (a 144)), (1, .ref (a 99)), (4, .long (zJ v4)), (6, .int (zI (v6 + 1)))] [1, 2, 3, 0] rfl ?_
      exact k1 _ (Option.some.inj h).symm
  · refine z_sub [(0, .ref (a 144))] [0] rfl ?_
    exact k2 st (Option.some.inj h).symm
def J_X3_fill (x2 x3 x4 : Int) (st : z_St) : Option (z_St) :=
  z_let (z_up st 144 3 x2) fun st1 =>
  z_let (z_up st1 144 4 x3) fun st2 =>
  z_b (z_iter z_F (fun q9 : (Int × z_St) => J_X3_fill_b13 x4 q9.1 q9.2) (0, st2)) fun lx15 =>
    z_b (z_iter z_F (fun q9 : (Int × z_St) => J_X3_fill_b114 x4 q9.1 q9.2) (0, lx15)) fun lx25 =>
      z_g (1 = 0 ∨ 1 = 1) <|
      z_let (z_up lx25 144 5 1) fun st26 =>
      some st26
set_option maxRecDepth 100000 in
set_option maxHeartbeats 4000000 in
theorem w_X3_fill {κ : zK} {a : Nat → Nat} {x2 x3 x4 : Int} {st : z_St} {o : z_St} (hc : z_C κ RX3 cX3_fill 11 10 0 0) (hap : z_AP κ a z_N) (he : z_E 2 κ none z_T z_N a 0 o) (h : J_X3_fill x2 x3 x4 st = some o) : z_V κ z_T z_N a 0 0 0 [(0, .ref (a 144)), (1, .ref (a 99)), (2, .int (zI x2)), (3, .int (zI x3)), (4, .long (zJ x4))] [] st := by
  unfold J_X3_fill at h
  refine z_aload_n (i := 0) 0 hc dX3_fill_0 rfl rfl ?_
  refine z_iload_n (i := 2) 2 hc dX3_fill_1 rfl rfl ?_
  refine z_putI (kI := 144) (jI := 3) hc hap fp_RX3_21 tT_144 (by decide) rfl rfl rfl dX3_fill_2 h (fun st1 h => ?_)
  refine z_aload_n (i := 0) 0 hc dX3_fill_5 rfl rfl ?_
  refine z_iload_n (i := 3) 3 hc dX3_fill_6 rfl rfl ?_
  refine z_putI (kI := 144) (jI := 4) hc hap fp_RX3_25 tT_144 (by decide) rfl rfl rfl dX3_fill_7 h (fun st2 h => ?_)
  refine z_iconst hc dX3_fill_10 ?_
  refine z_istore [(6, .int (zI 0)), (0, .ref (a 144)), (1, .ref (a 99)), (2, .int (zI x2)), (3, .int (zI x3)), (4, .long (zJ x4))] hc dX3_fill_11 (by decide) rfl ?_
  obtain ⟨lx15, hlx15, h⟩ := z_b_some h
  refine z_sub [(0, .ref (a 144)), (1, .ref (a 99)), (4, .long (zJ x4)), (6, .int (zI 0))] [1, 2, 5, 0] rfl ?_
  refine z_loop (fun q9 : (Int × z_St) => J_X3_fill_b13 x4 q9.1 q9.2) (fun q9 : (Int × z_St) => z_V κ z_T z_N a 0 0 13 [(0, .ref (a 144)), (1, .ref (a 99)), (4, .long (zJ x4)), (6, .int (zI q9.1))] [] q9.2) (fun x9 : z_St => z_V κ z_T z_N a 0 0 111 [(0, .ref (a 144)), (1, .ref (a 99)), (4, .long (zJ x4))] [] x9) (fun q9 o9 hb k1 k2 => ?_) _ _ _ hlx15 ?_
  · exact w_X3_fill_b13 hc hap k1 k2 hb
  · show z_V κ z_T z_N a 0 0 111 [(0, .ref (a 144)), (1, .ref (a 99)), (4, .long (zJ x4))] [] lx15
    refine z_iconst hc dX3_fill_111 ?_
    refine z_istore [(6, .int (zI 0)), (0, .ref (a 144)), (1, .ref (a 99)), (4, .long (zJ x4))] hc dX3_fill_112 (by decide) rfl ?_
    obtain ⟨lx25, hlx25, h⟩ := z_b_some h
    refine z_sub [(0, .ref (a 144)), (1, .ref (a 99)), (4, .long (zJ x4)), (6, .int (zI 0))] [1, 2, 3, 0] rfl ?_
    refine z_loop (fun q9 : (Int × z_St) => J_X3_fill_b114 x4 q9.1 q9.2) (fun q9 : (Int × z_St) => z_V κ z_T z_N a 0 0 114 [(0, .ref (a 144)), (1, .ref (a 99)), (4, .long (zJ x4)), (6, .int (zI q9.1))] [] q9.2) (fun x9 : z_St => z_V κ z_T z_N a 0 0 225 [(0, .ref (a 144))] [] x9) (fun q9 o9 hb k1 k2 => ?_) _ _ _ hlx25 ?_
    · exact w_X3_fill_b114 hc hap k1 k2 hb
    · show z_V κ z_T z_N a 0 0 225 [(0, .ref (a 144))] [] lx25
      refine z_aload_n (i := 0) 0 hc dX3_fill_225 rfl rfl ?_
      refine z_iconst hc dX3_fill_226 ?_
      refine z_putZ (kI := 144) (jI := 5) hc hap fp_RX3_28 tT_144 (by decide) rfl rfl rfl dX3_fill_227 h (fun st26 h => ?_)
      have h := Option.some.inj h
      subst h
      exact z_retV hc he dX3_fill_230
set_option maxRecDepth 100000 in
set_option maxHeartbeats 4000000 in
theorem c_X3_fill {l : Launch} (hl : l.stackTraces = false) {a : Nat → Nat} {x2 x3 x4 : Int} {st : z_St} {o : z_St} (h : J_X3_fill x2 x3 x4 st = some o) : z_M 2 l yX3_fill cX3_fill 11 none 10 z_T z_N a [.ref (a 144), .ref (a 99), .int (zI x2), .int (zI x3), .long (zJ x4)] st 0 o := z_of hl (by decide +kernel) (Nat.le_of_ble_eq_true rfl) (fun κ hc hap he => w_X3_fill hc hap he h)
theorem dX3_isWithin_0 : decode cX3_isWithin 0 = .ok (.aload_n 0, 1) := by decide +kernel
theorem dX3_isWithin_1 : decode cX3_isWithin 1 = .ok (.getfield 9, 3) := by decide +kernel
theorem dX3_isWithin_4 : decode cX3_isWithin 4 = .ok (.iload_n 3, 1) := by decide +kernel
theorem dX3_isWithin_5 : decode cX3_isWithin 5 = .ok (.iload 4, 2) := by decide +kernel
theorem dX3_isWithin_7 : decode cX3_isWithin 7 = .ok (.iload 5, 2) := by decide +kernel
theorem dX3_isWithin_9 : decode cX3_isWithin 9 = .ok (.invokestatic 52, 3) := by decide +kernel
theorem dX3_isWithin_12 : decode cX3_isWithin 12 = .ok (.laload, 1) := by decide +kernel
theorem dX3_isWithin_13 : decode cX3_isWithin 13 = .ok (.lstore 6, 2) := by decide +kernel
theorem dX3_isWithin_15 : decode cX3_isWithin 15 = .ok (.lload 6, 2) := by decide +kernel
theorem dX3_isWithin_17 : decode cX3_isWithin 17 = .ok (.ldc2_w 55, 3) := by decide +kernel
theorem dX3_isWithin_20 : decode cX3_isWithin 20 = .ok (.lcmp, 1) := by decide +kernel
theorem dX3_isWithin_21 : decode cX3_isWithin 21 = .ok (.ifCond .ge 14, 3) := by decide +kernel
theorem dX3_isWithin_24 : decode cX3_isWithin 24 = .ok (.lload 6, 2) := by decide +kernel
theorem dX3_isWithin_26 : decode cX3_isWithin 26 = .ok (.lload_n 1, 1) := by decide +kernel
theorem dX3_isWithin_27 : decode cX3_isWithin 27 = .ok (.lcmp, 1) := by decide +kernel
theorem dX3_isWithin_28 : decode cX3_isWithin 28 = .ok (.ifCond .gt 7, 3) := by decide +kernel
theorem dX3_isWithin_31 : decode cX3_isWithin 31 = .ok (.iconst 1, 1) := by decide +kernel
theorem dX3_isWithin_32 : decode cX3_isWithin 32 = .ok (.goto 4, 3) := by decide +kernel
theorem dX3_isWithin_35 : decode cX3_isWithin 35 = .ok (.iconst 0, 1) := by decide +kernel
theorem dX3_isWithin_36 : decode cX3_isWithin 36 = .ok (.ireturn, 1) := by decide +kernel
def J_X3_isWithin_36 (s0 : Int) (st : z_St) : Option (Int) :=
  z_g (s0 = 0 ∨ s0 = 1) <|
  some s0
set_option maxRecDepth 100000 in
set_option maxHeartbeats 4000000 in
theorem w_X3_isWithin_36 {κ : zK} {a : Nat → Nat} {s0 : Int} {st : z_St} {o : Int} (hc : z_C κ RX3 cX3_isWithin 8 9 0 0) (hap : z_AP κ a z_N) (he : z_E 0 κ (some .boolean) z_T z_N a o st) (h : J_X3_isWithin_36 s0 st = some o) : z_V κ z_T z_N a 0 0 36 [] [.int (zI s0)] st := by
  unfold J_X3_isWithin_36 at h
  obtain ⟨hz, h⟩ := z_g_some h
  have h := Option.some.inj h
  subst h
  exact z_retZ hc he hz dX3_isWithin_36
def J_X3_isWithin_35 (st : z_St) : Option (Int) :=
  J_X3_isWithin_36 0 st
set_option maxRecDepth 100000 in
set_option maxHeartbeats 4000000 in
theorem w_X3_isWithin_35 {κ : zK} {a : Nat → Nat} {st : z_St} {o : Int} (hc : z_C κ RX3 cX3_isWithin 8 9 0 0) (hap : z_AP κ a z_N) (he : z_E 0 κ (some .boolean) z_T z_N a o st) (h : J_X3_isWithin_35 st = some o) : z_V κ z_T z_N a 0 0 35 [] [] st := by
  unfold J_X3_isWithin_35 at h
  refine z_iconst hc dX3_isWithin_35 ?_
  refine z_sub [] [] rfl ?_
  exact w_X3_isWithin_36 hc hap he h
def J_X3_isWithin (x1 x3 x4 x5 : Int) (st : z_St) : Option (Int) :=
  z_b (J_X3_arcAt x3 x4 x5 st) fun r1 =>
  z_g (0 ≤ r1 ∧ r1 < 1445) <|
  z_g (z64 (st 145 r1) ∧ z64 1152921504606846976) (if st 145 r1 < 1152921504606846976 then
    z_g (z64 (st 145 r1) ∧ z64 x1) (if x1 < st 145 r1 then
      J_X3_isWithin_35 st
    else
      J_X3_isWithin_36 1 st)
  else
    J_X3_isWithin_35 st)
set_option maxRecDepth 100000 in
set_option maxHeartbeats 4000000 in
theorem w_X3_isWithin {κ : zK} {a : Nat → Nat} {x1 x3 x4 x5 : Int} {st : z_St} {o : Int} (hc : z_C κ RX3 cX3_isWithin 8 9 0 0) (hap : z_AP κ a z_N) (he : z_E 0 κ (some .boolean) z_T z_N a o st) (h : J_X3_isWithin x1 x3 x4 x5 st = some o) : z_V κ z_T z_N a 0 0 0 [(0, .ref (a 144)), (1, .long (zJ x1)), (3, .int (zI x3)), (4, .int (zI x4)), (5, .int (zI x5))] [] st := by
  unfold J_X3_isWithin at h
  refine z_aload_n (i := 0) 0 hc dX3_isWithin_0 rfl rfl ?_
  refine z_getA (k' := 145) hc fl_RX3_9 tT_144 (by decide) rfl rfl dX3_isWithin_1 ?_
  refine z_iload_n (i := 3) 2 hc dX3_isWithin_4 rfl rfl ?_
  refine z_iload 3 hc dX3_isWithin_5 rfl ?_
  refine z_iload 4 hc dX3_isWithin_7 rfl ?_
  obtain ⟨r1, hr1, h⟩ := z_b_some h
  refine z_callSI [.int (zI x3), .int (zI x4), .int (zI x5)] hc hap o_X3_arcAt ml_RX3_52 (fun l hl => c_X3_arcAt hl  hr1) (by decide) rfl rfl (Nat.le_of_ble_eq_true rfl) (Nat.zero_le _) (Nat.zero_le _) dX3_isWithin_9 ?_
  refine z_lald (kI := 145) (nI9 := 1445) hc tT_145 (by decide) rfl rfl (by decide) dX3_isWithin_12 h (fun g3 h => ?_)
  refine z_lstore [(6, .long (zJ (st 145 r1))), (0, .ref (a 144)), (1, .long (zJ x1)), (3, .int (zI x3)), (4, .int (zI x4)), (5, .int (zI x5))] hc dX3_isWithin_13 (by decide) rfl ?_
  refine z_lload 0 hc dX3_isWithin_15 rfl ?_
  refine z_ldc2 1152921504606846976 hc kc_RX3_55 dX3_isWithin_17 rfl ?_
  refine z_lcmp_ge (tgt := 35) hc dX3_isWithin_20 dX3_isWithin_21 (by decide) h (fun c20 h => ?_) (fun c20 h => ?_)
  · refine z_lload 0 hc dX3_isWithin_24 rfl ?_
    refine z_lload_n (i := 1) 2 hc dX3_isWithin_26 rfl rfl ?_
    refine z_lcmp_gt (tgt := 35) hc dX3_isWithin_27 dX3_isWithin_28 (by decide) h (fun c27 h => ?_) (fun c27 h => ?_)
    · refine z_sub [] [] rfl ?_
      exact w_X3_isWithin_35 hc hap he h
    · refine z_iconst hc dX3_isWithin_31 ?_
      refine z_goto (tgt := 36) hc dX3_isWithin_32 (by decide) ?_
      refine z_sub [] [] rfl ?_
      exact w_X3_isWithin_36 hc hap he h
  · refine z_sub [] [] rfl ?_
    exact w_X3_isWithin_35 hc hap he h
set_option maxRecDepth 100000 in
set_option maxHeartbeats 4000000 in
theorem c_X3_isWithin {l : Launch} (hl : l.stackTraces = false) {a : Nat → Nat} {x1 x3 x4 x5 : Int} {st : z_St} {o : Int} (h : J_X3_isWithin x1 x3 x4 x5 st = some o) : z_M 0 l yX3_isWithin cX3_isWithin 8 (some .boolean) 9 z_T z_N a [.ref (a 144), .long (zJ x1), .int (zI x3), .int (zI x4), .int (zI x5)] st o st := z_of hl (by decide +kernel) (Nat.le_of_ble_eq_true rfl) (fun κ hc hap he => w_X3_isWithin hc hap he h)
theorem dX3_countWithin_0 : decode cX3_countWithin 0 = .ok (.iconst 0, 1) := by decide +kernel
theorem dX3_countWithin_1 : decode cX3_countWithin 1 = .ok (.istore_n 3, 1) := by decide +kernel
theorem dX3_countWithin_2 : decode cX3_countWithin 2 = .ok (.iconst 0, 1) := by decide +kernel
theorem dX3_countWithin_3 : decode cX3_countWithin 3 = .ok (.istore 4, 2) := by decide +kernel
theorem dX3_countWithin_5 : decode cX3_countWithin 5 = .ok (.iload 4, 2) := by decide +kernel
theorem dX3_countWithin_7 : decode cX3_countWithin 7 = .ok (.aload_n 0, 1) := by decide +kernel
theorem dX3_countWithin_8 : decode cX3_countWithin 8 = .ok (.getfield 25, 3) := by decide +kernel
theorem dX3_countWithin_11 : decode cX3_countWithin 11 = .ok (.if_icmp .ge 70, 3) := by decide +kernel
theorem dX3_countWithin_14 : decode cX3_countWithin 14 = .ok (.iload 4, 2) := by decide +kernel
theorem dX3_countWithin_16 : decode cX3_countWithin 16 = .ok (.iconst 1, 1) := by decide +kernel
theorem dX3_countWithin_17 : decode cX3_countWithin 17 = .ok (.iadd, 1) := by decide +kernel
theorem dX3_countWithin_18 : decode cX3_countWithin 18 = .ok (.istore 5, 2) := by decide +kernel
theorem dX3_countWithin_20 : decode cX3_countWithin 20 = .ok (.iload 5, 2) := by decide +kernel
theorem dX3_countWithin_22 : decode cX3_countWithin 22 = .ok (.aload_n 0, 1) := by decide +kernel
theorem dX3_countWithin_23 : decode cX3_countWithin 23 = .ok (.getfield 25, 3) := by decide +kernel
theorem dX3_countWithin_26 : decode cX3_countWithin 26 = .ok (.if_icmp .gt 49, 3) := by decide +kernel
theorem dX3_countWithin_29 : decode cX3_countWithin 29 = .ok (.iconst 0, 1) := by decide +kernel
theorem dX3_countWithin_30 : decode cX3_countWithin 30 = .ok (.istore 6, 2) := by decide +kernel
theorem dX3_countWithin_32 : decode cX3_countWithin 32 = .ok (.iload 6, 2) := by decide +kernel
theorem dX3_countWithin_34 : decode cX3_countWithin 34 = .ok (.aload_n 0, 1) := by decide +kernel
theorem dX3_countWithin_35 : decode cX3_countWithin 35 = .ok (.getfield 21, 3) := by decide +kernel
theorem dX3_countWithin_38 : decode cX3_countWithin 38 = .ok (.if_icmp .ge 31, 3) := by decide +kernel
theorem dX3_countWithin_41 : decode cX3_countWithin 41 = .ok (.iload_n 3, 1) := by decide +kernel
theorem dX3_countWithin_42 : decode cX3_countWithin 42 = .ok (.aload_n 0, 1) := by decide +kernel
theorem dX3_countWithin_43 : decode cX3_countWithin 43 = .ok (.lload_n 1, 1) := by decide +kernel
theorem dX3_countWithin_44 : decode cX3_countWithin 44 = .ok (.iload 6, 2) := by decide +kernel
theorem dX3_countWithin_46 : decode cX3_countWithin 46 = .ok (.iload 4, 2) := by decide +kernel
theorem dX3_countWithin_48 : decode cX3_countWithin 48 = .ok (.iload 5, 2) := by decide +kernel
theorem dX3_countWithin_50 : decode cX3_countWithin 50 = .ok (.invokevirtual 67, 3) := by decide +kernel
theorem dX3_countWithin_53 : decode cX3_countWithin 53 = .ok (.ifCond .eq 7, 3) := by decide +kernel
theorem dX3_countWithin_56 : decode cX3_countWithin 56 = .ok (.iconst 1, 1) := by decide +kernel
theorem dX3_countWithin_57 : decode cX3_countWithin 57 = .ok (.goto 4, 3) := by decide +kernel
theorem dX3_countWithin_60 : decode cX3_countWithin 60 = .ok (.iconst 0, 1) := by decide +kernel
theorem dX3_countWithin_61 : decode cX3_countWithin 61 = .ok (.iadd, 1) := by decide +kernel
theorem dX3_countWithin_62 : decode cX3_countWithin 62 = .ok (.istore_n 3, 1) := by decide +kernel
theorem dX3_countWithin_63 : decode cX3_countWithin 63 = .ok (.iinc 6 1, 3) := by decide +kernel
theorem dX3_countWithin_66 : decode cX3_countWithin 66 = .ok (.goto (-34), 3) := by decide +kernel
theorem dX3_countWithin_69 : decode cX3_countWithin 69 = .ok (.iinc 5 1, 3) := by decide +kernel
theorem dX3_countWithin_72 : decode cX3_countWithin 72 = .ok (.goto (-52), 3) := by decide +kernel
theorem dX3_countWithin_75 : decode cX3_countWithin 75 = .ok (.iinc 4 1, 3) := by decide +kernel
theorem dX3_countWithin_78 : decode cX3_countWithin 78 = .ok (.goto (-73), 3) := by decide +kernel
theorem dX3_countWithin_81 : decode cX3_countWithin 81 = .ok (.iload_n 3, 1) := by decide +kernel
theorem dX3_countWithin_82 : decode cX3_countWithin 82 = .ok (.ireturn, 1) := by decide +kernel
def J_X3_countWithin_61 (v1 v4 v5 v6 s0 s1 : Int) (st : z_St) : Option ((Int × Int) ⊕ Int) :=
  some (.inl (s1 + s0, v6 + 1))
set_option maxRecDepth 100000 in
set_option maxHeartbeats 4000000 in
theorem w_X3_countWithin_61 {κ : zK} {a : Nat → Nat} {v1 v4 v5 v6 s0 s1 : Int} {st : z_St} {mc9 ms9 : Nat} {o : (Int × Int) ⊕ Int} (hc : z_C κ RX3 cX3_countWithin 7 10 mc9 ms9) (hap : z_AP κ a z_N) (k1 : ∀ s9 : (Int × Int), o = .inl s9 → z_V κ z_T z_N a 0 0 32 [(0, .ref (a 144)), (1, .long (zJ v1)), (3, .int (zI s9.1)), (4, .int (zI v4)), (5, .int (zI v5)), (6, .int (zI s9.2))] [] st) (k2 : ∀ x9 : Int, o = .inr x9 → z_V κ z_T z_N a 0 0 69 [(0, .ref (a 144)), (1, .long (zJ v1)), (3, .int (zI x9)), (4, .int (zI v4)), (5, .int (zI v5))] [] st) (h : J_X3_countWithin_61 v1 v4 v5 v6 s0 s1 st = some o) : z_V κ z_T z_N a 0 0 61 [(0, .ref (a 144)), (1, .long (zJ v1)), (4, .int (zI v4)), (5, .int (zI v5)), (6, .int (zI v6))] [.int (zI s0), .int (zI s1)] st := by
  unfold J_X3_countWithin_61 at h
  refine z_iadd hc dX3_countWithin_61 ?_
  refine z_istore_n (i := 3) [(3, .int (zI (s1 + s0))), (0, .ref (a 144)), (1, .long (zJ v1)), (4, .int (zI v4)), (5, .int (zI v5)), (6, .int (zI v6))] hc dX3_countWithin_62 rfl (by decide) rfl ?_
  refine z_iinc [(6, .int (zI (v6 + 1))), (3, .int (zI (s1 + s0))), (0, .ref (a 144)), (1, .long (zJ v1)), (4, .int (zI v4)), (5, .int (zI v5))] 5 hc dX3_countWithin_63 rfl (by decide) rfl ?_
  refine z_goto (tgt := 32) hc dX3_countWithin_66 (by decide) ?_
  refine z_sub [(0, .ref (a 144)), (1, .long (zJ v1)), (3, .int (zI (s1 + s0))), (4, .int (zI v4)), (5, .int (zI v5)), (6, .int (zI (v6 + 1)))] [2, 3, 1, 4, 5, 0] rfl ?_
  exact k1 _ (Option.some.inj h).symm
def J_X3_countWithin_b32 (v1 v4 v5 v3 v6 : Int) (st : z_St) : Option ((Int × Int) ⊕ Int) :=
  z_g (z32 v6 ∧ z32 (st 144 3)) (if v6 < st 144 3 then
    z_b (J_X3_isWithin v1 v6 v4 v5 st) fun r1 =>
    z_g (z32 r1) (if r1 = 0 then
      J_X3_countWithin_61 v1 v4 v5 v6 0 v3 st
    else
      J_X3_countWithin_61 v1 v4 v5 v6 1 v3 st)
  else
    some (.inr v3))
set_option maxRecDepth 100000 in
set_option maxHeartbeats 4000000 in
theorem w_X3_countWithin_b32 {κ : zK} {a : Nat → Nat} {v1 v3 v4 v5 v6 : Int} {st : z_St} {mc9 ms9 : Nat} {o : (Int × Int) ⊕ Int} (hc : z_C κ RX3 cX3_countWithin 7 10 mc9 ms9) (hap : z_AP κ a z_N) (k1 : ∀ s9 : (Int × Int), o = .inl s9 → z_V κ z_T z_N a 0 0 32 [(0, .ref (a 144)), (1, .long (zJ v1)), (3, .int (zI s9.1)), (4, .int (zI v4)), (5, .int (zI v5)), (6, .int (zI s9.2))] [] st) (k2 : ∀ x9 : Int, o = .inr x9 → z_V κ z_T z_N a 0 0 69 [(0, .ref (a 144)), (1, .long (zJ v1)), (3, .int (zI x9)), (4, .int (zI v4)), (5, .int (zI v5))] [] st) (h : J_X3_countWithin_b32 v1 v4 v5 v3 v6 st = some o) : z_V κ z_T z_N a 0 0 32 [(0, .ref (a 144)), (1, .long (zJ v1)), (3, .int (zI v3)), (4, .int (zI v4)), (5, .int (zI v5)), (6, .int (zI v6))] [] st := by
  unfold J_X3_countWithin_b32 at h
  refine z_iload 5 hc dX3_countWithin_32 rfl ?_
  refine z_aload_n (i := 0) 0 hc dX3_countWithin_34 rfl rfl ?_
  refine z_getI (kI := 144) (jI := 3) hc fl_RX3_21 tT_144 (by decide) rfl rfl rfl dX3_countWithin_35 ?_
  refine z_icmp_ge (tgt := 69) hc dX3_countWithin_38 (by decide) h (fun c38 h => ?_) (fun c38 h => ?_)
  · refine z_iload_n (i := 3) 2 hc dX3_countWithin_41 rfl rfl ?_
    refine z_aload_n (i := 0) 0 hc dX3_countWithin_42 rfl rfl ?_
    refine z_lload_n (i := 1) 1 hc dX3_countWithin_43 rfl rfl ?_
    refine z_iload 5 hc dX3_countWithin_44 rfl ?_
    refine z_iload 3 hc dX3_countWithin_46 rfl ?_
    refine z_iload 4 hc dX3_countWithin_48 rfl ?_
    obtain ⟨r1, hr1, h⟩ := z_b_some h
    refine z_callVI [.long (zJ v1), .int (zI v6), .int (zI v4), .int (zI v5)] hc hap o_X3_isWithin ml_RX3_67 (fun l hl => c_X3_isWithin hl  hr1) (by decide) tT_144 (by decide) ⟨_, rfl, rfl⟩ rfl rfl (Nat.le_of_ble_eq_true rfl) (Nat.zero_le _) (Nat.zero_le _) dX3_countWithin_50 ?_
    refine z_if_eq (tgt := 60) hc dX3_countWithin_53 (by decide) h (fun c53 h => ?_) (fun c53 h => ?_)
    · refine z_iconst hc dX3_countWithin_60 ?_
      refine z_sub [(0, .ref (a 144)), (1, .long (zJ v1)), (4, .int (zI v4)), (5, .int (zI v5)), (6, .int (zI v6))] [0, 1, 3, 4, 5] rfl ?_
      exact w_X3_countWithin_61 hc hap k1 k2 h
    · refine z_iconst hc dX3_countWithin_56 ?_
      refine z_goto (tgt := 61) hc dX3_countWithin_57 (by decide) ?_
      refine z_sub [(0, .ref (a 144)), (1, .long (zJ v1)), (4, .int (zI v4)), (5, .int (zI v5)), (6, .int (zI v6))] [0, 1, 3, 4, 5] rfl ?_
      exact w_X3_countWithin_61 hc hap k1 k2 h
  · refine z_sub [(0, .ref (a 144)), (1, .long (zJ v1)), (3, .int (zI v3)), (4, .int (zI v4)), (5, .int (zI v5))] [0, 1, 2, 3, 4] rfl ?_
    exact k2 v3 (Option.some.inj h).symm
def J_X3_countWithin_b20 (v1 v4 v3 v5 : Int) (st : z_St) : Option ((Int × Int) ⊕ Int) :=
  z_g (z32 v5 ∧ z32 (st 144 4)) (if st 144 4 < v5 then
    some (.inr v3)
  else
    z_b (z_iter z_F (fun q9 : (Int × Int) => J_X3_countWithin_b32 v1 v4 v5 q9.1 q9.2 st) (v3, 0)) fun lx3 =>
      some (.inl (lx3, v5 + 1)))
set_option maxRecDepth 100000 in
set_option maxHeartbeats 4000000 in
theorem w_X3_countWithin_b20 {κ : zK} {a : Nat → Nat} {v1 v3 v4 v5 : Int} {st : z_St} {mc9 ms9 : Nat} {o : (Int × Int) ⊕ Int} (hc : z_C κ RX3 cX3_countWithin 7 10 mc9 ms9) (hap : z_AP κ a z_N) (k1 : ∀ s9 : (Int × Int), o = .inl s9 → z_V κ z_T z_N a 0 0 20 [(0, .ref (a 144)), (1, .long (zJ v1)), (3, .int (zI s9.1)), (4, .int (zI v4)), (5, .int (zI s9.2))] [] st) (k2 : ∀ x9 : Int, o = .inr x9 → z_V κ z_T z_N a 0 0 75 [(0, .ref (a 144)), (1, .long (zJ v1)), (3, .int (zI x9)), (4, .int (zI v4))] [] st) (h : J_X3_countWithin_b20 v1 v4 v3 v5 st = some o) : z_V κ z_T z_N a 0 0 20 [(0, .ref (a 144)), (1, .long (zJ v1)), (3, .int (zI v3)), (4, .int (zI v4)), (5, .int (zI v5))] [] st := by
  unfold J_X3_countWithin_b20 at h
  refine z_iload 4 hc dX3_countWithin_20 rfl ?_
  refine z_aload_n (i := 0) 0 hc dX3_countWithin_22 rfl rfl ?_
  refine z_getI (kI := 144) (jI := 4) hc fl_RX3_25 tT_144 (by decide) rfl rfl rfl dX3_countWithin_23 ?_
  refine z_icmp_gt (tgt := 75) hc dX3_countWithin_26 (by decide) h (fun c26 h => ?_) (fun c26 h => ?_)
  · refine z_sub [(0, .ref (a 144)), (1, .long (zJ v1)), (3, .int (zI v3)), (4, .int (zI v4))] [0, 1, 2, 3] rfl ?_
    exact k2 v3 (Option.some.inj h).symm
  · refine z_iconst hc dX3_countWithin_29 ?_
    refine z_istore [(6, .int (zI 0)), (0, .ref (a 144)), (1, .long (zJ v1)), (3, .int (zI v3)), (4, .int (zI v4)), (5, .int (zI v5))] hc dX3_countWithin_30 (by decide) rfl ?_
    obtain ⟨lx3, hlx3, h⟩ := z_b_some h
    refine z_sub [(0, .ref (a 144)), (1, .long (zJ v1)), (3, .int (zI v3)), (4, .int (zI v4)), (5, .int (zI v5)), (6, .int (zI 0))] [1, 2, 3, 4, 5, 0] rfl ?_
    refine z_loop (fun q9 : (Int × Int) => J_X3_countWithin_b32 v1 v4 v5 q9.1 q9.2 st) (fun q9 : (Int × Int) => z_V κ z_T z_N a 0 0 32 [(0, .ref (a 144)), (1, .long (zJ v1)), (3, .int (zI q9.1)), (4, .int (zI v4)), (5, .int (zI v5)), (6, .int (zI q9.2))] [] st) (fun x9 : Int => z_V κ z_T z_N a 0 0 69 [(0, .ref (a 144)), (1, .long (zJ v1)), (3, .int (zI x9)), (4, .int (zI v4)), (5, .int (zI v5))] [] st) (fun q9 o9 hb k1 k2 => ?_) _ _ _ hlx3 ?_
    · exact w_X3_countWithin_b32 hc hap k1 k2 hb
    · show z_V κ z_T z_N a 0 0 69 [(0, .ref (a 144)), (1, .long (zJ v1)), (3, .int (zI lx3)), (4, .int (zI v4)), (5, .int (zI v5))] [] st
      refine z_iinc [(5, .int (zI (v5 + 1))), (0, .ref (a 144)), (1, .long (zJ v1)), (3, .int (zI lx3)), (4, .int (zI v4))] 4 hc dX3_countWithin_69 rfl (by decide) rfl ?_
      refine z_goto (tgt := 20) hc dX3_countWithin_72 (by decide) ?_
      refine z_sub [(0, .ref (a 144)), (1, .long (zJ v1)), (3, .int (zI lx3)), (4, .int (zI v4)), (5, .int (zI (v5 + 1)))] [1, 2, 3, 4, 0] rfl ?_
      exact k1 _ (Option.some.inj h).symm
def J_X3_countWithin_b5 (v1 v3 v4 : Int) (st : z_St) : Option ((Int × Int) ⊕ Int) :=
  z_g (z32 v4 ∧ z32 (st 144 4)) (if v4 < st 144 4 then
    z_b (z_iter z_F (fun q9 : (Int × Int) => J_X3_countWithin_b20 v1 v4 q9.1 q9.2 st) (v3, v4 + 1)) fun lx4 =>
      some (.inl (lx4, v4 + 1))
  else
    some (.inr v3))
set_option maxRecDepth 100000 in
set_option maxHeartbeats 4000000 in
theorem w_X3_countWithin_b5 {κ : zK} {a : Nat → Nat} {v1 v3 v4 : Int} {st : z_St} {mc9 ms9 : Nat} {o : (Int × Int) ⊕ Int} (hc : z_C κ RX3 cX3_countWithin 7 10 mc9 ms9) (hap : z_AP κ a z_N) (k1 : ∀ s9 : (Int × Int), o = .inl s9 → z_V κ z_T z_N a 0 0 5 [(0, .ref (a 144)), (1, .long (zJ v1)), (3, .int (zI s9.1)), (4, .int (zI s9.2))] [] st) (k2 : ∀ x9 : Int, o = .inr x9 → z_V κ z_T z_N a 0 0 81 [(3, .int (zI x9))] [] st) (h : J_X3_countWithin_b5 v1 v3 v4 st = some o) : z_V κ z_T z_N a 0 0 5 [(0, .ref (a 144)), (1, .long (zJ v1)), (3, .int (zI v3)), (4, .int (zI v4))] [] st := by
  unfold J_X3_countWithin_b5 at h
  refine z_iload 3 hc dX3_countWithin_5 rfl ?_
  refine z_aload_n (i := 0) 0 hc dX3_countWithin_7 rfl rfl ?_
  refine z_getI (kI := 144) (jI := 4) hc fl_RX3_25 tT_144 (by decide) rfl rfl rfl dX3_countWithin_8 ?_
  refine z_icmp_ge (tgt := 81) hc dX3_countWithin_11 (by decide) h (fun c11 h => ?_) (fun c11 h => ?_)
  · refine z_iload 3 hc dX3_countWithin_14 rfl ?_
    refine z_iconst hc dX3_countWithin_16 ?_
    refine z_iadd hc dX3_countWithin_17 ?_
    refine z_istore [(5, .int (zI (v4 + 1))), (0, .ref (a 144)), (1, .long (zJ v1)), (3, .int (zI v3)), (4, .int (zI v4))] hc dX3_countWithin_18 (by decide) rfl ?_
    obtain ⟨lx4, hlx4, h⟩ := z_b_some h
    refine z_sub [(0, .ref (a 144)), (1, .long (zJ v1)), (3, .int (zI v3)), (4, .int (zI v4)), (5, .int (zI (v4 + 1)))] [1, 2, 3, 4, 0] rfl ?_
    refine z_loop (fun q9 : (Int × Int) => J_X3_countWithin_b20 v1 v4 q9.1 q9.2 st) (fun q9 : (Int × Int) => z_V κ z_T z_N a 0 0 20 [(0, .ref (a 144)), (1, .long (zJ v1)), (3, .int (zI q9.1)), (4, .int (zI v4)), (5, .int (zI q9.2))] [] st) (fun x9 : Int => z_V κ z_T z_N a 0 0 75 [(0, .ref (a 144)), (1, .long (zJ v1)), (3, .int (zI x9)), (4, .int (zI v4))] [] st) (fun q9 o9 hb k1 k2 => ?_) _ _ _ hlx4 ?_
    · exact w_X3_countWithin_b20 hc hap k1 k2 hb
    · show z_V κ z_T z_N a 0 0 75 [(0, .ref (a 144)), (1, .long (zJ v1)), (3, .int (zI lx4)), (4, .int (zI v4))] [] st
      refine z_iinc [(4, .int (zI (v4 + 1))), (0, .ref (a 144)), (1, .long (zJ v1)), (3, .int (zI lx4))] 3 hc dX3_countWithin_75 rfl (by decide) rfl ?_
      refine z_goto (tgt := 5) hc dX3_countWithin_78 (by decide) ?_
      refine z_sub [(0, .ref (a 144)), (1, .long (zJ v1)), (3, .int (zI lx4)), (4, .int (zI (v4 + 1)))] [1, 2, 3, 0] rfl ?_
      exact k1 _ (Option.some.inj h).symm
  · refine z_sub [(3, .int (zI v3))] [2] rfl ?_
    exact k2 v3 (Option.some.inj h).symm
def J_X3_countWithin (x1 : Int) (st : z_St) : Option (Int) :=
  z_b (z_iter z_F (fun q9 : (Int × Int) => J_X3_countWithin_b5 x1 q9.1 q9.2 st) (0, 0)) fun lx5 =>
    some lx5
set_option maxRecDepth 100000 in
set_option maxHeartbeats 4000000 in
theorem w_X3_countWithin {κ : zK} {a : Nat → Nat} {x1 : Int} {st : z_St} {o : Int} (hc : z_C κ RX3 cX3_countWithin 7 10 0 0) (hap : z_AP κ a z_N) (he : z_E 0 κ (some .int) z_T z_N a o st) (h : J_X3_countWithin x1 st = some o) : z_V κ z_T z_N a 0 0 0 [(0, .ref (a 144)), (1, .long (zJ x1))] [] st := by
  unfold J_X3_countWithin at h
  refine z_iconst hc dX3_countWithin_0 ?_
  refine z_istore_n (i := 3) [(3, .int (zI 0)), (0, .ref (a 144)), (1, .long (zJ x1))] hc dX3_countWithin_1 rfl (by decide) rfl ?_
  refine z_iconst hc dX3_countWithin_2 ?_
  refine z_istore [(4, .int (zI 0)), (3, .int (zI 0)), (0, .ref (a 144)), (1, .long (zJ x1))] hc dX3_countWithin_3 (by decide) rfl ?_
  obtain ⟨lx5, hlx5, h⟩ := z_b_some h
  refine z_sub [(0, .ref (a 144)), (1, .long (zJ x1)), (3, .int (zI 0)), (4, .int (zI 0))] [2, 3, 1, 0] rfl ?_
  refine z_loop (fun q9 : (Int × Int) => J_X3_countWithin_b5 x1 q9.1 q9.2 st) (fun q9 : (Int × Int) => z_V κ z_T z_N a 0 0 5 [(0, .ref (a 144)), (1, .long (zJ x1)), (3, .int (zI q9.1)), (4, .int (zI q9.2))] [] st) (fun x9 : Int => z_V κ z_T z_N a 0 0 81 [(3, .int (zI x9))] [] st) (fun q9 o9 hb k1 k2 => ?_) _ _ _ hlx5 ?_
  · exact w_X3_countWithin_b5 hc hap k1 k2 hb
  · show z_V κ z_T z_N a 0 0 81 [(3, .int (zI lx5))] [] st
    refine z_iload_n (i := 3) 0 hc dX3_countWithin_81 rfl rfl ?_
    have h := Option.some.inj h
    subst h
    exact z_retI hc he dX3_countWithin_82
set_option maxRecDepth 100000 in
set_option maxHeartbeats 4000000 in
theorem c_X3_countWithin {l : Launch} (hl : l.stackTraces = false) {a : Nat → Nat} {x1 : Int} {st : z_St} {o : Int} (h : J_X3_countWithin x1 st = some o) : z_M 0 l yX3_countWithin cX3_countWithin 7 (some .int) 10 z_T z_N a [.ref (a 144), .long (zJ x1)] st o st := z_of hl (by decide +kernel) (Nat.le_of_ble_eq_true rfl) (fun κ hc hap he => w_X3_countWithin hc hap he h)
theorem dX3_tellWithin_0 : decode cX3_tellWithin 0 = .ok (.iconst 0, 1) := by decide +kernel
theorem dX3_tellWithin_1 : decode cX3_tellWithin 1 = .ok (.istore 5, 2) := by decide +kernel
theorem dX3_tellWithin_3 : decode cX3_tellWithin 3 = .ok (.iconst 0, 1) := by decide +kernel
theorem dX3_tellWithin_4 : decode cX3_tellWithin 4 = .ok (.istore 6, 2) := by decide +kernel
theorem dX3_tellWithin_6 : decode cX3_tellWithin 6 = .ok (.iload 6, 2) := by decide +kernel
theorem dX3_tellWithin_8 : decode cX3_tellWithin 8 = .ok (.aload_n 0, 1) := by decide +kernel
theorem dX3_tellWithin_9 : decode cX3_tellWithin 9 = .ok (.getfield 25, 3) := by decide +kernel
theorem dX3_tellWithin_12 : decode cX3_tellWithin 12 = .ok (.if_icmp .ge 121, 3) := by decide +kernel
theorem dX3_tellWithin_15 : decode cX3_tellWithin 15 = .ok (.iload 6, 2) := by decide +kernel
theorem dX3_tellWithin_17 : decode cX3_tellWithin 17 = .ok (.iconst 1, 1) := by decide +kernel
theorem dX3_tellWithin_18 : decode cX3_tellWithin 18 = .ok (.iadd, 1) := by decide +kernel
theorem dX3_tellWithin_19 : decode cX3_tellWithin 19 = .ok (.istore 7, 2) := by decide +kernel
theorem dX3_tellWithin_21 : decode cX3_tellWithin 21 = .ok (.iload 7, 2) := by decide +kernel
theorem dX3_tellWithin_23 : decode cX3_tellWithin 23 = .ok (.aload_n 0, 1) := by decide +kernel
theorem dX3_tellWithin_24 : decode cX3_tellWithin 24 = .ok (.getfield 25, 3) := by decide +kernel
theorem dX3_tellWithin_27 : decode cX3_tellWithin 27 = .ok (.if_icmp .gt 100, 3) := by decide +kernel
theorem dX3_tellWithin_30 : decode cX3_tellWithin 30 = .ok (.iconst 0, 1) := by decide +kernel
theorem dX3_tellWithin_31 : decode cX3_tellWithin 31 = .ok (.istore 8, 2) := by decide +kernel
theorem dX3_tellWithin_33 : decode cX3_tellWithin 33 = .ok (.iload 8, 2) := by decide +kernel
theorem dX3_tellWithin_35 : decode cX3_tellWithin 35 = .ok (.aload_n 0, 1) := by decide +kernel
theorem dX3_tellWithin_36 : decode cX3_tellWithin 36 = .ok (.getfield 21, 3) := by decide +kernel
theorem dX3_tellWithin_39 : decode cX3_tellWithin 39 = .ok (.if_icmp .ge 82, 3) := by decide +kernel
theorem dX3_tellWithin_42 : decode cX3_tellWithin 42 = .ok (.aload_n 0, 1) := by decide +kernel
theorem dX3_tellWithin_43 : decode cX3_tellWithin 43 = .ok (.lload_n 1, 1) := by decide +kernel
theorem dX3_tellWithin_44 : decode cX3_tellWithin 44 = .ok (.iload 8, 2) := by decide +kernel
theorem dX3_tellWithin_46 : decode cX3_tellWithin 46 = .ok (.iload 6, 2) := by decide +kernel
theorem dX3_tellWithin_48 : decode cX3_tellWithin 48 = .ok (.iload 7, 2) := by decide +kernel
theorem dX3_tellWithin_50 : decode cX3_tellWithin 50 = .ok (.invokevirtual 67, 3) := by decide +kernel
theorem dX3_tellWithin_53 : decode cX3_tellWithin 53 = .ok (.ifCond .eq 62, 3) := by decide +kernel
theorem dX3_tellWithin_56 : decode cX3_tellWithin 56 = .ok (.iload 5, 2) := by decide +kernel
theorem dX3_tellWithin_58 : decode cX3_tellWithin 58 = .ok (.iload_n 3, 1) := by decide +kernel
theorem dX3_tellWithin_59 : decode cX3_tellWithin 59 = .ok (.if_icmp .ne 53, 3) := by decide +kernel
theorem dX3_tellWithin_62 : decode cX3_tellWithin 62 = .ok (.iload 4, 2) := by decide +kernel
theorem dX3_tellWithin_64 : decode cX3_tellWithin 64 = .ok (.ifCond .ne 9, 3) := by decide +kernel
theorem dX3_tellWithin_67 : decode cX3_tellWithin 67 = .ok (.iload 8, 2) := by decide +kernel
theorem dX3_tellWithin_69 : decode cX3_tellWithin 69 = .ok (.i2l, 1) := by decide +kernel
theorem dX3_tellWithin_70 : decode cX3_tellWithin 70 = .ok (.goto 41, 3) := by decide +kernel
theorem dX3_tellWithin_73 : decode cX3_tellWithin 73 = .ok (.iload 4, 2) := by decide +kernel
theorem dX3_tellWithin_75 : decode cX3_tellWithin 75 = .ok (.iconst 1, 1) := by decide +kernel
theorem dX3_tellWithin_76 : decode cX3_tellWithin 76 = .ok (.if_icmp .ne 9, 3) := by decide +kernel
theorem dX3_tellWithin_79 : decode cX3_tellWithin 79 = .ok (.iload 6, 2) := by decide +kernel
theorem dX3_tellWithin_81 : decode cX3_tellWithin 81 = .ok (.i2l, 1) := by decide +kernel
theorem dX3_tellWithin_82 : decode cX3_tellWithin 82 = .ok (.goto 29, 3) := by decide +kernel
theorem dX3_tellWithin_85 : decode cX3_tellWithin 85 = .ok (.iload 4, 2) := by decide +kernel
theorem dX3_tellWithin_87 : decode cX3_tellWithin 87 = .ok (.iconst 2, 1) := by decide +kernel
theorem dX3_tellWithin_88 : decode cX3_tellWithin 88 = .ok (.if_icmp .ne 9, 3) := by decide +kernel
theorem dX3_tellWithin_91 : decode cX3_tellWithin 91 = .ok (.iload 7, 2) := by decide +kernel
theorem dX3_tellWithin_93 : decode cX3_tellWithin 93 = .ok (.i2l, 1) := by decide +kernel
theorem dX3_tellWithin_94 : decode cX3_tellWithin 94 = .ok (.goto 17, 3) := by decide +kernel
theorem dX3_tellWithin_97 : decode cX3_tellWithin 97 = .ok (.aload_n 0, 1) := by decide +kernel
theorem dX3_tellWithin_98 : decode cX3_tellWithin 98 = .ok (.getfield 9, 3) := by decide +kernel
theorem dX3_tellWithin_101 : decode cX3_tellWithin 101 = .ok (.iload 8, 2) := by decide +kernel
theorem dX3_tellWithin_103 : decode cX3_tellWithin 103 = .ok (.iload 6, 2) := by decide +kernel
theorem dX3_tellWithin_105 : decode cX3_tellWithin 105 = .ok (.iload 7, 2) := by decide +kernel
theorem dX3_tellWithin_107 : decode cX3_tellWithin 107 = .ok (.invokestatic 52, 3) := by decide +kernel
theorem dX3_tellWithin_110 : decode cX3_tellWithin 110 = .ok (.laload, 1) := by decide +kernel
theorem dX3_tellWithin_111 : decode cX3_tellWithin 111 = .ok (.lreturn, 1) := by decide +kernel
theorem dX3_tellWithin_112 : decode cX3_tellWithin 112 = .ok (.iinc 5 1, 3) := by decide +kernel
theorem dX3_tellWithin_115 : decode cX3_tellWithin 115 = .ok (.iinc 8 1, 3) := by decide +kernel
theorem dX3_tellWithin_118 : decode cX3_tellWithin 118 = .ok (.goto (-85), 3) := by decide +kernel
theorem dX3_tellWithin_121 : decode cX3_tellWithin 121 = .ok (.iinc 7 1, 3) := by decide +kernel
theorem dX3_tellWithin_124 : decode cX3_tellWithin 124 = .ok (.goto (-103), 3) := by decide +kernel
theorem dX3_tellWithin_127 : decode cX3_tellWithin 127 = .ok (.iinc 6 1, 3) := by decide +kernel
theorem dX3_tellWithin_130 : decode cX3_tellWithin 130 = .ok (.goto (-124), 3) := by decide +kernel
theorem dX3_tellWithin_133 : decode cX3_tellWithin 133 = .ok (.ldc2_w 71, 3) := by decide +kernel
theorem dX3_tellWithin_136 : decode cX3_tellWithin 136 = .ok (.lreturn, 1) := by decide +kernel
def J_X3_tellWithin_115 (v1 v3 v4 v5 v6 v7 v8 : Int) (st : z_St) : Option ((Int × Int) ⊕ (Int ⊕ Int)) :=
  some (.inl (v5, v8 + 1))
set_option maxRecDepth 100000 in
set_option maxHeartbeats 4000000 in
theorem w_X3_tellWithin_115 {κ : zK} {a : Nat → Nat} {v1 v3 v4 v5 v6 v7 v8 : Int} {st : z_St} {mc9 ms9 : Nat} {o : (Int × Int) ⊕ (Int ⊕ Int)} (hc : z_C κ RX3 cX3_tellWithin 9 10 mc9 ms9) (hap : z_AP κ a z_N) (k1 : ∀ s9 : (Int × Int), o = .inl s9 → z_V κ z_T z_N a 0 0 33 [(0, .ref (a 144)), (1, .long (zJ v1)), (3, .int (zI v3)), (4, .int (zI v4)), (5, .int (zI s9.1)), (6, .int (zI v6)), (7, .int (zI v7)), (8, .int (zI s9.2))] [] st) (k2 : ∀ x9 : (Int ⊕ Int), o = .inr x9 → (match x9 with | .inl y9 => z_V κ z_T z_N a 0 0 121 [(0, .ref (a 144)), (1, .long (zJ v1)), (3, .int (zI v3)), (4, .int (zI v4)), (5, .int (zI y9)), (6, .int (zI v6)), (7, .int (zI v7))] [] st | .inr y9 => z_V κ z_T z_N a 0 0 62 [(0, .ref (a 144)), (4, .int (zI v4)), (6, .int (zI v6)), (7, .int (zI v7)), (8, .int (zI y9))] [] st)) (h : J_X3_tellWithin_115 v1 v3 v4 v5 v6 v7 v8 st = some o) : z_V κ z_T z_N a 0 0 115 [(0, .ref (a 144)), (1, .long (zJ v1)), (3, .int (zI v3)), (4, .int (zI v4)), (5, .int (zI v5)), (6, .int (zI v6)), (7, .int (zI v7)), (8, .int (zI v8))] [] st := by
  unfold J_X3_tellWithin_115 at h
  refine z_iinc [(8, .int (zI (v8 + 1))), (0, .ref (a 144)), (1, .long (zJ v1)), (3, .int (zI v3)), (4, .int (zI v4)), (5, .int (zI v5)), (6, .int (zI v6)), (7, .int (zI v7))] 7 hc dX3_tellWithin_115 rfl (by decide) rfl ?_
  refine z_goto (tgt := 33) hc dX3_tellWithin_118 (by decide) ?_
  refine z_sub [(0, .ref (a 144)), (1, .long (zJ v1)), (3, .int (zI v3)), (4, .int (zI v4)), (5, .int (zI v5)), (6, .int (zI v6)), (7, .int (zI v7)), (8, .int (zI (v8 + 1)))] [1, 2, 3, 4, 5, 6, 7, 0] rfl ?_
  exact k1 _ (Option.some.inj h).symm
def J_X3_tellWithin_b33 (v1 v3 v4 v6 v7 v5 v8 : Int) (st : z_St) : Option ((Int × Int) ⊕ (Int ⊕ Int)) :=
  z_g (z32 v8 ∧ z32 (st 144 3)) (if v8 < st 144 3 then
    z_b (J_X3_isWithin v1 v8 v6 v7 st) fun r1 =>
    z_g (z32 r1) (if r1 = 0 then
      J_X3_tellWithin_115 v1 v3 v4 v5 v6 v7 v8 st
    else
      z_g (z32 v5 ∧ z32 v3) (if v5 = v3 then
        some (.inr (.inr v8))
      else
        J_X3_tellWithin_115 v1 v3 v4 (v5 + 1) v6 v7 v8 st))
  else
    some (.inr (.inl v5)))
set_option maxRecDepth 100000 in
set_option maxHeartbeats 4000000 in
theorem w_X3_tellWithin_b33 {κ : zK} {a : Nat → Nat} {v1 v3 v4 v5 v6 v7 v8 : Int} {st : z_St} {mc9 ms9 : Nat} {o : (Int × Int) ⊕ (Int ⊕ Int)} (hc : z_C κ RX3 cX3_tellWithin 9 10 mc9 ms9) (hap : z_AP κ a z_N) (k1 : ∀ s9 : (Int × Int), o = .inl s9 → z_V κ z_T z_N a 0 0 33 [(0, .ref (a 144)), (1, .long (zJ v1)), (3, .int (zI v3)), (4, .int (zI v4)), (5, .int (zI s9.1)), (6, .int (zI v6)), (7, .int (zI v7)), (8, .int (zI s9.2))] [] st) (k2 : ∀ x9 : (Int ⊕ Int), o = .inr x9 → (match x9 with | .inl y9 => z_V κ z_T z_N a 0 0 121 [(0, .ref (a 144)), (1, .long (zJ v1)), (3, .int (zI v3)), (4, .int (zI v4)), (5, .int (zI y9)), (6, .int (zI v6)), (7, .int (zI v7))] [] st | .inr y9 => z_V κ z_T z_N a 0 0 62 [(0, .ref (a 144)), (4, .int (zI v4)), (6, .int (zI v6)), (7, .int (zI v7)), (8, .int (zI y9))] [] st)) (h : J_X3_tellWithin_b33 v1 v3 v4 v6 v7 v5 v8 st = some o) : z_V κ z_T z_N a 0 0 33 [(0, .ref (a 144)), (1, .long (zJ v1)), (3, .int (zI v3)), (4, .int (zI v4)), (5, .int (zI v5)), (6, .int (zI v6)), (7, .int (zI v7)), (8, .int (zI v8))] [] st := by
  unfold J_X3_tellWithin_b33 at h
  refine z_iload 7 hc dX3_tellWithin_33 rfl ?_
  refine z_aload_n (i := 0) 0 hc dX3_tellWithin_35 rfl rfl ?_
  refine z_getI (kI := 144) (jI := 3) hc fl_RX3_21 tT_144 (by decide) rfl rfl rfl dX3_tellWithin_36 ?_
  refine z_icmp_ge (tgt := 121) hc dX3_tellWithin_39 (by decide) h (fun c39 h => ?_) (fun c39 h => ?_)
  · refine z_aload_n (i := 0) 0 hc dX3_tellWithin_42 rfl rfl ?_
    refine z_lload_n (i := 1) 1 hc dX3_tellWithin_43 rfl rfl ?_
    refine z_iload 7 hc dX3_tellWithin_44 rfl ?_
    refine z_iload 5 hc dX3_tellWithin_46 rfl ?_
    refine z_iload 6 hc dX3_tellWithin_48 rfl ?_
    obtain ⟨r1, hr1, h⟩ := z_b_some h
    refine z_callVI [.long (zJ v1), .int (zI v8), .int (zI v6), .int (zI v7)] hc hap o_X3_isWithin ml_RX3_67 (fun l hl => c_X3_isWithin hl  hr1) (by decide) tT_144 (by decide) ⟨_, rfl, rfl⟩ rfl rfl (Nat.le_of_ble_eq_true rfl) (Nat.zero_le _) (Nat.zero_le _) dX3_tellWithin_50 ?_
    refine z_if_eq (tgt := 115) hc dX3_tellWithin_53 (by decide) h (fun c53 h => ?_) (fun c53 h => ?_)
    · refine z_sub [(0, .ref (a 144)), (1, .long (zJ v1)), (3, .int (zI v3)), (4, .int (zI v4)), (5, .int (zI v5)), (6, .int (zI v6)), (7, .int (zI v7)), (8, .int (zI v8))] [0, 1, 2, 3, 4, 5, 6, 7] rfl ?_
      exact w_X3_tellWithin_115 hc hap k1 k2 h
    · refine z_iload 4 hc dX3_tellWithin_56 rfl ?_
      refine z_iload_n (i := 3) 2 hc dX3_tellWithin_58 rfl rfl ?_
      refine z_icmp_ne (tgt := 112) hc dX3_tellWithin_59 (by decide) h (fun c59 h => ?_) (fun c59 h => ?_)
      · refine z_sub [(0, .ref (a 144)), (4, .int (zI v4)), (6, .int (zI v6)), (7, .int (zI v7)), (8, .int (zI v8))] [0, 3, 5, 6, 7] rfl ?_
        exact k2 (.inr v8) (Option.some.inj h).symm
      · refine z_iinc [(5, .int (zI (v5 + 1))), (0, .ref (a 144)), (1, .long (zJ v1)), (3, .int (zI v3)), (4, .int (zI v4)), (6, .int (zI v6)), (7, .int (zI v7)), (8, .int (zI v8))] 4 hc dX3_tellWithin_112 rfl (by decide) rfl ?_
        refine z_sub [(0, .ref (a 144)), (1, .long (zJ v1)), (3, .int (zI v3)), (4, .int (zI v4)), (5, .int (zI (v5 + 1))), (6, .int (zI v6)), (7, .int (zI v7)), (8, .int (zI v8))] [1, 2, 3, 4, 0, 5, 6, 7] rfl ?_
        exact w_X3_tellWithin_115 hc hap k1 k2 h
  · refine z_sub [(0, .ref (a 144)), (1, .long (zJ v1)), (3, .int (zI v3)), (4, .int (zI v4)), (5, .int (zI v5)), (6, .int (zI v6)), (7, .int (zI v7))] [0, 1, 2, 3, 4, 5, 6] rfl ?_
    exact k2 (.inl v5) (Option.some.inj h).symm
def J_X3_tellWithin_b21 (v1 v3 v4 v6 v5 v7 : Int) (st : z_St) : Option ((Int × Int) ⊕ (Int ⊕ (Int × Int))) :=
  z_g (z32 v7 ∧ z32 (st 144 4)) (if st 144 4 < v7 then
    some (.inr (.inl v5))
  else
    z_b (z_iter z_F (fun q9 : (Int × Int) => J_X3_tellWithin_b33 v1 v3 v4 v6 v7 q9.1 q9.2 st) (v5, 0)) fun lx3 => match lx3 with
    | .inl y4 =>
      some (.inl (y4, v7 + 1))
    | .inr y5 =>
      some (.inr (.inr (v7, y5))))
set_option maxRecDepth 100000 in
set_option maxHeartbeats 4000000 in
theorem w_X3_tellWithin_b21 {κ : zK} {a : Nat → Nat} {v1 v3 v4 v5 v6 v7 : Int} {st : z_St} {mc9 ms9 : Nat} {o : (Int × Int) ⊕ (Int ⊕ (Int × Int))} (hc : z_C κ RX3 cX3_tellWithin 9 10 mc9 ms9) (hap : z_AP κ a z_N) (k1 : ∀ s9 : (Int × Int), o = .inl s9 → z_V κ z_T z_N a 0 0 21 [(0, .ref (a 144)), (1, .long (zJ v1)), (3, .int (zI v3)), (4, .int (zI v4)), (5, .int (zI s9.1)), (6, .int (zI v6)), (7, .int (zI s9.2))] [] st) (k2 : ∀ x9 : (Int ⊕ (Int × Int)), o = .inr x9 → (match x9 with | .inl y9 => z_V κ z_T z_N a 0 0 127 [(0, .ref (a 144)), (1, .long (zJ v1)), (3, .int (zI v3)), (4, .int (zI v4)), (5, .int (zI y9)), (6, .int (zI v6))] [] st | .inr y9 => z_V κ z_T z_N a 0 0 62 [(0, .ref (a 144)), (4, .int (zI v4)), (6, .int (zI v6)), (7, .int (zI y9.1)), (8, .int (zI y9.2))] [] st)) (h : J_X3_tellWithin_b21 v1 v3 v4 v6 v5 v7 st = some o) : z_V κ z_T z_N a 0 0 21 [(0, .ref (a 144)), (1, .long (zJ v1)), (3, .int (zI v3)), (4, .int (zI v4)), (5, .int (zI v5)), (6, .int (zI v6)), (7, .int (zI v7))] [] st := by
  unfold J_X3_tellWithin_b21 at h
  refine z_iload 6 hc dX3_tellWithin_21 rfl ?_
  refine z_aload_n (i := 0) 0 hc dX3_tellWithin_23 rfl rfl ?_
  refine z_getI (kI := 144) (jI := 4) hc fl_RX3_25 tT_144 (by decide) rfl rfl rfl dX3_tellWithin_24 ?_
  refine z_icmp_gt (tgt := 127) hc dX3_tellWithin_27 (by decide) h (fun c27 h => ?_) (fun c27 h => ?_)
  · refine z_sub [(0, .ref (a 144)), (1, .long (zJ v1)), (3, .int (zI v3)), (4, .int (zI v4)), (5, .int (zI v5)), (6, .int (zI v6))] [0, 1, 2, 3, 4, 5] rfl ?_
    exact k2 (.inl v5) (Option.some.inj h).symm
  · refine z_iconst hc dX3_tellWithin_30 ?_
    refine z_istore [(8, .int (zI 0)), (0, .ref (a 144)), (1, .long (zJ v1)), (3, .int (zI v3)), (4, .int (zI v4)), (5, .int (zI v5)), (6, .int (zI v6)), (7, .int (zI v7))] hc dX3_tellWithin_31 (by decide) rfl ?_
    obtain ⟨lx3, hlx3, h⟩ := z_b_some h
    refine z_sub [(0, .ref (a 144)), (1, .long (zJ v1)), (3, .int (zI v3)), (4, .int (zI v4)), (5, .int (zI v5)), (6, .int (zI v6)), (7, .int (zI v7)), (8, .int (zI 0))] [1, 2, 3, 4, 5, 6, 7, 0] rfl ?_
    refine z_loop (fun q9 : (Int × Int) => J_X3_tellWithin_b33 v1 v3 v4 v6 v7 q9.1 q9.2 st) (fun q9 : (Int × Int) => z_V κ z_T z_N a 0 0 33 [(0, .ref (a 144)), (1, .long (zJ v1)), (3, .int (zI v3)), (4, .int (zI v4)), (5, .int (zI q9.1)), (6, .int (zI v6)), (7, .int (zI v7)), (8, .int (zI q9.2))] [] st) (fun x9 : (Int ⊕ Int) => (match x9 with | .inl y9 => z_V κ z_T z_N a 0 0 121 [(0, .ref (a 144)), (1, .long (zJ v1)), (3, .int (zI v3)), (4, .int (zI v4)), (5, .int (zI y9)), (6, .int (zI v6)), (7, .int (zI v7))] [] st | .inr y9 => z_V κ z_T z_N a 0 0 62 [(0, .ref (a 144)), (4, .int (zI v4)), (6, .int (zI v6)), (7, .int (zI v7)), (8, .int (zI y9))] [] st)) (fun q9 o9 hb k1 k2 => ?_) _ _ _ hlx3 ?_
    · exact w_X3_tellWithin_b33 hc hap k1 k2 hb
    · rcases lx3 with y4 | y5
      · show z_V κ z_T z_N a 0 0 121 [(0, .ref (a 144)), (1, .long (zJ v1)), (3, .int (zI v3)), (4, .int (zI v4)), (5, .int (zI y4)), (6, .int (zI v6)), (7, .int (zI v7))] [] st
        dsimp only at h
        refine z_iinc [(7, .int (zI (v7 + 1))), (0, .ref (a 144)), (1, .long (zJ v1)), (3, .int (zI v3)), (4, .int (zI v4)), (5, .int (zI y4)), (6, .int (zI v6))] 6 hc dX3_tellWithin_121 rfl (by decide) rfl ?_
        refine z_goto (tgt := 21) hc dX3_tellWithin_124 (by decide) ?_
        refine z_sub [(0, .ref (a 144)), (1, .long (zJ v1)), (3, .int (zI v3)), (4, .int (zI v4)), (5, .int (zI y4)), (6, .int (zI v6)), (7, .int (zI (v7 + 1)))] [1, 2, 3, 4, 5, 6, 0] rfl ?_
        exact k1 _ (Option.some.inj h).symm
      · show z_V κ z_T z_N a 0 0 62 [(0, .ref (a 144)), (4, .int (zI v4)), (6, .int (zI v6)), (7, .int (zI v7)), (8, .int (zI y5))] [] st
        dsimp only at h
        refine z_sub [(0, .ref (a 144)), (4, .int (zI v4)), (6, .int (zI v6)), (7, .int (zI v7)), (8, .int (zI y5))] [0, 1, 2, 3, 4] rfl ?_
        exact k2 (.inr (v7, y5)) (Option.some.inj h).symm
def J_X3_tellWithin_b6 (v1 v3 v4 v5 v6 : Int) (st : z_St) : Option ((Int × Int) ⊕ (Unit ⊕ (Int × Int × Int))) :=
  z_g (z32 v6 ∧ z32 (st 144 4)) (if v6 < st 144 4 then
    z_b (z_iter z_F (fun q9 : (Int × Int) => J_X3_tellWithin_b21 v1 v3 v4 v6 q9.1 q9.2 st) (v5, v6 + 1)) fun lx6 => match lx6 with
    | .inl y7 =>
      some (.inl (y7, v6 + 1))
    | .inr y8 =>
      some (.inr (.inr (v6, y8.1, y8.2)))
  else
    some (.inr (.inl ())))
set_option maxRecDepth 100000 in
set_option maxHeartbeats 4000000 in
theorem w_X3_tellWithin_b6 {κ : zK} {a : Nat → Nat} {v1 v3 v4 v5 v6 : Int} {st : z_St} {mc9 ms9 : Nat} {o : (Int × Int) ⊕ (Unit ⊕ (Int × Int × Int))} (hc : z_C κ RX3 cX3_tellWithin 9 10 mc9 ms9) (hap : z_AP κ a z_N) (k1 : ∀ s9 : (Int × Int), o = .inl s9 → z_V κ z_T z_N a 0 0 6 [(0, .ref (a 144)), (1, .long (zJ v1)), (3, .int (zI v3)), (4, .int (zI v4)), (5, .int (zI s9.1)), (6, .int (zI s9.2))] [] st) (k2 : ∀ x9 : (Unit ⊕ (Int × Int × Int)), o = .inr x9 → (match x9 with | .inl y9 => z_V κ z_T z_N a 0 0 133 [] [] st | .inr y9 => z_V κ z_T z_N a 0 0 62 [(0, .ref (a 144)), (4, .int (zI v4)), (6, .int (zI y9.1)), (7, .int (zI y9.2.1)), (8, .int (zI y9.2.2))] [] st)) (h : J_X3_tellWithin_b6 v1 v3 v4 v5 v6 st = some o) : z_V κ z_T z_N a 0 0 6 [(0, .ref (a 144)), (1, .long (zJ v1)), (3, .int (zI v3)), (4, .int (zI v4)), (5, .int (zI v5)), (6, .int (zI v6))] [] st := by
  unfold J_X3_tellWithin_b6 at h
  refine z_iload 5 hc dX3_tellWithin_6 rfl ?_
  refine z_aload_n (i := 0) 0 hc dX3_tellWithin_8 rfl rfl ?_
  refine z_getI (kI := 144) (jI := 4) hc fl_RX3_25 tT_144 (by decide) rfl rfl rfl dX3_tellWithin_9 ?_
  refine z_icmp_ge (tgt := 133) hc dX3_tellWithin_12 (by decide) h (fun c12 h => ?_) (fun c12 h => ?_)
  · refine z_iload 5 hc dX3_tellWithin_15 rfl ?_
    refine z_iconst hc dX3_tellWithin_17 ?_
    refine z_iadd hc dX3_tellWithin_18 ?_
    refine z_istore [(7, .int (zI (v6 + 1))), (0, .ref (a 144)), (1, .long (zJ v1)), (3, .int (zI v3)), (4, .int (zI v4)), (5, .int (zI v5)), (6, .int (zI v6))] hc dX3_tellWithin_19 (by decide) rfl ?_
    obtain ⟨lx6, hlx6, h⟩ := z_b_some h
    refine z_sub [(0, .ref (a 144)), (1, .long (zJ v1)), (3, .int (zI v3)), (4, .int (zI v4)), (5, .int (zI v5)), (6, .int (zI v6)), (7, .int (zI (v6 + 1)))] [1, 2, 3, 4, 5, 6, 0] rfl ?_
    refine z_loop (fun q9 : (Int × Int) => J_X3_tellWithin_b21 v1 v3 v4 v6 q9.1 q9.2 st) (fun q9 : (Int × Int) => z_V κ z_T z_N a 0 0 21 [(0, .ref (a 144)), (1, .long (zJ v1)), (3, .int (zI v3)), (4, .int (zI v4)), (5, .int (zI q9.1)), (6, .int (zI v6)), (7, .int (zI q9.2))] [] st) (fun x9 : (Int ⊕ (Int × Int)) => (match x9 with | .inl y9 => z_V κ z_T z_N a 0 0 127 [(0, .ref (a 144)), (1, .long (zJ v1)), (3, .int (zI v3)), (4, .int (zI v4)), (5, .int (zI y9)), (6, .int (zI v6))] [] st | .inr y9 => z_V κ z_T z_N a 0 0 62 [(0, .ref (a 144)), (4, .int (zI v4)), (6, .int (zI v6)), (7, .int (zI y9.1)), (8, .int (zI y9.2))] [] st)) (fun q9 o9 hb k1 k2 => ?_) _ _ _ hlx6 ?_
    · exact w_X3_tellWithin_b21 hc hap k1 k2 hb
    · rcases lx6 with y7 | y8
      · show z_V κ z_T z_N a 0 0 127 [(0, .ref (a 144)), (1, .long (zJ v1)), (3, .int (zI v3)), (4, .int (zI v4)), (5, .int (zI y7)), (6, .int (zI v6))] [] st
        dsimp only at h
        refine z_iinc [(6, .int (zI (v6 + 1))), (0, .ref (a 144)), (1, .long (zJ v1)), (3, .int (zI v3)), (4, .int (zI v4)), (5, .int (zI y7))] 5 hc dX3_tellWithin_127 rfl (by decide) rfl ?_
        refine z_goto (tgt := 6) hc dX3_tellWithin_130 (by decide) ?_
        refine z_sub [(0, .ref (a 144)), (1, .long (zJ v1)), (3, .int (zI v3)), (4, .int (zI v4)), (5, .int (zI y7)), (6, .int (zI (v6 + 1)))] [1, 2, 3, 4, 5, 0] rfl ?_
        exact k1 _ (Option.some.inj h).symm
      · show z_V κ z_T z_N a 0 0 62 [(0, .ref (a 144)), (4, .int (zI v4)), (6, .int (zI v6)), (7, .int (zI y8.1)), (8, .int (zI y8.2))] [] st
        dsimp only at h
        refine z_sub [(0, .ref (a 144)), (4, .int (zI v4)), (6, .int (zI v6)), (7, .int (zI y8.1)), (8, .int (zI y8.2))] [0, 1, 2, 3, 4] rfl ?_
        exact k2 (.inr (v6, y8.1, y8.2)) (Option.some.inj h).symm
  · refine z_sub [] [] rfl ?_
    exact k2 (.inl ()) (Option.some.inj h).symm
def J_X3_tellWithin_111 (s0 : Int) (st : z_St) : Option (Int) :=
  some s0
set_option maxRecDepth 100000 in
set_option maxHeartbeats 4000000 in
theorem w_X3_tellWithin_111 {κ : zK} {a : Nat → Nat} {s0 : Int} {st : z_St} {o : Int} (hc : z_C κ RX3 cX3_tellWithin 9 10 0 0) (hap : z_AP κ a z_N) (he : z_E 1 κ (some .long) z_T z_N a o st) (h : J_X3_tellWithin_111 s0 st = some o) : z_V κ z_T z_N a 0 0 111 [] [.long (zJ s0)] st := by
  unfold J_X3_tellWithin_111 at h
  have h := Option.some.inj h
  subst h
  exact z_retJ hc he dX3_tellWithin_111
def J_X3_tellWithin (x1 x3 x4 : Int) (st : z_St) : Option (Int) :=
  z_b (z_iter z_F (fun q9 : (Int × Int) => J_X3_tellWithin_b6 x1 x3 x4 q9.1 q9.2 st) (0, 0)) fun lx9 => match lx9 with
  | .inl y10 =>
    some (-1)
  | .inr y11 =>
    z_g (z32 x4) (if x4 = 0 then
      z_g (z32 y11.2.2) <|
      J_X3_tellWithin_111 y11.2.2 st
    else
      z_g (z32 x4 ∧ z32 1) (if x4 = 1 then
        z_g (z32 y11.1) <|
        J_X3_tellWithin_111 y11.1 st
      else
        z_g (z32 x4 ∧ z32 2) (if x4 = 2 then
          z_g (z32 y11.2.1) <|
          J_X3_tellWithin_111 y11.2.1 st
        else
          z_b (J_X3_arcAt y11.2.2 y11.1 y11.2.1 st) fun r12 =>
          z_g (0 ≤ r12 ∧ r12 < 1445) <|
          J_X3_tellWithin_111 (st 145 r12) st)))
set_option maxRecDepth 100000 in
set_option maxHeartbeats 4000000 in
theorem w_X3_tellWithin {κ : zK} {a : Nat → Nat} {x1 x3 x4 : Int} {st : z_St} {o : Int} (hc : z_C κ RX3 cX3_tellWithin 9 10 0 0) (hap : z_AP κ a z_N) (he : z_E 1 κ (some .long) z_T z_N a o st) (h : J_X3_tellWithin x1 x3 x4 st = some o) : z_V κ z_T z_N a 0 0 0 [(0, .ref (a 144)), (1, .long (zJ x1)), (3, .int (zI x3)), (4, .int (zI x4))] [] st := by
  unfold J_X3_tellWithin at h
  refine z_iconst hc dX3_tellWithin_0 ?_
  refine z_istore [(5, .int (zI 0)), (0, .ref (a 144)), (1, .long (zJ x1)), (3, .int (zI x3)), (4, .int (zI x4))] hc dX3_tellWithin_1 (by decide) rfl ?_
  refine z_iconst hc dX3_tellWithin_3 ?_
  refine z_istore [(6, .int (zI 0)), (5, .int (zI 0)), (0, .ref (a 144)), (1, .long (zJ x1)), (3, .int (zI x3)), (4, .int (zI x4))] hc dX3_tellWithin_4 (by decide) rfl ?_
  obtain ⟨lx9, hlx9, h⟩ := z_b_some h
  refine z_sub [(0, .ref (a 144)), (1, .long (zJ x1)), (3, .int (zI x3)), (4, .int (zI x4)), (5, .int (zI 0)), (6, .int (zI 0))] [2, 3, 4, 5, 1, 0] rfl ?_
  refine z_loop (fun q9 : (Int × Int) => J_X3_tellWithin_b6 x1 x3 x4 q9.1 q9.2 st) (fun q9 : (Int × Int) => z_V κ z_T z_N a 0 0 6 [(0, .ref (a 144)), (1, .long (zJ x1)), (3, .int (zI x3)), (4, .int (zI x4)), (5, .int (zI q9.1)), (6, .int (zI q9.2))] [] st) (fun x9 : (Unit ⊕ (Int × Int × Int)) => (match x9 with | .inl y9 => z_V κ z_T z_N a 0 0 133 [] [] st | .inr y9 => z_V κ z_T z_N a 0 0 62 [(0, .ref (a 144)), (4, .int (zI x4)), (6, .int (zI y9.1)), (7, .int (zI y9.2.1)), (8, .int (zI y9.2.2))] [] st)) (fun q9 o9 hb k1 k2 => ?_) _ _ _ hlx9 ?_
  · exact w_X3_tellWithin_b6 hc hap k1 k2 hb
  · rcases lx9 with y10 | y11
    · show z_V κ z_T z_N a 0 0 133 [] [] st
      dsimp only at h
      refine z_ldc2 (-1) hc kc_RX3_71 dX3_tellWithin_133 rfl ?_
      have h := Option.some.inj h
      subst h
      exact z_retJ hc he dX3_tellWithin_136
    · show z_V κ z_T z_N a 0 0 62 [(0, .ref (a 144)), (4, .int (zI x4)), (6, .int (zI y11.1)), (7, .int (zI y11.2.1)), (8, .int (zI y11.2.2))] [] st
      dsimp only at h
      refine z_iload 1 hc dX3_tellWithin_62 rfl ?_
      refine z_if_ne (tgt := 73) hc dX3_tellWithin_64 (by decide) h (fun c64 h => ?_) (fun c64 h => ?_)
      · refine z_iload 4 hc dX3_tellWithin_67 rfl ?_
        refine z_i2l hc dX3_tellWithin_69 h (fun h => ?_)
        refine z_goto (tgt := 111) hc dX3_tellWithin_70 (by decide) ?_
        refine z_sub [] [] rfl ?_
        exact w_X3_tellWithin_111 hc hap he h
      · refine z_iload 1 hc dX3_tellWithin_73 rfl ?_
        refine z_iconst hc dX3_tellWithin_75 ?_
        refine z_icmp_ne (tgt := 85) hc dX3_tellWithin_76 (by decide) h (fun c76 h => ?_) (fun c76 h => ?_)
        · refine z_iload 2 hc dX3_tellWithin_79 rfl ?_
          refine z_i2l hc dX3_tellWithin_81 h (fun h => ?_)
          refine z_goto (tgt := 111) hc dX3_tellWithin_82 (by decide) ?_
          refine z_sub [] [] rfl ?_
          exact w_X3_tellWithin_111 hc hap he h
        · refine z_iload 1 hc dX3_tellWithin_85 rfl ?_
          refine z_iconst hc dX3_tellWithin_87 ?_
          refine z_icmp_ne (tgt := 97) hc dX3_tellWithin_88 (by decide) h (fun c88 h => ?_) (fun c88 h => ?_)
          · refine z_iload 3 hc dX3_tellWithin_91 rfl ?_
            refine z_i2l hc dX3_tellWithin_93 h (fun h => ?_)
            refine z_goto (tgt := 111) hc dX3_tellWithin_94 (by decide) ?_
            refine z_sub [] [] rfl ?_
            exact w_X3_tellWithin_111 hc hap he h
          · refine z_aload_n (i := 0) 0 hc dX3_tellWithin_97 rfl rfl ?_
            refine z_getA (k' := 145) hc fl_RX3_9 tT_144 (by decide) rfl rfl dX3_tellWithin_98 ?_
            refine z_iload 4 hc dX3_tellWithin_101 rfl ?_
            refine z_iload 2 hc dX3_tellWithin_103 rfl ?_
            refine z_iload 3 hc dX3_tellWithin_105 rfl ?_
            obtain ⟨r12, hr12, h⟩ := z_b_some h
            refine z_callSI [.int (zI y11.2.2), .int (zI y11.1), .int (zI y11.2.1)] hc hap o_X3_arcAt ml_RX3_52 (fun l hl => c_X3_arcAt hl  hr12) (by decide) rfl rfl (Nat.le_of_ble_eq_true rfl) (Nat.zero_le _) (Nat.zero_le _) dX3_tellWithin_107 ?_
            refine z_lald (kI := 145) (nI9 := 1445) hc tT_145 (by decide) rfl rfl (by decide) dX3_tellWithin_110 h (fun g14 h => ?_)
            refine z_sub [] [] rfl ?_
            exact w_X3_tellWithin_111 hc hap he h
set_option maxRecDepth 100000 in
set_option maxHeartbeats 4000000 in
theorem c_X3_tellWithin {l : Launch} (hl : l.stackTraces = false) {a : Nat → Nat} {x1 x3 x4 : Int} {st : z_St} {o : Int} (h : J_X3_tellWithin x1 x3 x4 st = some o) : z_M 1 l yX3_tellWithin cX3_tellWithin 9 (some .long) 10 z_T z_N a [.ref (a 144), .long (zJ x1), .int (zI x3), .int (zI x4)] st o st := z_of hl (by decide +kernel) (Nat.le_of_ble_eq_true rfl) (fun κ hc hap he => w_X3_tellWithin hc hap he h)
theorem dX3_leastSlackOf_0 : decode cX3_leastSlackOf 0 = .ok (.ldc2_w 55, 3) := by decide +kernel
theorem dX3_leastSlackOf_3 : decode cX3_leastSlackOf 3 = .ok (.lstore_n 2, 1) := by decide +kernel
theorem dX3_leastSlackOf_4 : decode cX3_leastSlackOf 4 = .ok (.iconst 0, 1) := by decide +kernel
theorem dX3_leastSlackOf_5 : decode cX3_leastSlackOf 5 = .ok (.istore 4, 2) := by decide +kernel
theorem dX3_leastSlackOf_7 : decode cX3_leastSlackOf 7 = .ok (.iload 4, 2) := by decide +kernel
theorem dX3_leastSlackOf_9 : decode cX3_leastSlackOf 9 = .ok (.aload_n 0, 1) := by decide +kernel
theorem dX3_leastSlackOf_10 : decode cX3_leastSlackOf 10 = .ok (.getfield 25, 3) := by decide +kernel
theorem dX3_leastSlackOf_13 : decode cX3_leastSlackOf 13 = .ok (.if_icmp .ge 48, 3) := by decide +kernel
theorem dX3_leastSlackOf_16 : decode cX3_leastSlackOf 16 = .ok (.iload 4, 2) := by decide +kernel
theorem dX3_leastSlackOf_18 : decode cX3_leastSlackOf 18 = .ok (.iconst 1, 1) := by decide +kernel
theorem dX3_leastSlackOf_19 : decode cX3_leastSlackOf 19 = .ok (.iadd, 1) := by decide +kernel
theorem dX3_leastSlackOf_20 : decode cX3_leastSlackOf 20 = .ok (.istore 5, 2) := by decide +kernel
theorem dX3_leastSlackOf_22 : decode cX3_leastSlackOf 22 = .ok (.iload 5, 2) := by decide +kernel
theorem dX3_leastSlackOf_24 : decode cX3_leastSlackOf 24 = .ok (.aload_n 0, 1) := by decide +kernel
theorem dX3_leastSlackOf_25 : decode cX3_leastSlackOf 25 = .ok (.getfield 25, 3) := by decide +kernel
theorem dX3_leastSlackOf_28 : decode cX3_leastSlackOf 28 = .ok (.if_icmp .gt 27, 3) := by decide +kernel
theorem dX3_leastSlackOf_31 : decode cX3_leastSlackOf 31 = .ok (.lload_n 2, 1) := by decide +kernel
theorem dX3_leastSlackOf_32 : decode cX3_leastSlackOf 32 = .ok (.aload_n 0, 1) := by decide +kernel
theorem dX3_leastSlackOf_33 : decode cX3_leastSlackOf 33 = .ok (.getfield 9, 3) := by decide +kernel
theorem dX3_leastSlackOf_36 : decode cX3_leastSlackOf 36 = .ok (.iload_n 1, 1) := by decide +kernel
theorem dX3_leastSlackOf_37 : decode cX3_leastSlackOf 37 = .ok (.iload 4, 2) := by decide +kernel
theorem dX3_leastSlackOf_39 : decode cX3_leastSlackOf 39 = .ok (.iload 5, 2) := by decide +kernel
theorem dX3_leastSlackOf_41 : decode cX3_leastSlackOf 41 = .ok (.invokestatic 52, 3) := by decide +kernel
theorem dX3_leastSlackOf_44 : decode cX3_leastSlackOf 44 = .ok (.laload, 1) := by decide +kernel
theorem dX3_leastSlackOf_45 : decode cX3_leastSlackOf 45 = .ok (.invokestatic 61, 3) := by decide +kernel
theorem dX3_leastSlackOf_48 : decode cX3_leastSlackOf 48 = .ok (.lstore_n 2, 1) := by decide +kernel
theorem dX3_leastSlackOf_49 : decode cX3_leastSlackOf 49 = .ok (.iinc 5 1, 3) := by decide +kernel
theorem dX3_leastSlackOf_52 : decode cX3_leastSlackOf 52 = .ok (.goto (-30), 3) := by decide +kernel
theorem dX3_leastSlackOf_55 : decode cX3_leastSlackOf 55 = .ok (.iinc 4 1, 3) := by decide +kernel
theorem dX3_leastSlackOf_58 : decode cX3_leastSlackOf 58 = .ok (.goto (-51), 3) := by decide +kernel
theorem dX3_leastSlackOf_61 : decode cX3_leastSlackOf 61 = .ok (.lload_n 2, 1) := by decide +kernel
theorem dX3_leastSlackOf_62 : decode cX3_leastSlackOf 62 = .ok (.lreturn, 1) := by decide +kernel
def J_X3_leastSlackOf_b22 (v1 v4 v2 v5 : Int) (st : z_St) : Option ((Int × Int) ⊕ Int) :=
  z_g (z32 v5 ∧ z32 (st 144 4)) (if st 144 4 < v5 then
    some (.inr v2)
  else
    z_b (J_X3_arcAt v1 v4 v5 st) fun r1 =>
    z_g (0 ≤ r1 ∧ r1 < 1445) <|
    z_g (z64 v2 ∧ z64 (st 145 r1)) <|
    some (.inl (min v2 (st 145 r1), v5 + 1)))
set_option maxRecDepth 100000 in
set_option maxHeartbeats 4000000 in
theorem w_X3_leastSlackOf_b22 {κ : zK} {a : Nat → Nat} {v1 v2 v4 v5 : Int} {st : z_St} {mc9 ms9 : Nat} {o : (Int × Int) ⊕ Int} (hc : z_C κ RX3 cX3_leastSlackOf 6 9 mc9 ms9) (hap : z_AP κ a z_N) (k1 : ∀ s9 : (Int × Int), o = .inl s9 → z_V κ z_T z_N a 0 0 22 [(0, .ref (a 144)), (1, .int (zI v1)), (2, .long (zJ s9.1)), (4, .int (zI v4)), (5, .int (zI s9.2))] [] st) (k2 : ∀ x9 : Int, o = .inr x9 → z_V κ z_T z_N a 0 0 55 [(0, .ref (a 144)), (1, .int (zI v1)), (2, .long (zJ x9)), (4, .int (zI v4))] [] st) (h : J_X3_leastSlackOf_b22 v1 v4 v2 v5 st = some o) : z_V κ z_T z_N a 0 0 22 [(0, .ref (a 144)), (1, .int (zI v1)), (2, .long (zJ v2)), (4, .int (zI v4)), (5, .int (zI v5))] [] st := by
  unfold J_X3_leastSlackOf_b22 at h
  refine z_iload 4 hc dX3_leastSlackOf_22 rfl ?_
  refine z_aload_n (i := 0) 0 hc dX3_leastSlackOf_24 rfl rfl ?_
  refine z_getI (kI := 144) (jI := 4) hc fl_RX3_25 tT_144 (by decide) rfl rfl rfl dX3_leastSlackOf_25 ?_
  refine z_icmp_gt (tgt := 55) hc dX3_leastSlackOf_28 (by decide) h (fun c28 h => ?_) (fun c28 h => ?_)
  · refine z_sub [(0, .ref (a 144)), (1, .int (zI v1)), (2, .long (zJ v2)), (4, .int (zI v4))] [0, 1, 2, 3] rfl ?_
    exact k2 v2 (Option.some.inj h).symm
  · refine z_lload_n (i := 2) 2 hc dX3_leastSlackOf_31 rfl rfl ?_
    refine z_aload_n (i := 0) 0 hc dX3_leastSlackOf_32 rfl rfl ?_
    refine z_getA (k' := 145) hc fl_RX3_9 tT_144 (by decide) rfl rfl dX3_leastSlackOf_33 ?_
    refine z_iload_n (i := 1) 1 hc dX3_leastSlackOf_36 rfl rfl ?_
    refine z_iload 3 hc dX3_leastSlackOf_37 rfl ?_
    refine z_iload 4 hc dX3_leastSlackOf_39 rfl ?_
    obtain ⟨r1, hr1, h⟩ := z_b_some h
    refine z_callSI [.int (zI v1), .int (zI v4), .int (zI v5)] hc hap o_X3_arcAt ml_RX3_52 (fun l hl => c_X3_arcAt hl  hr1) (by decide) rfl rfl (Nat.le_of_ble_eq_true rfl) (Nat.zero_le _) (Nat.zero_le _) dX3_leastSlackOf_41 ?_
    refine z_lald (kI := 145) (nI9 := 1445) hc tT_145 (by decide) rfl rfl (by decide) dX3_leastSlackOf_44 h (fun g3 h => ?_)
    refine z_minJ hc ml_RX3_61 h ⟨rfl, rfl, Nat.le_of_ble_eq_true rfl, by omega⟩ dX3_leastSlackOf_45 (fun h => ?_)
    refine z_lstore_n (i := 2) [(2, .long (zJ (min v2 (st 145 r1)))), (0, .ref (a 144)), (1, .int (zI v1)), (4, .int (zI v4)), (5, .int (zI v5))] hc dX3_leastSlackOf_48 rfl (by decide) rfl ?_
    refine z_iinc [(5, .int (zI (v5 + 1))), (2, .long (zJ (min v2 (st 145 r1)))), (0, .ref (a 144)), (1, .int (zI v1)), (4, .int (zI v4))] 4 hc dX3_leastSlackOf_49 rfl (by decide) rfl ?_
    refine z_goto (tgt := 22) hc dX3_leastSlackOf_52 (by decide) ?_
    refine z_sub [(0, .ref (a 144)), (1, .int (zI v1)), (2, .long (zJ (min v2 (st 145 r1)))), (4, .int (zI v4)), (5, .int (zI (v5 + 1)))] [2, 3, 1, 4, 0] rfl ?_
    exact k1 _ (Option.some.inj h).symm
def J_X3_leastSlackOf_b7 (v1 v2 v4 : Int) (st : z_St) : Option ((Int × Int) ⊕ Int) :=
  z_g (z32 v4 ∧ z32 (st 144 4)) (if v4 < st 144 4 then
    z_b (z_iter z_F (fun q9 : (Int × Int) => J_X3_leastSlackOf_b22 v1 v4 q9.1 q9.2 st) (v2, v4 + 1)) fun lx4 =>
      some (.inl (lx4, v4 + 1))
  else
    some (.inr v2))
set_option maxRecDepth 100000 in
set_option maxHeartbeats 4000000 in
theorem w_X3_leastSlackOf_b7 {κ : zK} {a : Nat → Nat} {v1 v2 v4 : Int} {st : z_St} {mc9 ms9 : Nat} {o : (Int × Int) ⊕ Int} (hc : z_C κ RX3 cX3_leastSlackOf 6 9 mc9 ms9) (hap : z_AP κ a z_N) (k1 : ∀ s9 : (Int × Int), o = .inl s9 → z_V κ z_T z_N a 0 0 7 [(0, .ref (a 144)), (1, .int (zI v1)), (2, .long (zJ s9.1)), (4, .int (zI s9.2))] [] st) (k2 : ∀ x9 : Int, o = .inr x9 → z_V κ z_T z_N a 0 0 61 [(2, .long (zJ x9))] [] st) (h : J_X3_leastSlackOf_b7 v1 v2 v4 st = some o) : z_V κ z_T z_N a 0 0 7 [(0, .ref (a 144)), (1, .int (zI v1)), (2, .long (zJ v2)), (4, .int (zI v4))] [] st := by
  unfold J_X3_leastSlackOf_b7 at h
  refine z_iload 3 hc dX3_leastSlackOf_7 rfl ?_
  refine z_aload_n (i := 0) 0 hc dX3_leastSlackOf_9 rfl rfl ?_
  refine z_getI (kI := 144) (jI := 4) hc fl_RX3_25 tT_144 (by decide) rfl rfl rfl dX3_leastSlackOf_10 ?_
  refine z_icmp_ge (tgt := 61) hc dX3_leastSlackOf_13 (by decide) h (fun c13 h => ?_) (fun c13 h => ?_)
  · refine z_iload 3 hc dX3_leastSlackOf_16 rfl ?_
    refine z_iconst hc dX3_leastSlackOf_18 ?_
    refine z_iadd hc dX3_leastSlackOf_19 ?_
    refine z_istore [(5, .int (zI (v4 + 1))), (0, .ref (a 144)), (1, .int (zI v1)), (2, .long (zJ v2)), (4, .int (zI v4))] hc dX3_leastSlackOf_20 (by decide) rfl ?_
    obtain ⟨lx4, hlx4, h⟩ := z_b_some h
    refine z_sub [(0, .ref (a 144)), (1, .int (zI v1)), (2, .long (zJ v2)), (4, .int (zI v4)), (5, .int (zI (v4 + 1)))] [1, 2, 3, 4, 0] rfl ?_
    refine z_loop (fun q9 : (Int × Int) => J_X3_leastSlackOf_b22 v1 v4 q9.1 q9.2 st) (fun q9 : (Int × Int) => z_V κ z_T z_N a 0 0 22 [(0, .ref (a 144)), (1, .int (zI v1)), (2, .long (zJ q9.1)), (4, .int (zI v4)), (5, .int (zI q9.2))] [] st) (fun x9 : Int => z_V κ z_T z_N a 0 0 55 [(0, .ref (a 144)), (1, .int (zI v1)), (2, .long (zJ x9)), (4, .int (zI v4))] [] st) (fun q9 o9 hb k1 k2 => ?_) _ _ _ hlx4 ?_
    · exact w_X3_leastSlackOf_b22 hc hap k1 k2 hb
    · show z_V κ z_T z_N a 0 0 55 [(0, .ref (a 144)), (1, .int (zI v1)), (2, .long (zJ lx4)), (4, .int (zI v4))] [] st
      refine z_iinc [(4, .int (zI (v4 + 1))), (0, .ref (a 144)), (1, .int (zI v1)), (2, .long (zJ lx4))] 3 hc dX3_leastSlackOf_55 rfl (by decide) rfl ?_
      refine z_goto (tgt := 7) hc dX3_leastSlackOf_58 (by decide) ?_
      refine z_sub [(0, .ref (a 144)), (1, .int (zI v1)), (2, .long (zJ lx4)), (4, .int (zI (v4 + 1)))] [1, 2, 3, 0] rfl ?_
      exact k1 _ (Option.some.inj h).symm
  · refine z_sub [(2, .long (zJ v2))] [2] rfl ?_
    exact k2 v2 (Option.some.inj h).symm
def J_X3_leastSlackOf (x1 : Int) (st : z_St) : Option (Int) :=
  z_b (z_iter z_F (fun q9 : (Int × Int) => J_X3_leastSlackOf_b7 x1 q9.1 q9.2 st) (1152921504606846976, 0)) fun lx5 =>
    some lx5
set_option maxRecDepth 100000 in
set_option maxHeartbeats 4000000 in
theorem w_X3_leastSlackOf {κ : zK} {a : Nat → Nat} {x1 : Int} {st : z_St} {o : Int} (hc : z_C κ RX3 cX3_leastSlackOf 6 9 0 0) (hap : z_AP κ a z_N) (he : z_E 1 κ (some .long) z_T z_N a o st) (h : J_X3_leastSlackOf x1 st = some o) : z_V κ z_T z_N a 0 0 0 [(0, .ref (a 144)), (1, .int (zI x1))] [] st := by
  unfold J_X3_leastSlackOf at h
  refine z_ldc2 1152921504606846976 hc kc_RX3_55 dX3_leastSlackOf_0 rfl ?_
  refine z_lstore_n (i := 2) [(2, .long (zJ 1152921504606846976)), (0, .ref (a 144)), (1, .int (zI x1))] hc dX3_leastSlackOf_3 rfl (by decide) rfl ?_
  refine z_iconst hc dX3_leastSlackOf_4 ?_
  refine z_istore [(4, .int (zI 0)), (2, .long (zJ 1152921504606846976)), (0, .ref (a 144)), (1, .int (zI x1))] hc dX3_leastSlackOf_5 (by decide) rfl ?_
  obtain ⟨lx5, hlx5, h⟩ := z_b_some h
  refine z_sub [(0, .ref (a 144)), (1, .int (zI x1)), (2, .long (zJ 1152921504606846976)), (4, .int (zI 0))] [2, 3, 1, 0] rfl ?_
  refine z_loop (fun q9 : (Int × Int) => J_X3_leastSlackOf_b7 x1 q9.1 q9.2 st) (fun q9 : (Int × Int) => z_V κ z_T z_N a 0 0 7 [(0, .ref (a 144)), (1, .int (zI x1)), (2, .long (zJ q9.1)), (4, .int (zI q9.2))] [] st) (fun x9 : Int => z_V κ z_T z_N a 0 0 61 [(2, .long (zJ x9))] [] st) (fun q9 o9 hb k1 k2 => ?_) _ _ _ hlx5 ?_
  · exact w_X3_leastSlackOf_b7 hc hap k1 k2 hb
  · show z_V κ z_T z_N a 0 0 61 [(2, .long (zJ lx5))] [] st
    refine z_lload_n (i := 2) 0 hc dX3_leastSlackOf_61 rfl rfl ?_
    have h := Option.some.inj h
    subst h
    exact z_retJ hc he dX3_leastSlackOf_62
set_option maxRecDepth 100000 in
set_option maxHeartbeats 4000000 in
theorem c_X3_leastSlackOf {l : Launch} (hl : l.stackTraces = false) {a : Nat → Nat} {x1 : Int} {st : z_St} {o : Int} (h : J_X3_leastSlackOf x1 st = some o) : z_M 1 l yX3_leastSlackOf cX3_leastSlackOf 6 (some .long) 9 z_T z_N a [.ref (a 144), .int (zI x1)] st o st := z_of hl (by decide +kernel) (Nat.le_of_ble_eq_true rfl) (fun κ hc hap he => w_X3_leastSlackOf hc hap he h)
theorem dX3_countAround_0 : decode cX3_countAround 0 = .ok (.iconst 0, 1) := by decide +kernel
theorem dX3_countAround_1 : decode cX3_countAround 1 = .ok (.istore 5, 2) := by decide +kernel
theorem dX3_countAround_3 : decode cX3_countAround 3 = .ok (.iconst 0, 1) := by decide +kernel
theorem dX3_countAround_4 : decode cX3_countAround 4 = .ok (.istore 6, 2) := by decide +kernel
theorem dX3_countAround_6 : decode cX3_countAround 6 = .ok (.iload 6, 2) := by decide +kernel
theorem dX3_countAround_8 : decode cX3_countAround 8 = .ok (.iload_n 3, 1) := by decide +kernel
theorem dX3_countAround_9 : decode cX3_countAround 9 = .ok (.if_icmp .gt 96, 3) := by decide +kernel
theorem dX3_countAround_12 : decode cX3_countAround 12 = .ok (.iload_n 3, 1) := by decide +kernel
theorem dX3_countAround_13 : decode cX3_countAround 13 = .ok (.iconst 1, 1) := by decide +kernel
theorem dX3_countAround_14 : decode cX3_countAround 14 = .ok (.iadd, 1) := by decide +kernel
theorem dX3_countAround_15 : decode cX3_countAround 15 = .ok (.istore 7, 2) := by decide +kernel
theorem dX3_countAround_17 : decode cX3_countAround 17 = .ok (.iload 7, 2) := by decide +kernel
theorem dX3_countAround_19 : decode cX3_countAround 19 = .ok (.aload_n 0, 1) := by decide +kernel
theorem dX3_countAround_20 : decode cX3_countAround 20 = .ok (.getfield 25, 3) := by decide +kernel
theorem dX3_countAround_23 : decode cX3_countAround 23 = .ok (.if_icmp .gt 76, 3) := by decide +kernel
theorem dX3_countAround_26 : decode cX3_countAround 26 = .ok (.iconst 0, 1) := by decide +kernel
theorem dX3_countAround_27 : decode cX3_countAround 27 = .ok (.istore 8, 2) := by decide +kernel
theorem dX3_countAround_29 : decode cX3_countAround 29 = .ok (.iload 8, 2) := by decide +kernel
theorem dX3_countAround_31 : decode cX3_countAround 31 = .ok (.aload_n 0, 1) := by decide +kernel
theorem dX3_countAround_32 : decode cX3_countAround 32 = .ok (.getfield 21, 3) := by decide +kernel
theorem dX3_countAround_35 : decode cX3_countAround 35 = .ok (.if_icmp .ge 58, 3) := by decide +kernel
theorem dX3_countAround_38 : decode cX3_countAround 38 = .ok (.iload 4, 2) := by decide +kernel
theorem dX3_countAround_40 : decode cX3_countAround 40 = .ok (.iconst (-1), 1) := by decide +kernel
theorem dX3_countAround_41 : decode cX3_countAround 41 = .ok (.if_icmp .eq 10, 3) := by decide +kernel
theorem dX3_countAround_44 : decode cX3_countAround 44 = .ok (.iload 4, 2) := by decide +kernel
theorem dX3_countAround_46 : decode cX3_countAround 46 = .ok (.iload 8, 2) := by decide +kernel
theorem dX3_countAround_48 : decode cX3_countAround 48 = .ok (.if_icmp .ne 7, 3) := by decide +kernel
theorem dX3_countAround_51 : decode cX3_countAround 51 = .ok (.iconst 1, 1) := by decide +kernel
theorem dX3_countAround_52 : decode cX3_countAround 52 = .ok (.goto 4, 3) := by decide +kernel
theorem dX3_countAround_55 : decode cX3_countAround 55 = .ok (.iconst 0, 1) := by decide +kernel
theorem dX3_countAround_56 : decode cX3_countAround 56 = .ok (.istore 9, 2) := by decide +kernel
theorem dX3_countAround_58 : decode cX3_countAround 58 = .ok (.iload 5, 2) := by decide +kernel
theorem dX3_countAround_60 : decode cX3_countAround 60 = .ok (.iload 9, 2) := by decide +kernel
theorem dX3_countAround_62 : decode cX3_countAround 62 = .ok (.ifCond .eq 21, 3) := by decide +kernel
theorem dX3_countAround_65 : decode cX3_countAround 65 = .ok (.aload_n 0, 1) := by decide +kernel
theorem dX3_countAround_66 : decode cX3_countAround 66 = .ok (.lload_n 1, 1) := by decide +kernel
theorem dX3_countAround_67 : decode cX3_countAround 67 = .ok (.iload 8, 2) := by decide +kernel
theorem dX3_countAround_69 : decode cX3_countAround 69 = .ok (.iload 6, 2) := by decide +kernel
theorem dX3_countAround_71 : decode cX3_countAround 71 = .ok (.iload 7, 2) := by decide +kernel
theorem dX3_countAround_73 : decode cX3_countAround 73 = .ok (.invokevirtual 67, 3) := by decide +kernel
theorem dX3_countAround_76 : decode cX3_countAround 76 = .ok (.ifCond .eq 7, 3) := by decide +kernel
theorem dX3_countAround_79 : decode cX3_countAround 79 = .ok (.iconst 1, 1) := by decide +kernel
theorem dX3_countAround_80 : decode cX3_countAround 80 = .ok (.goto 4, 3) := by decide +kernel
theorem dX3_countAround_83 : decode cX3_countAround 83 = .ok (.iconst 0, 1) := by decide +kernel
theorem dX3_countAround_84 : decode cX3_countAround 84 = .ok (.iadd, 1) := by decide +kernel
theorem dX3_countAround_85 : decode cX3_countAround 85 = .ok (.istore 5, 2) := by decide +kernel
theorem dX3_countAround_87 : decode cX3_countAround 87 = .ok (.iinc 8 1, 3) := by decide +kernel
theorem dX3_countAround_90 : decode cX3_countAround 90 = .ok (.goto (-61), 3) := by decide +kernel
theorem dX3_countAround_93 : decode cX3_countAround 93 = .ok (.iinc 7 1, 3) := by decide +kernel
theorem dX3_countAround_96 : decode cX3_countAround 96 = .ok (.goto (-79), 3) := by decide +kernel
theorem dX3_countAround_99 : decode cX3_countAround 99 = .ok (.iinc 6 1, 3) := by decide +kernel
theorem dX3_countAround_102 : decode cX3_countAround 102 = .ok (.goto (-96), 3) := by decide +kernel
theorem dX3_countAround_105 : decode cX3_countAround 105 = .ok (.iload 5, 2) := by decide +kernel
theorem dX3_countAround_107 : decode cX3_countAround 107 = .ok (.ireturn, 1) := by decide +kernel
def J_X3_countAround_84 (v1 v3 v4 v6 v7 v8 s0 s1 : Int) (st : z_St) : Option ((Int × Int) ⊕ Int) :=
  some (.inl (s1 + s0, v8 + 1))
set_option maxRecDepth 100000 in
set_option maxHeartbeats 4000000 in
theorem w_X3_countAround_84 {κ : zK} {a : Nat → Nat} {v1 v3 v4 v6 v7 v8 s0 s1 : Int} {st : z_St} {mc9 ms9 : Nat} {o : (Int × Int) ⊕ Int} (hc : z_C κ RX3 cX3_countAround 10 10 mc9 ms9) (hap : z_AP κ a z_N) (k1 : ∀ s9 : (Int × Int), o = .inl s9 → z_V κ z_T z_N a 0 0 29 [(0, .ref (a 144)), (1, .long (zJ v1)), (3, .int (zI v3)), (4, .int (zI v4)), (5, .int (zI s9.1)), (6, .int (zI v6)), (7, .int (zI v7)), (8, .int (zI s9.2))] [] st) (k2 : ∀ x9 : Int, o = .inr x9 → z_V κ z_T z_N a 0 0 93 [(0, .ref (a 144)), (1, .long (zJ v1)), (3, .int (zI v3)), (4, .int (zI v4)), (5, .int (zI x9)), (6, .int (zI v6)), (7, .int (zI v7))] [] st) (h : J_X3_countAround_84 v1 v3 v4 v6 v7 v8 s0 s1 st = some o) : z_V κ z_T z_N a 0 0 84 [(0, .ref (a 144)), (1, .long (zJ v1)), (3, .int (zI v3)), (4, .int (zI v4)), (6, .int (zI v6)), (7, .int (zI v7)), (8, .int (zI v8))] [.int (zI s0), .int (zI s1)] st := by
  unfold J_X3_countAround_84 at h
  refine z_iadd hc dX3_countAround_84 ?_
  refine z_istore [(5, .int (zI (s1 + s0))), (0, .ref (a 144)), (1, .long (zJ v1)), (3, .int (zI v3)), (4, .int (zI v4)), (6, .int (zI v6)), (7, .int (zI v7)), (8, .int (zI v8))] hc dX3_countAround_85 (by decide) rfl ?_
  refine z_iinc [(8, .int (zI (v8 + 1))), (5, .int (zI (s1 + s0))), (0, .ref (a 144)), (1, .long (zJ v1)), (3, .int (zI v3)), (4, .int (zI v4)), (6, .int (zI v6)), (7, .int (zI v7))] 7 hc dX3_countAround_87 rfl (by decide) rfl ?_
  refine z_goto (tgt := 29) hc dX3_countAround_90 (by decide) ?_
  refine z_sub [(0, .ref (a 144)), (1, .long (zJ v1)), (3, .int (zI v3)), (4, .int (zI v4)), (5, .int (zI (s1 + s0))), (6, .int (zI v6)), (7, .int (zI v7)), (8, .int (zI (v8 + 1)))] [2, 3, 4, 5, 1, 6, 7, 0] rfl ?_
  exact k1 _ (Option.some.inj h).symm
def J_X3_countAround_83 (v1 v3 v4 v6 v7 v8 s0 : Int) (st : z_St) : Option ((Int × Int) ⊕ Int) :=
  J_X3_countAround_84 v1 v3 v4 v6 v7 v8 0 s0 st
set_option maxRecDepth 100000 in
set_option maxHeartbeats 4000000 in
theorem w_X3_countAround_83 {κ : zK} {a : Nat → Nat} {v1 v3 v4 v6 v7 v8 s0 : Int} {st : z_St} {mc9 ms9 : Nat} {o : (Int × Int) ⊕ Int} (hc : z_C κ RX3 cX3_countAround 10 10 mc9 ms9) (hap : z_AP κ a z_N) (k1 : ∀ s9 : (Int × Int), o = .inl s9 → z_V κ z_T z_N a 0 0 29 [(0, .ref (a 144)), (1, .long (zJ v1)), (3, .int (zI v3)), (4, .int (zI v4)), (5, .int (zI s9.1)), (6, .int (zI v6)), (7, .int (zI v7)), (8, .int (zI s9.2))] [] st) (k2 : ∀ x9 : Int, o = .inr x9 → z_V κ z_T z_N a 0 0 93 [(0, .ref (a 144)), (1, .long (zJ v1)), (3, .int (zI v3)), (4, .int (zI v4)), (5, .int (zI x9)), (6, .int (zI v6)), (7, .int (zI v7))] [] st) (h : J_X3_countAround_83 v1 v3 v4 v6 v7 v8 s0 st = some o) : z_V κ z_T z_N a 0 0 83 [(0, .ref (a 144)), (1, .long (zJ v1)), (3, .int (zI v3)), (4, .int (zI v4)), (6, .int (zI v6)), (7, .int (zI v7)), (8, .int (zI v8))] [.int (zI s0)] st := by
  unfold J_X3_countAround_83 at h
  refine z_iconst hc dX3_countAround_83 ?_
  refine z_sub [(0, .ref (a 144)), (1, .long (zJ v1)), (3, .int (zI v3)), (4, .int (zI v4)), (6, .int (zI v6)), (7, .int (zI v7)), (8, .int (zI v8))] [0, 1, 2, 3, 4, 5, 6] rfl ?_
  exact w_X3_countAround_84 hc hap k1 k2 h
def J_X3_countAround_56 (v1 v3 v4 v5 v6 v7 v8 s0 : Int) (st : z_St) : Option ((Int × Int) ⊕ Int) :=
  z_g (z32 s0) (if s0 = 0 then
    J_X3_countAround_83 v1 v3 v4 v6 v7 v8 v5 st
  else
    z_b (J_X3_isWithin v1 v8 v6 v7 st) fun r1 =>
    z_g (z32 r1) (if r1 = 0 then
      J_X3_countAround_83 v1 v3 v4 v6 v7 v8 v5 st
    else
      J_X3_countAround_84 v1 v3 v4 v6 v7 v8 1 v5 st))
set_option maxRecDepth 100000 in
set_option maxHeartbeats 4000000 in
theorem w_X3_countAround_56 {κ : zK} {a : Nat → Nat} {v1 v3 v4 v5 v6 v7 v8 s0 : Int} {st : z_St} {mc9 ms9 : Nat} {o : (Int × Int) ⊕ Int} (hc : z_C κ RX3 cX3_countAround 10 10 mc9 ms9) (hap : z_AP κ a z_N) (k1 : ∀ s9 : (Int × Int), o = .inl s9 → z_V κ z_T z_N a 0 0 29 [(0, .ref (a 144)), (1, .long (zJ v1)), (3, .int (zI v3)), (4, .int (zI v4)), (5, .int (zI s9.1)), (6, .int (zI v6)), (7, .int (zI v7)), (8, .int (zI s9.2))] [] st) (k2 : ∀ x9 : Int, o = .inr x9 → z_V κ z_T z_N a 0 0 93 [(0, .ref (a 144)), (1, .long (zJ v1)), (3, .int (zI v3)), (4, .int (zI v4)), (5, .int (zI x9)), (6, .int (zI v6)), (7, .int (zI v7))] [] st) (h : J_X3_countAround_56 v1 v3 v4 v5 v6 v7 v8 s0 st = some o) : z_V κ z_T z_N a 0 0 56 [(0, .ref (a 144)), (1, .long (zJ v1)), (3, .int (zI v3)), (4, .int (zI v4)), (5, .int (zI v5)), (6, .int (zI v6)), (7, .int (zI v7)), (8, .int (zI v8))] [.int (zI s0)] st := by
  unfold J_X3_countAround_56 at h
  refine z_istore [(9, .int (zI s0)), (0, .ref (a 144)), (1, .long (zJ v1)), (3, .int (zI v3)), (4, .int (zI v4)), (5, .int (zI v5)), (6, .int (zI v6)), (7, .int (zI v7)), (8, .int (zI v8))] hc dX3_countAround_56 (by decide) rfl ?_
  refine z_iload 5 hc dX3_countAround_58 rfl ?_
  refine z_iload 0 hc dX3_countAround_60 rfl ?_
  refine z_if_eq (tgt := 83) hc dX3_countAround_62 (by decide) h (fun c62 h => ?_) (fun c62 h => ?_)
  · refine z_sub [(0, .ref (a 144)), (1, .long (zJ v1)), (3, .int (zI v3)), (4, .int (zI v4)), (6, .int (zI v6)), (7, .int (zI v7)), (8, .int (zI v8))] [1, 2, 3, 4, 6, 7, 8] rfl ?_
    exact w_X3_countAround_83 hc hap k1 k2 h
  · refine z_aload_n (i := 0) 1 hc dX3_countAround_65 rfl rfl ?_
    refine z_lload_n (i := 1) 2 hc dX3_countAround_66 rfl rfl ?_
    refine z_iload 8 hc dX3_countAround_67 rfl ?_
    refine z_iload 6 hc dX3_countAround_69 rfl ?_
    refine z_iload 7 hc dX3_countAround_71 rfl ?_
    obtain ⟨r1, hr1, h⟩ := z_b_some h
    refine z_callVI [.long (zJ v1), .int (zI v8), .int (zI v6), .int (zI v7)] hc hap o_X3_isWithin ml_RX3_67 (fun l hl => c_X3_isWithin hl  hr1) (by decide) tT_144 (by decide) ⟨_, rfl, rfl⟩ rfl rfl (Nat.le_of_ble_eq_true rfl) (Nat.zero_le _) (Nat.zero_le _) dX3_countAround_73 ?_
    refine z_if_eq (tgt := 83) hc dX3_countAround_76 (by decide) h (fun c76 h => ?_) (fun c76 h => ?_)
    · refine z_sub [(0, .ref (a 144)), (1, .long (zJ v1)), (3, .int (zI v3)), (4, .int (zI v4)), (6, .int (zI v6)), (7, .int (zI v7)), (8, .int (zI v8))] [1, 2, 3, 4, 6, 7, 8] rfl ?_
      exact w_X3_countAround_83 hc hap k1 k2 h
    · refine z_iconst hc dX3_countAround_79 ?_
      refine z_goto (tgt := 84) hc dX3_countAround_80 (by decide) ?_
      refine z_sub [(0, .ref (a 144)), (1, .long (zJ v1)), (3, .int (zI v3)), (4, .int (zI v4)), (6, .int (zI v6)), (7, .int (zI v7)), (8, .int (zI v8))] [1, 2, 3, 4, 6, 7, 8] rfl ?_
      exact w_X3_countAround_84 hc hap k1 k2 h
def J_X3_countAround_51 (v1 v3 v4 v5 v6 v7 v8 : Int) (st : z_St) : Option ((Int × Int) ⊕ Int) :=
  J_X3_countAround_56 v1 v3 v4 v5 v6 v7 v8 1 st
set_option maxRecDepth 100000 in
set_option maxHeartbeats 4000000 in
theorem w_X3_countAround_51 {κ : zK} {a : Nat → Nat} {v1 v3 v4 v5 v6 v7 v8 : Int} {st : z_St} {mc9 ms9 : Nat} {o : (Int × Int) ⊕ Int} (hc : z_C κ RX3 cX3_countAround 10 10 mc9 ms9) (hap : z_AP κ a z_N) (k1 : ∀ s9 : (Int × Int), o = .inl s9 → z_V κ z_T z_N a 0 0 29 [(0, .ref (a 144)), (1, .long (zJ v1)), (3, .int (zI v3)), (4, .int (zI v4)), (5, .int (zI s9.1)), (6, .int (zI v6)), (7, .int (zI v7)), (8, .int (zI s9.2))] [] st) (k2 : ∀ x9 : Int, o = .inr x9 → z_V κ z_T z_N a 0 0 93 [(0, .ref (a 144)), (1, .long (zJ v1)), (3, .int (zI v3)), (4, .int (zI v4)), (5, .int (zI x9)), (6, .int (zI v6)), (7, .int (zI v7))] [] st) (h : J_X3_countAround_51 v1 v3 v4 v5 v6 v7 v8 st = some o) : z_V κ z_T z_N a 0 0 51 [(0, .ref (a 144)), (1, .long (zJ v1)), (3, .int (zI v3)), (4, .int (zI v4)), (5, .int (zI v5)), (6, .int (zI v6)), (7, .int (zI v7)), (8, .int (zI v8))] [] st := by
  unfold J_X3_countAround_51 at h
  refine z_iconst hc dX3_countAround_51 ?_
  refine z_goto (tgt := 56) hc dX3_countAround_52 (by decide) ?_
  refine z_sub [(0, .ref (a 144)), (1, .long (zJ v1)), (3, .int (zI v3)), (4, .int (zI v4)), (5, .int (zI v5)), (6, .int (zI v6)), (7, .int (zI v7)), (8, .int (zI v8))] [0, 1, 2, 3, 4, 5, 6, 7] rfl ?_
  exact w_X3_countAround_56 hc hap k1 k2 h
def J_X3_countAround_b29 (v1 v3 v4 v6 v7 v5 v8 : Int) (st : z_St) : Option ((Int × Int) ⊕ Int) :=
  z_g (z32 v8 ∧ z32 (st 144 3)) (if v8 < st 144 3 then
    z_g (z32 v4 ∧ z32 (-1)) (if v4 = (-1) then
      J_X3_countAround_51 v1 v3 v4 v5 v6 v7 v8 st
    else
      z_g (z32 v4 ∧ z32 v8) (if v4 = v8 then
        J_X3_countAround_51 v1 v3 v4 v5 v6 v7 v8 st
      else
        J_X3_countAround_56 v1 v3 v4 v5 v6 v7 v8 0 st))
  else
    some (.inr v5))
set_option maxRecDepth 100000 in
set_option maxHeartbeats 4000000 in
theorem w_X3_countAround_b29 {κ : zK} {a : Nat → Nat} {v1 v3 v4 v5 v6 v7 v8 : Int} {st : z_St} {mc9 ms9 : Nat} {o : (Int × Int) ⊕ Int} (hc : z_C κ RX3 cX3_countAround 10 10 mc9 ms9) (hap : z_AP κ a z_N) (k1 : ∀ s9 : (Int × Int), o = .inl s9 → z_V κ z_T z_N a 0 0 29 [(0, .ref (a 144)), (1, .long (zJ v1)), (3, .int (zI v3)), (4, .int (zI v4)), (5, .int (zI s9.1)), (6, .int (zI v6)), (7, .int (zI v7)), (8, .int (zI s9.2))] [] st) (k2 : ∀ x9 : Int, o = .inr x9 → z_V κ z_T z_N a 0 0 93 [(0, .ref (a 144)), (1, .long (zJ v1)), (3, .int (zI v3)), (4, .int (zI v4)), (5, .int (zI x9)), (6, .int (zI v6)), (7, .int (zI v7))] [] st) (h : J_X3_countAround_b29 v1 v3 v4 v6 v7 v5 v8 st = some o) : z_V κ z_T z_N a 0 0 29 [(0, .ref (a 144)), (1, .long (zJ v1)), (3, .int (zI v3)), (4, .int (zI v4)), (5, .int (zI v5)), (6, .int (zI v6)), (7, .int (zI v7)), (8, .int (zI v8))] [] st := by
  unfold J_X3_countAround_b29 at h
  refine z_iload 7 hc dX3_countAround_29 rfl ?_
  refine z_aload_n (i := 0) 0 hc dX3_countAround_31 rfl rfl ?_
  refine z_getI (kI := 144) (jI := 3) hc fl_RX3_21 tT_144 (by decide) rfl rfl rfl dX3_countAround_32 ?_
  refine z_icmp_ge (tgt := 93) hc dX3_countAround_35 (by decide) h (fun c35 h => ?_) (fun c35 h => ?_)
  · refine z_iload 3 hc dX3_countAround_38 rfl ?_
    refine z_iconst hc dX3_countAround_40 ?_
    refine z_icmp_eq (tgt := 51) hc dX3_countAround_41 (by decide) h (fun c41 h => ?_) (fun c41 h => ?_)
    · refine z_sub [(0, .ref (a 144)), (1, .long (zJ v1)), (3, .int (zI v3)), (4, .int (zI v4)), (5, .int (zI v5)), (6, .int (zI v6)), (7, .int (zI v7)), (8, .int (zI v8))] [0, 1, 2, 3, 4, 5, 6, 7] rfl ?_
      exact w_X3_countAround_51 hc hap k1 k2 h
    · refine z_iload 3 hc dX3_countAround_44 rfl ?_
      refine z_iload 7 hc dX3_countAround_46 rfl ?_
      refine z_icmp_ne (tgt := 55) hc dX3_countAround_48 (by decide) h (fun c48 h => ?_) (fun c48 h => ?_)
      · refine z_sub [(0, .ref (a 144)), (1, .long (zJ v1)), (3, .int (zI v3)), (4, .int (zI v4)), (5, .int (zI v5)), (6, .int (zI v6)), (7, .int (zI v7)), (8, .int (zI v8))] [0, 1, 2, 3, 4, 5, 6, 7] rfl ?_
        exact w_X3_countAround_51 hc hap k1 k2 h
      · refine z_iconst hc dX3_countAround_55 ?_
        refine z_sub [(0, .ref (a 144)), (1, .long (zJ v1)), (3, .int (zI v3)), (4, .int (zI v4)), (5, .int (zI v5)), (6, .int (zI v6)), (7, .int (zI v7)), (8, .int (zI v8))] [0, 1, 2, 3, 4, 5, 6, 7] rfl ?_
        exact w_X3_countAround_56 hc hap k1 k2 h
  · refine z_sub [(0, .ref (a 144)), (1, .long (zJ v1)), (3, .int (zI v3)), (4, .int (zI v4)), (5, .int (zI v5)), (6, .int (zI v6)), (7, .int (zI v7))] [0, 1, 2, 3, 4, 5, 6] rfl ?_
    exact k2 v5 (Option.some.inj h).symm
def J_X3_countAround_b17 (v1 v3 v4 v6 v5 v7 : Int) (st : z_St) : Option ((Int × Int) ⊕ Int) :=
  z_g (z32 v7 ∧ z32 (st 144 4)) (if st 144 4 < v7 then
    some (.inr v5)
  else
    z_b (z_iter z_F (fun q9 : (Int × Int) => J_X3_countAround_b29 v1 v3 v4 v6 v7 q9.1 q9.2 st) (v5, 0)) fun lx3 =>
      some (.inl (lx3, v7 + 1)))
set_option maxRecDepth 100000 in
set_option maxHeartbeats 4000000 in
theorem w_X3_countAround_b17 {κ : zK} {a : Nat → Nat} {v1 v3 v4 v5 v6 v7 : Int} {st : z_St} {mc9 ms9 : Nat} {o : (Int × Int) ⊕ Int} (hc : z_C κ RX3 cX3_countAround 10 10 mc9 ms9) (hap : z_AP κ a z_N) (k1 : ∀ s9 : (Int × Int), o = .inl s9 → z_V κ z_T z_N a 0 0 17 [(0, .ref (a 144)), (1, .long (zJ v1)), (3, .int (zI v3)), (4, .int (zI v4)), (5, .int (zI s9.1)), (6, .int (zI v6)), (7, .int (zI s9.2))] [] st) (k2 : ∀ x9 : Int, o = .inr x9 → z_V κ z_T z_N a 0 0 99 [(0, .ref (a 144)), (1, .long (zJ v1)), (3, .int (zI v3)), (4, .int (zI v4)), (5, .int (zI x9)), (6, .int (zI v6))] [] st) (h : J_X3_countAround_b17 v1 v3 v4 v6 v5 v7 st = some o) : z_V κ z_T z_N a 0 0 17 [(0, .ref (a 144)), (1, .long (zJ v1)), (3, .int (zI v3)), (4, .int (zI v4)), (5, .int (zI v5)), (6, .int (zI v6)), (7, .int (zI v7))] [] st := by
  unfold J_X3_countAround_b17 at h
  refine z_iload 6 hc dX3_countAround_17 rfl ?_
  refine z_aload_n (i := 0) 0 hc dX3_countAround_19 rfl rfl ?_
  refine z_getI (kI := 144) (jI := 4) hc fl_RX3_25 tT_144 (by decide) rfl rfl rfl dX3_countAround_20 ?_
  refine z_icmp_gt (tgt := 99) hc dX3_countAround_23 (by decide) h (fun c23 h => ?_) (fun c23 h => ?_)
  · refine z_sub [(0, .ref (a 144)), (1, .long (zJ v1)), (3, .int (zI v3)), (4, .int (zI v4)), (5, .int (zI v5)), (6, .int (zI v6))] [0, 1, 2, 3, 4, 5] rfl ?_
    exact k2 v5 (Option.some.inj h).symm
  · refine z_iconst hc dX3_countAround_26 ?_
    refine z_istore [(8, .int (zI 0)), (0, .ref (a 144)), (1, .long (zJ v1)), (3, .int (zI v3)), (4, .int (zI v4)), (5, .int (zI v5)), (6, .int (zI v6)), (7, .int (zI v7))] hc dX3_countAround_27 (by decide) rfl ?_
    obtain ⟨lx3, hlx3, h⟩ := z_b_some h
    refine z_sub [(0, .ref (a 144)), (1, .long (zJ v1)), (3, .int (zI v3)), (4, .int (zI v4)), (5, .int (zI v5)), (6, .int (zI v6)), (7, .int (zI v7)), (8, .int (zI 0))] [1, 2, 3, 4, 5, 6, 7, 0] rfl ?_
    refine z_loop (fun q9 : (Int × Int) => J_X3_countAround_b29 v1 v3 v4 v6 v7 q9.1 q9.2 st) (fun q9 : (Int × Int) => z_V κ z_T z_N a 0 0 29 [(0, .ref (a 144)), (1, .long (zJ v1)), (3, .int (zI v3)), (4, .int (zI v4)), (5, .int (zI q9.1)), (6, .int (zI v6)), (7, .int (zI v7)), (8, .int (zI q9.2))] [] st) (fun x9 : Int => z_V κ z_T z_N a 0 0 93 [(0, .ref (a 144)), (1, .long (zJ v1)), (3, .int (zI v3)), (4, .int (zI v4)), (5, .int (zI x9)), (6, .int (zI v6)), (7, .int (zI v7))] [] st) (fun q9 o9 hb k1 k2 => ?_) _ _ _ hlx3 ?_
    · exact w_X3_countAround_b29 hc hap k1 k2 hb
    · show z_V κ z_T z_N a 0 0 93 [(0, .ref (a 144)), (1, .long (zJ v1)), (3, .int (zI v3)), (4, .int (zI v4)), (5, .int (zI lx3)), (6, .int (zI v6)), (7, .int (zI v7))] [] st
      refine z_iinc [(7, .int (zI (v7 + 1))), (0, .ref (a 144)), (1, .long (zJ v1)), (3, .int (zI v3)), (4, .int (zI v4)), (5, .int (zI lx3)), (6, .int (zI v6))] 6 hc dX3_countAround_93 rfl (by decide) rfl ?_
      refine z_goto (tgt := 17) hc dX3_countAround_96 (by decide) ?_
      refine z_sub [(0, .ref (a 144)), (1, .long (zJ v1)), (3, .int (zI v3)), (4, .int (zI v4)), (5, .int (zI lx3)), (6, .int (zI v6)), (7, .int (zI (v7 + 1)))] [1, 2, 3, 4, 5, 6, 0] rfl ?_
      exact k1 _ (Option.some.inj h).symm
def J_X3_countAround_b6 (v1 v3 v4 v5 v6 : Int) (st : z_St) : Option ((Int × Int) ⊕ Int) :=
  z_g (z32 v6 ∧ z32 v3) (if v3 < v6 then
    some (.inr v5)
  else
    z_b (z_iter z_F (fun q9 : (Int × Int) => J_X3_countAround_b17 v1 v3 v4 v6 q9.1 q9.2 st) (v5, v3 + 1)) fun lx4 =>
      some (.inl (lx4, v6 + 1)))
set_option maxRecDepth 100000 in
set_option maxHeartbeats 4000000 in
theorem w_X3_countAround_b6 {κ : zK} {a : Nat → Nat} {v1 v3 v4 v5 v6 : Int} {st : z_St} {mc9 ms9 : Nat} {o : (Int × Int) ⊕ Int} (hc : z_C κ RX3 cX3_countAround 10 10 mc9 ms9) (hap : z_AP κ a z_N) (k1 : ∀ s9 : (Int × Int), o = .inl s9 → z_V κ z_T z_N a 0 0 6 [(0, .ref (a 144)), (1, .long (zJ v1)), (3, .int (zI v3)), (4, .int (zI v4)), (5, .int (zI s9.1)), (6, .int (zI s9.2))] [] st) (k2 : ∀ x9 : Int, o = .inr x9 → z_V κ z_T z_N a 0 0 105 [(5, .int (zI x9))] [] st) (h : J_X3_countAround_b6 v1 v3 v4 v5 v6 st = some o) : z_V κ z_T z_N a 0 0 6 [(0, .ref (a 144)), (1, .long (zJ v1)), (3, .int (zI v3)), (4, .int (zI v4)), (5, .int (zI v5)), (6, .int (zI v6))] [] st := by
  unfold J_X3_countAround_b6 at h
  refine z_iload 5 hc dX3_countAround_6 rfl ?_
  refine z_iload_n (i := 3) 2 hc dX3_countAround_8 rfl rfl ?_
  refine z_icmp_gt (tgt := 105) hc dX3_countAround_9 (by decide) h (fun c9 h => ?_) (fun c9 h => ?_)
  · refine z_sub [(5, .int (zI v5))] [4] rfl ?_
    exact k2 v5 (Option.some.inj h).symm
  · refine z_iload_n (i := 3) 2 hc dX3_countAround_12 rfl rfl ?_
    refine z_iconst hc dX3_countAround_13 ?_
    refine z_iadd hc dX3_countAround_14 ?_
    refine z_istore [(7, .int (zI (v3 + 1))), (0, .ref (a 144)), (1, .long (zJ v1)), (3, .int (zI v3)), (4, .int (zI v4)), (5, .int (zI v5)), (6, .int (zI v6))] hc dX3_countAround_15 (by decide) rfl ?_
    obtain ⟨lx4, hlx4, h⟩ := z_b_some h
    refine z_sub [(0, .ref (a 144)), (1, .long (zJ v1)), (3, .int (zI v3)), (4, .int (zI v4)), (5, .int (zI v5)), (6, .int (zI v6)), (7, .int (zI (v3 + 1)))] [1, 2, 3, 4, 5, 6, 0] rfl ?_
    refine z_loop (fun q9 : (Int × Int) => J_X3_countAround_b17 v1 v3 v4 v6 q9.1 q9.2 st) (fun q9 : (Int × Int) => z_V κ z_T z_N a 0 0 17 [(0, .ref (a 144)), (1, .long (zJ v1)), (3, .int (zI v3)), (4, .int (zI v4)), (5, .int (zI q9.1)), (6, .int (zI v6)), (7, .int (zI q9.2))] [] st) (fun x9 : Int => z_V κ z_T z_N a 0 0 99 [(0, .ref (a 144)), (1, .long (zJ v1)), (3, .int (zI v3)), (4, .int (zI v4)), (5, .int (zI x9)), (6, .int (zI v6))] [] st) (fun q9 o9 hb k1 k2 => ?_) _ _ _ hlx4 ?_
    · exact w_X3_countAround_b17 hc hap k1 k2 hb
    · show z_V κ z_T z_N a 0 0 99 [(0, .ref (a 144)), (1, .long (zJ v1)), (3, .int (zI v3)), (4, .int (zI v4)), (5, .int (zI lx4)), (6, .int (zI v6))] [] st
      refine z_iinc [(6, .int (zI (v6 + 1))), (0, .ref (a 144)), (1, .long (zJ v1)), (3, .int (zI v3)), (4, .int (zI v4)), (5, .int (zI lx4))] 5 hc dX3_countAround_99 rfl (by decide) rfl ?_
      refine z_goto (tgt := 6) hc dX3_countAround_102 (by decide) ?_
      refine z_sub [(0, .ref (a 144)), (1, .long (zJ v1)), (3, .int (zI v3)), (4, .int (zI v4)), (5, .int (zI lx4)), (6, .int (zI (v6 + 1)))] [1, 2, 3, 4, 5, 0] rfl ?_
      exact k1 _ (Option.some.inj h).symm
def J_X3_countAround (x1 x3 x4 : Int) (st : z_St) : Option (Int) :=
  z_b (z_iter z_F (fun q9 : (Int × Int) => J_X3_countAround_b6 x1 x3 x4 q9.1 q9.2 st) (0, 0)) fun lx5 =>
    some lx5
set_option maxRecDepth 100000 in
set_option maxHeartbeats 4000000 in
theorem w_X3_countAround {κ : zK} {a : Nat → Nat} {x1 x3 x4 : Int} {st : z_St} {o : Int} (hc : z_C κ RX3 cX3_countAround 10 10 0 0) (hap : z_AP κ a z_N) (he : z_E 0 κ (some .int) z_T z_N a o st) (h : J_X3_countAround x1 x3 x4 st = some o) : z_V κ z_T z_N a 0 0 0 [(0, .ref (a 144)), (1, .long (zJ x1)), (3, .int (zI x3)), (4, .int (zI x4))] [] st := by
  unfold J_X3_countAround at h
  refine z_iconst hc dX3_countAround_0 ?_
  refine z_istore [(5, .int (zI 0)), (0, .ref (a 144)), (1, .long (zJ x1)), (3, .int (zI x3)), (4, .int (zI x4))] hc dX3_countAround_1 (by decide) rfl ?_
  refine z_iconst hc dX3_countAround_3 ?_
  refine z_istore [(6, .int (zI 0)), (5, .int (zI 0)), (0, .ref (a 144)), (1, .long (zJ x1)), (3, .int (zI x3)), (4, .int (zI x4))] hc dX3_countAround_4 (by decide) rfl ?_
  obtain ⟨lx5, hlx5, h⟩ := z_b_some h
  refine z_sub [(0, .ref (a 144)), (1, .long (zJ x1)), (3, .int (zI x3)), (4, .int (zI x4)), (5, .int (zI 0)), (6, .int (zI 0))] [2, 3, 4, 5, 1, 0] rfl ?_
  refine z_loop (fun q9 : (Int × Int) => J_X3_countAround_b6 x1 x3 x4 q9.1 q9.2 st) (fun q9 : (Int × Int) => z_V κ z_T z_N a 0 0 6 [(0, .ref (a 144)), (1, .long (zJ x1)), (3, .int (zI x3)), (4, .int (zI x4)), (5, .int (zI q9.1)), (6, .int (zI q9.2))] [] st) (fun x9 : Int => z_V κ z_T z_N a 0 0 105 [(5, .int (zI x9))] [] st) (fun q9 o9 hb k1 k2 => ?_) _ _ _ hlx5 ?_
  · exact w_X3_countAround_b6 hc hap k1 k2 hb
  · show z_V κ z_T z_N a 0 0 105 [(5, .int (zI lx5))] [] st
    refine z_iload 0 hc dX3_countAround_105 rfl ?_
    have h := Option.some.inj h
    subst h
    exact z_retI hc he dX3_countAround_107
set_option maxRecDepth 100000 in
set_option maxHeartbeats 4000000 in
theorem c_X3_countAround {l : Launch} (hl : l.stackTraces = false) {a : Nat → Nat} {x1 x3 x4 : Int} {st : z_St} {o : Int} (h : J_X3_countAround x1 x3 x4 st = some o) : z_M 0 l yX3_countAround cX3_countAround 10 (some .int) 10 z_T z_N a [.ref (a 144), .long (zJ x1), .int (zI x3), .int (zI x4)] st o st := z_of hl (by decide +kernel) (Nat.le_of_ble_eq_true rfl) (fun κ hc hap he => w_X3_countAround hc hap he h)
theorem dX4_textCanBeSaid_0 : decode cX4_textCanBeSaid 0 = .ok (.iconst 0, 1) := by decide +kernel
theorem dX4_textCanBeSaid_1 : decode cX4_textCanBeSaid 1 = .ok (.istore_n 1, 1) := by decide +kernel
theorem dX4_textCanBeSaid_2 : decode cX4_textCanBeSaid 2 = .ok (.iload_n 1, 1) := by decide +kernel
theorem dX4_textCanBeSaid_3 : decode cX4_textCanBeSaid 3 = .ok (.aload_n 0, 1) := by decide +kernel
theorem dX4_textCanBeSaid_4 : decode cX4_textCanBeSaid 4 = .ok (.getfield 37, 3) := by decide +kernel
theorem dX4_textCanBeSaid_7 : decode cX4_textCanBeSaid 7 = .ok (.if_icmp .ge 24, 3) := by decide +kernel
theorem dX4_textCanBeSaid_10 : decode cX4_textCanBeSaid 10 = .ok (.aload_n 0, 1) := by decide +kernel
theorem dX4_textCanBeSaid_11 : decode cX4_textCanBeSaid 11 = .ok (.getfield 34, 3) := by decide +kernel
theorem dX4_textCanBeSaid_14 : decode cX4_textCanBeSaid 14 = .ok (.iload_n 1, 1) := by decide +kernel
theorem dX4_textCanBeSaid_15 : decode cX4_textCanBeSaid 15 = .ok (.iaload, 1) := by decide +kernel
theorem dX4_textCanBeSaid_16 : decode cX4_textCanBeSaid 16 = .ok (.aload_n 0, 1) := by decide +kernel
theorem dX4_textCanBeSaid_17 : decode cX4_textCanBeSaid 17 = .ok (.getfield 17, 3) := by decide +kernel
theorem dX4_textCanBeSaid_20 : decode cX4_textCanBeSaid 20 = .ok (.if_icmp .lt 5, 3) := by decide +kernel
theorem dX4_textCanBeSaid_23 : decode cX4_textCanBeSaid 23 = .ok (.iconst 0, 1) := by decide +kernel
theorem dX4_textCanBeSaid_24 : decode cX4_textCanBeSaid 24 = .ok (.ireturn, 1) := by decide +kernel
theorem dX4_textCanBeSaid_25 : decode cX4_textCanBeSaid 25 = .ok (.iinc 1 1, 3) := by decide +kernel
theorem dX4_textCanBeSaid_28 : decode cX4_textCanBeSaid 28 = .ok (.goto (-26), 3) := by decide +kernel
theorem dX4_textCanBeSaid_31 : decode cX4_textCanBeSaid 31 = .ok (.aload_n 0, 1) := by decide +kernel
theorem dX4_textCanBeSaid_32 : decode cX4_textCanBeSaid 32 = .ok (.getfield 37, 3) := by decide +kernel
theorem dX4_textCanBeSaid_35 : decode cX4_textCanBeSaid 35 = .ok (.ifCond .le 7, 3) := by decide +kernel
theorem dX4_textCanBeSaid_38 : decode cX4_textCanBeSaid 38 = .ok (.iconst 1, 1) := by decide +kernel
theorem dX4_textCanBeSaid_39 : decode cX4_textCanBeSaid 39 = .ok (.goto 4, 3) := by decide +kernel
theorem dX4_textCanBeSaid_42 : decode cX4_textCanBeSaid 42 = .ok (.iconst 0, 1) := by decide +kernel
theorem dX4_textCanBeSaid_43 : decode cX4_textCanBeSaid 43 = .ok (.ireturn, 1) := by decide +kernel
def J_X4_textCanBeSaid_b2 (v1 : Int) (st : z_St) : Option (Int ⊕ (Unit ⊕ Unit)) :=
  z_g (z32 v1 ∧ z32 (st 24 6)) (if v1 < st 24 6 then
    z_g (0 ≤ v1 ∧ v1 < 4) <|
    z_g (z32 (st 28 v1) ∧ z32 (st 24 1)) (if st 28 v1 < st 24 1 then
      some (.inl (v1 + 1))
    else
      some (.inr (.inr ())))
  else
    some (.inr (.inl ())))
set_option maxRecDepth 100000 in
set_option maxHeartbeats 4000000 in
theorem w_X4_textCanBeSaid_b2 {κ : zK} {a : Nat → Nat} {v1 : Int} {st : z_St} {mc9 ms9 : Nat} {o : Int ⊕ (Unit ⊕ Unit)} (hc : z_C κ RX4 cX4_textCanBeSaid 2 8 mc9 ms9) (hap : z_AP κ a z_N) (k1 : ∀ s9 : Int, o = .inl s9 → z_V κ z_T z_N a 0 0 2 [(0, .ref (a 24)), (1, .int (zI s9))] [] st) (k2 : ∀ x9 : (Unit ⊕ Unit), o = .inr x9 → (match x9 with | .inl y9 => z_V κ z_T z_N a 0 0 31 [(0, .ref (a 24))] [] st | .inr y9 => z_V κ z_T z_N a 0 0 23 [] [] st)) (h : J_X4_textCanBeSaid_b2 v1 st = some o) : z_V κ z_T z_N a 0 0 2 [(0, .ref (a 24)), (1, .int (zI v1))] [] st := by
  unfold J_X4_textCanBeSaid_b2 at h
  refine z_iload_n (i := 1) 1 hc dX4_textCanBeSaid_2 rfl rfl ?_
  refine z_aload_n (i := 0) 0 hc dX4_textCanBeSaid_3 rfl rfl ?_
  refine z_getI (kI := 24) (jI := 6) hc fl_RX4_37 tT_24 (by decide) rfl rfl rfl dX4_textCanBeSaid_4 ?_
  refine z_icmp_ge (tgt := 31) hc dX4_textCanBeSaid_7 (by decide) h (fun c7 h => ?_) (fun c7 h => ?_)
  · refine z_aload_n (i := 0) 0 hc dX4_textCanBeSaid_10 rfl rfl ?_
    refine z_getA (k' := 28) hc fl_RX4_34 tT_24 (by decide) rfl rfl dX4_textCanBeSaid_11 ?_
    refine z_iload_n (i := 1) 1 hc dX4_textCanBeSaid_14 rfl rfl ?_
    refine z_iald (kI := 28) (nI9 := 4) hc tT_28 (by decide) rfl rfl (by decide) dX4_textCanBeSaid_15 h (fun g1 h => ?_)
    refine z_aload_n (i := 0) 0 hc dX4_textCanBeSaid_16 rfl rfl ?_
    refine z_getI (kI := 24) (jI := 1) hc fl_RX4_17 tT_24 (by decide) rfl rfl rfl dX4_textCanBeSaid_17 ?_
    refine z_icmp_lt (tgt := 25) hc dX4_textCanBeSaid_20 (by decide) h (fun c20 h => ?_) (fun c20 h => ?_)
    · refine z_iinc [(1, .int (zI (v1 + 1))), (0, .ref (a 24))] 1 hc dX4_textCanBeSaid_25 rfl (by decide) rfl ?_
      refine z_goto (tgt := 2) hc dX4_textCanBeSaid_28 (by decide) ?_
      refine z_sub [(0, .ref (a 24)), (1, .int (zI (v1 + 1)))] [1, 0] rfl ?_
      exact k1 _ (Option.some.inj h).symm
    · refine z_sub [] [] rfl ?_
      exact k2 (.inr ()) (Option.some.inj h).symm
  · refine z_sub [(0, .ref (a 24))] [0] rfl ?_
    exact k2 (.inl ()) (Option.some.inj h).symm
def J_X4_textCanBeSaid_43 (s0 : Int) (st : z_St) : Option (Int) :=
  z_g (s0 = 0 ∨ s0 = 1) <|
  some s0
set_option maxRecDepth 100000 in
set_option maxHeartbeats 4000000 in
theorem w_X4_textCanBeSaid_43 {κ : zK} {a : Nat → Nat} {s0 : Int} {st : z_St} {o : Int} (hc : z_C κ RX4 cX4_textCanBeSaid 2 8 0 0) (hap : z_AP κ a z_N) (he : z_E 0 κ (some .boolean) z_T z_N a o st) (h : J_X4_textCanBeSaid_43 s0 st = some o) : z_V κ z_T z_N a 0 0 43 [] [.int (zI s0)] st := by
  unfold J_X4_textCanBeSaid_43 at h
  obtain ⟨hz, h⟩ := z_g_some h
  have h := Option.some.inj h
  subst h
  exact z_retZ hc he hz dX4_textCanBeSaid_43
def J_X4_textCanBeSaid (st : z_St) : Option (Int) :=
  z_b (z_iter z_F (fun q9 : Int => J_X4_textCanBeSaid_b2 q9 st) 0) fun lx2 => match lx2 with
  | .inl y3 =>
    z_g (z32 (st 24 6)) (if 0 < st 24 6 then
      J_X4_textCanBeSaid_43 1 st
    else
      J_X4_textCanBeSaid_43 0 st)
  | .inr y4 =>
    some 0
set_option maxRecDepth 100000 in
set_option maxHeartbeats 4000000 in
theorem w_X4_textCanBeSaid {κ : zK} {a : Nat → Nat} {st : z_St} {o : Int} (hc : z_C κ RX4 cX4_textCanBeSaid 2 8 0 0) (hap : z_AP κ a z_N) (he : z_E 0 κ (some .boolean) z_T z_N a o st) (h : J_X4_textCanBeSaid st = some o) : z_V κ z_T z_N a 0 0 0 [(0, .ref (a 24))] [] st := by
  unfold J_X4_textCanBeSaid at h
  refine z_iconst hc dX4_textCanBeSaid_0 ?_
  refine z_istore_n (i := 1) [(1, .int (zI 0)), (0, .ref (a 24))] hc dX4_textCanBeSaid_1 rfl (by decide) rfl ?_
  obtain ⟨lx2, hlx2, h⟩ := z_b_some h
  refine z_sub [(0, .ref (a 24)), (1, .int (zI 0))] [1, 0] rfl ?_
  refine z_loop (fun q9 : Int => J_X4_textCanBeSaid_b2 q9 st) (fun q9 : Int => z_V κ z_T z_N a 0 0 2 [(0, .ref (a 24)), (1, .int (zI q9))] [] st) (fun x9 : (Unit ⊕ Unit) => (match x9 with | .inl y9 => z_V κ z_T z_N a 0 0 31 [(0, .ref (a 24))] [] st | .inr y9 => z_V κ z_T z_N a 0 0 23 [] [] st)) (fun q9 o9 hb k1 k2 => ?_) _ _ _ hlx2 ?_
  · exact w_X4_textCanBeSaid_b2 hc hap k1 k2 hb
  · rcases lx2 with y3 | y4
    · show z_V κ z_T z_N a 0 0 31 [(0, .ref (a 24))] [] st
      dsimp only at h
      refine z_aload_n (i := 0) 0 hc dX4_textCanBeSaid_31 rfl rfl ?_
      refine z_getI (kI := 24) (jI := 6) hc fl_RX4_37 tT_24 (by decide) rfl rfl rfl dX4_textCanBeSaid_32 ?_
      refine z_if_le (tgt := 42) hc dX4_textCanBeSaid_35 (by decide) h (fun c35 h => ?_) (fun c35 h => ?_)
      · refine z_iconst hc dX4_textCanBeSaid_38 ?_
        refine z_goto (tgt := 43) hc dX4_textCanBeSaid_39 (by decide) ?_
        refine z_sub [] [] rfl ?_
        exact w_X4_textCanBeSaid_43 hc hap he h
      · refine z_iconst hc dX4_textCanBeSaid_42 ?_
        refine z_sub [] [] rfl ?_
        exact w_X4_textCanBeSaid_43 hc hap he h
    · show z_V κ z_T z_N a 0 0 23 [] [] st
      dsimp only at h
      refine z_iconst hc dX4_textCanBeSaid_23 ?_
      have h := Option.some.inj h
      subst h
      exact z_retZ hc he (by decide) dX4_textCanBeSaid_24
set_option maxRecDepth 100000 in
set_option maxHeartbeats 4000000 in
theorem c_X4_textCanBeSaid {l : Launch} (hl : l.stackTraces = false) {a : Nat → Nat} {st : z_St} {o : Int} (h : J_X4_textCanBeSaid st = some o) : z_M 0 l yX4_textCanBeSaid cX4_textCanBeSaid 2 (some .boolean) 8 z_T z_N a [.ref (a 24)] st o st := z_of hl (by decide +kernel) (Nat.le_of_ble_eq_true rfl) (fun κ hc hap he => w_X4_textCanBeSaid hc hap he h)
theorem dX4_addSaying_0 : decode cX4_addSaying 0 = .ok (.aload_n 0, 1) := by decide +kernel
theorem dX4_addSaying_1 : decode cX4_addSaying 1 = .ok (.iload_n 1, 1) := by decide +kernel
theorem dX4_addSaying_2 : decode cX4_addSaying 2 = .ok (.aload_n 0, 1) := by decide +kernel
theorem dX4_addSaying_3 : decode cX4_addSaying 3 = .ok (.getfield 27, 3) := by decide +kernel
theorem dX4_addSaying_6 : decode cX4_addSaying 6 = .ok (.iload_n 1, 1) := by decide +kernel
theorem dX4_addSaying_7 : decode cX4_addSaying 7 = .ok (.iaload, 1) := by decide +kernel
theorem dX4_addSaying_8 : decode cX4_addSaying 8 = .ok (.invokevirtual 42, 3) := by decide +kernel
theorem dX4_addSaying_11 : decode cX4_addSaying 11 = .ok (.astore_n 3, 1) := by decide +kernel
theorem dX4_addSaying_12 : decode cX4_addSaying 12 = .ok (.aload_n 0, 1) := by decide +kernel
theorem dX4_addSaying_13 : decode cX4_addSaying 13 = .ok (.getfield 34, 3) := by decide +kernel
theorem dX4_addSaying_16 : decode cX4_addSaying 16 = .ok (.iconst 0, 1) := by decide +kernel
theorem dX4_addSaying_17 : decode cX4_addSaying 17 = .ok (.aload_n 3, 1) := by decide +kernel
theorem dX4_addSaying_18 : decode cX4_addSaying 18 = .ok (.getfield 46, 3) := by decide +kernel
theorem dX4_addSaying_21 : decode cX4_addSaying 21 = .ok (.iconst 0, 1) := by decide +kernel
theorem dX4_addSaying_22 : decode cX4_addSaying 22 = .ok (.aload_n 0, 1) := by decide +kernel
theorem dX4_addSaying_23 : decode cX4_addSaying 23 = .ok (.getfield 37, 3) := by decide +kernel
theorem dX4_addSaying_26 : decode cX4_addSaying 26 = .ok (.invokestatic 48, 3) := by decide +kernel
theorem dX4_addSaying_29 : decode cX4_addSaying 29 = .ok (.aload_n 3, 1) := by decide +kernel
theorem dX4_addSaying_30 : decode cX4_addSaying 30 = .ok (.aload_n 0, 1) := by decide +kernel
theorem dX4_addSaying_31 : decode cX4_addSaying 31 = .ok (.getfield 37, 3) := by decide +kernel
theorem dX4_addSaying_34 : decode cX4_addSaying 34 = .ok (.putfield 54, 3) := by decide +kernel
theorem dX4_addSaying_37 : decode cX4_addSaying 37 = .ok (.aload_n 3, 1) := by decide +kernel
theorem dX4_addSaying_38 : decode cX4_addSaying 38 = .ok (.iload_n 2, 1) := by decide +kernel
theorem dX4_addSaying_39 : decode cX4_addSaying 39 = .ok (.putfield 57, 3) := by decide +kernel
theorem dX4_addSaying_42 : decode cX4_addSaying 42 = .ok (.aload_n 0, 1) := by decide +kernel
theorem dX4_addSaying_43 : decode cX4_addSaying 43 = .ok (.getfield 27, 3) := by decide +kernel
theorem dX4_addSaying_46 : decode cX4_addSaying 46 = .ok (.iload_n 1, 1) := by decide +kernel
theorem dX4_addSaying_47 : decode cX4_addSaying 47 = .ok (.dup2, 1) := by decide +kernel
theorem dX4_addSaying_48 : decode cX4_addSaying 48 = .ok (.iaload, 1) := by decide +kernel
theorem dX4_addSaying_49 : decode cX4_addSaying 49 = .ok (.iconst 1, 1) := by decide +kernel
theorem dX4_addSaying_50 : decode cX4_addSaying 50 = .ok (.iadd, 1) := by decide +kernel
theorem dX4_addSaying_51 : decode cX4_addSaying 51 = .ok (.iastore, 1) := by decide +kernel
theorem dX4_addSaying_52 : decode cX4_addSaying 52 = .ok (.aload_n 0, 1) := by decide +kernel
theorem dX4_addSaying_53 : decode cX4_addSaying 53 = .ok (.iconst 0, 1) := by decide +kernel
theorem dX4_addSaying_54 : decode cX4_addSaying 54 = .ok (.putfield 37, 3) := by decide +kernel
theorem dX4_addSaying_57 : decode cX4_addSaying 57 = .ok (.return_, 1) := by decide +kernel
def J_X4_addSaying (x1 x2 : Int) (st : z_St) : Option (z_St) :=
  z_g (0 ≤ x1 ∧ x1 < 5) <|
  z_b (J_X4_sayingOf x1 (st 27 x1) st) fun r2 =>
  z_g (z_isSaying r2) <|
  z_g (0 ≤ st 24 6 ∧ st 24 6 ≤ 4 ∧ st 24 6 ≤ 4) <|
  z_let (z_cpy st 28 (r2 + 1) (st 24 6)) fun st5 =>
  z_let (z_up st5 r2 2 (st5 24 6)) fun st6 =>
  z_let (z_up st6 r2 3 x2) fun st7 =>
  z_g (0 ≤ x1 ∧ x1 < 5) <|
  z_g (0 ≤ x1 ∧ x1 < 5) <|
  z_let (z_up st7 27 x1 ((st7 27 x1) + 1)) fun st9 =>
  z_let (z_up st9 24 6 0) fun st10 =>
  some st10
set_option maxRecDepth 100000 in
set_option maxHeartbeats 4000000 in
theorem w_X4_addSaying {κ : zK} {a : Nat → Nat} {x1 x2 : Int} {st : z_St} {o : z_St} (hc : z_C κ RX4 cX4_addSaying 4 9 0 0) (hap : z_AP κ a z_N) (he : z_E 2 κ none z_T z_N a 0 o) (h : J_X4_addSaying x1 x2 st = some o) : z_V κ z_T z_N a 0 0 0 [(0, .ref (a 24)), (1, .int (zI x1)), (2, .int (zI x2))] [] st := by
  unfold J_X4_addSaying at h
  refine z_aload_n (i := 0) 0 hc dX4_addSaying_0 rfl rfl ?_
  refine z_iload_n (i := 1) 1 hc dX4_addSaying_1 rfl rfl ?_
  refine z_aload_n (i := 0) 0 hc dX4_addSaying_2 rfl rfl ?_
  refine z_getA (k' := 27) hc fl_RX4_27 tT_24 (by decide) rfl rfl dX4_addSaying_3 ?_
  refine z_iload_n (i := 1) 1 hc dX4_addSaying_6 rfl rfl ?_
  refine z_iald (kI := 27) (nI9 := 5) hc tT_27 (by decide) rfl rfl (by decide) dX4_addSaying_7 h (fun g1 h => ?_)
  obtain ⟨r2, hr2, h⟩ := z_b_some h
  refine z_callVA [.int (zI x1), .int (zI (st 27 x1))] hc hap o_X4_sayingOf ml_RX4_42 (fun l hl => c_X4_sayingOf hl  hr2) (by decide) tT_24 (by decide) ⟨_, rfl, rfl⟩ rfl rfl (Nat.le_of_ble_eq_true rfl) (Nat.zero_le _) (Nat.zero_le _) dX4_addSaying_8 ?_
  obtain ⟨g4, h⟩ := z_g_some h
  refine z_astore_n (i := 3) [(3, .ref (a r2.toNat)), (0, .ref (a 24)), (1, .int (zI x1)), (2, .int (zI x2))] hc dX4_addSaying_11 rfl (by decide) rfl ?_
  refine z_aload_n (i := 0) 1 hc dX4_addSaying_12 rfl rfl ?_
  refine z_getA (k' := 28) hc fl_RX4_34 tT_24 (by decide) rfl rfl dX4_addSaying_13 ?_
  refine z_iconst hc dX4_addSaying_16 ?_
  refine z_aload_n (i := 3) 0 hc dX4_addSaying_17 rfl rfl ?_
  refine z_getA (k' := (r2.toNat + 1)) hc fl_RX4_46 (z_Saying_T g4) (z_Saying_lt g4) rfl rfl dX4_addSaying_18 ?_
  refine z_iconst hc dX4_addSaying_21 ?_
  refine z_aload_n (i := 0) 1 hc dX4_addSaying_22 rfl rfl ?_
  refine z_getI (kI := 24) (jI := 6) hc fl_RX4_37 tT_24 (by decide) rfl rfl rfl dX4_addSaying_23 ?_
  refine z_copyI (kI := 28) (k1I := (r2 + 1)) hc hap ml_RX4_48 tT_28 (by decide) rfl (z_Saying_T1 g4) (z_Saying_lt1 g4) (z_Saying_c1 g4) rfl rfl (by decide) (by decide) ⟨Nat.le_of_ble_eq_true rfl, by decide⟩ dX4_addSaying_26 h (fun st5 h => ?_)
  refine z_aload_n (i := 3) 0 hc dX4_addSaying_29 rfl rfl ?_
  refine z_aload_n (i := 0) 1 hc dX4_addSaying_30 rfl rfl ?_
  refine z_getI (kI := 24) (jI := 6) hc fl_RX4_37 tT_24 (by decide) rfl rfl rfl dX4_addSaying_31 ?_
  refine z_putI (kI := r2) (jI := 2) hc hap fp_RX4_54 (z_Saying_T g4) (z_Saying_lt g4) (z_Saying_c g4) rfl rfl dX4_addSaying_34 h (fun st6 h => ?_)
  refine z_aload_n (i := 3) 0 hc dX4_addSaying_37 rfl rfl ?_
  refine z_iload_n (i := 2) 3 hc dX4_addSaying_38 rfl rfl ?_
  refine z_putI (kI := r2) (jI := 3) hc hap fp_RX4_57 (z_Saying_T g4) (z_Saying_lt g4) (z_Saying_c g4) rfl rfl dX4_addSaying_39 h (fun st7 h => ?_)
  refine z_aload_n (i := 0) 1 hc dX4_addSaying_42 rfl rfl ?_
  refine z_getA (k' := 27) hc fl_RX4_27 tT_24 (by decide) rfl rfl dX4_addSaying_43 ?_
  refine z_iload_n (i := 1) 2 hc dX4_addSaying_46 rfl rfl ?_
  refine z_dup2 hc dX4_addSaying_47 rfl rfl ?_
  refine z_iald (kI := 27) (nI9 := 5) hc tT_27 (by decide) rfl rfl (by decide) dX4_addSaying_48 h (fun g8 h => ?_)
  refine z_iconst hc dX4_addSaying_49 ?_
  refine z_iadd hc dX4_addSaying_50 ?_
  refine z_iast (kI := 27) (nI9 := 5) hc hap tT_27 (by decide) rfl rfl (by decide) dX4_addSaying_51 h (fun st9 h => ?_)
  refine z_aload_n (i := 0) 1 hc dX4_addSaying_52 rfl rfl ?_
  refine z_iconst hc dX4_addSaying_53 ?_
  refine z_putI (kI := 24) (jI := 6) hc hap fp_RX4_37 tT_24 (by decide) rfl rfl rfl dX4_addSaying_54 h (fun st10 h => ?_)
  have h := Option.some.inj h
  subst h
  exact z_retV hc he dX4_addSaying_57
set_option maxRecDepth 100000 in
set_option maxHeartbeats 4000000 in
theorem c_X4_addSaying {l : Launch} (hl : l.stackTraces = false) {a : Nat → Nat} {x1 x2 : Int} {st : z_St} {o : z_St} (h : J_X4_addSaying x1 x2 st = some o) : z_M 2 l yX4_addSaying cX4_addSaying 4 none 9 z_T z_N a [.ref (a 24), .int (zI x1), .int (zI x2)] st 0 o := z_of hl (by decide +kernel) (Nat.le_of_ble_eq_true rfl) (fun κ hc hap he => w_X4_addSaying hc hap he h)
theorem dX5_arrive_0 : decode cX5_arrive 0 = .ok (.ldc2_w 56, 3) := by decide +kernel
theorem dX5_arrive_3 : decode cX5_arrive 3 = .ok (.lstore 5, 2) := by decide +kernel
theorem dX5_arrive_5 : decode cX5_arrive 5 = .ok (.iload_n 1, 1) := by decide +kernel
theorem dX5_arrive_6 : decode cX5_arrive 6 = .ok (.iconst (-1), 1) := by decide +kernel
theorem dX5_arrive_7 : decode cX5_arrive 7 = .ok (.if_icmp .ne 16, 3) := by decide +kernel
theorem dX5_arrive_10 : decode cX5_arrive 10 = .ok (.aload 4, 2) := by decide +kernel
theorem dX5_arrive_12 : decode cX5_arrive 12 = .ok (.iload_n 2, 1) := by decide +kernel
theorem dX5_arrive_13 : decode cX5_arrive 13 = .ok (.iconst 0, 1) := by decide +kernel
theorem dX5_arrive_14 : decode cX5_arrive 14 = .ok (.iload_n 3, 1) := by decide +kernel
theorem dX5_arrive_15 : decode cX5_arrive 15 = .ok (.invokevirtual 64, 3) := by decide +kernel
theorem dX5_arrive_18 : decode cX5_arrive 18 = .ok (.lstore 5, 2) := by decide +kernel
theorem dX5_arrive_20 : decode cX5_arrive 20 = .ok (.goto 47, 3) := by decide +kernel
theorem dX5_arrive_23 : decode cX5_arrive 23 = .ok (.iconst 1, 1) := by decide +kernel
theorem dX5_arrive_24 : decode cX5_arrive 24 = .ok (.istore 7, 2) := by decide +kernel
theorem dX5_arrive_26 : decode cX5_arrive 26 = .ok (.iload 7, 2) := by decide +kernel
theorem dX5_arrive_28 : decode cX5_arrive 28 = .ok (.iload_n 3, 1) := by decide +kernel
theorem dX5_arrive_29 : decode cX5_arrive 29 = .ok (.if_icmp .ge 38, 3) := by decide +kernel
theorem dX5_arrive_32 : decode cX5_arrive 32 = .ok (.lload 5, 2) := by decide +kernel
theorem dX5_arrive_34 : decode cX5_arrive 34 = .ok (.aload_n 0, 1) := by decide +kernel
theorem dX5_arrive_35 : decode cX5_arrive 35 = .ok (.getfield 19, 3) := by decide +kernel
theorem dX5_arrive_38 : decode cX5_arrive 38 = .ok (.iload_n 1, 1) := by decide +kernel
theorem dX5_arrive_39 : decode cX5_arrive 39 = .ok (.bipush 17, 2) := by decide +kernel
theorem dX5_arrive_41 : decode cX5_arrive 41 = .ok (.imul, 1) := by decide +kernel
theorem dX5_arrive_42 : decode cX5_arrive 42 = .ok (.iload 7, 2) := by decide +kernel
theorem dX5_arrive_44 : decode cX5_arrive 44 = .ok (.iadd, 1) := by decide +kernel
theorem dX5_arrive_45 : decode cX5_arrive 45 = .ok (.laload, 1) := by decide +kernel
theorem dX5_arrive_46 : decode cX5_arrive 46 = .ok (.aload 4, 2) := by decide +kernel
theorem dX5_arrive_48 : decode cX5_arrive 48 = .ok (.iload_n 2, 1) := by decide +kernel
theorem dX5_arrive_49 : decode cX5_arrive 49 = .ok (.iload 7, 2) := by decide +kernel
theorem dX5_arrive_51 : decode cX5_arrive 51 = .ok (.iload_n 3, 1) := by decide +kernel
theorem dX5_arrive_52 : decode cX5_arrive 52 = .ok (.invokevirtual 64, 3) := by decide +kernel
theorem dX5_arrive_55 : decode cX5_arrive 55 = .ok (.ladd, 1) := by decide +kernel
theorem dX5_arrive_56 : decode cX5_arrive 56 = .ok (.invokestatic 68, 3) := by decide +kernel
theorem dX5_arrive_59 : decode cX5_arrive 59 = .ok (.lstore 5, 2) := by decide +kernel
theorem dX5_arrive_61 : decode cX5_arrive 61 = .ok (.iinc 7 1, 3) := by decide +kernel
theorem dX5_arrive_64 : decode cX5_arrive 64 = .ok (.goto (-38), 3) := by decide +kernel
theorem dX5_arrive_67 : decode cX5_arrive 67 = .ok (.iload_n 1, 1) := by decide +kernel
theorem dX5_arrive_68 : decode cX5_arrive 68 = .ok (.iconst (-1), 1) := by decide +kernel
theorem dX5_arrive_69 : decode cX5_arrive 69 = .ok (.if_icmp .ne 7, 3) := by decide +kernel
theorem dX5_arrive_72 : decode cX5_arrive 72 = .ok (.iconst (-1), 1) := by decide +kernel
theorem dX5_arrive_73 : decode cX5_arrive 73 = .ok (.goto 14, 3) := by decide +kernel
theorem dX5_arrive_76 : decode cX5_arrive 76 = .ok (.aload_n 0, 1) := by decide +kernel
theorem dX5_arrive_77 : decode cX5_arrive 77 = .ok (.getfield 9, 3) := by decide +kernel
theorem dX5_arrive_80 : decode cX5_arrive 80 = .ok (.iload_n 1, 1) := by decide +kernel
theorem dX5_arrive_81 : decode cX5_arrive 81 = .ok (.iaload, 1) := by decide +kernel
theorem dX5_arrive_82 : decode cX5_arrive 82 = .ok (.bipush 10, 2) := by decide +kernel
theorem dX5_arrive_84 : decode cX5_arrive 84 = .ok (.irem, 1) := by decide +kernel
theorem dX5_arrive_85 : decode cX5_arrive 85 = .ok (.iconst 1, 1) := by decide +kernel
theorem dX5_arrive_86 : decode cX5_arrive 86 = .ok (.isub, 1) := by decide +kernel
theorem dX5_arrive_87 : decode cX5_arrive 87 = .ok (.istore 7, 2) := by decide +kernel
theorem dX5_arrive_89 : decode cX5_arrive 89 = .ok (.lload 5, 2) := by decide +kernel
theorem dX5_arrive_91 : decode cX5_arrive 91 = .ok (.ldc2_w 56, 3) := by decide +kernel
theorem dX5_arrive_94 : decode cX5_arrive 94 = .ok (.lcmp, 1) := by decide +kernel
theorem dX5_arrive_95 : decode cX5_arrive 95 = .ok (.ifCond .lt 9, 3) := by decide +kernel
theorem dX5_arrive_98 : decode cX5_arrive 98 = .ok (.ldc2_w 56, 3) := by decide +kernel
theorem dX5_arrive_101 : decode cX5_arrive 101 = .ok (.goto 14, 3) := by decide +kernel
theorem dX5_arrive_104 : decode cX5_arrive 104 = .ok (.lload 5, 2) := by decide +kernel
theorem dX5_arrive_106 : decode cX5_arrive 106 = .ok (.aload 4, 2) := by decide +kernel
theorem dX5_arrive_108 : decode cX5_arrive 108 = .ok (.iload 7, 2) := by decide +kernel
theorem dX5_arrive_110 : decode cX5_arrive 110 = .ok (.iload_n 2, 1) := by decide +kernel
theorem dX5_arrive_111 : decode cX5_arrive 111 = .ok (.invokevirtual 58, 3) := by decide +kernel
theorem dX5_arrive_114 : decode cX5_arrive 114 = .ok (.ladd, 1) := by decide +kernel
theorem dX5_arrive_115 : decode cX5_arrive 115 = .ok (.lreturn, 1) := by decide +kernel
def J_X5_arrive_115 (s0 : Int) (st : z_St) : Option (Int) :=
  some s0
set_option maxRecDepth 100000 in
set_option maxHeartbeats 4000000 in
theorem w_X5_arrive_115 {κ : zK} {a : Nat → Nat} {s0 : Int} {st : z_St} {o : Int} (hc : z_C κ RX5 cX5_arrive 8 9 0 0) (hap : z_AP κ a z_N) (he : z_E 1 κ (some .long) z_T z_N a o st) (h : J_X5_arrive_115 s0 st = some o) : z_V κ z_T z_N a 0 0 115 [] [.long (zJ s0)] st := by
  unfold J_X5_arrive_115 at h
  have h := Option.some.inj h
  subst h
  exact z_retJ hc he dX5_arrive_115
def J_X5_arrive_87 (v2 v5 s0 : Int) (st : z_St) : Option (Int) :=
  z_g (z64 v5 ∧ z64 1152921504606846976) (if v5 < 1152921504606846976 then
    z_b (J_X0_toll s0 v2 st) fun r3 =>
    J_X5_arrive_115 (v5 + r3) st
  else
    J_X5_arrive_115 1152921504606846976 st)
set_option maxRecDepth 100000 in
set_option maxHeartbeats 4000000 in
theorem w_X5_arrive_87 {κ : zK} {a : Nat → Nat} {v2 v5 s0 : Int} {st : z_St} {o : Int} (hc : z_C κ RX5 cX5_arrive 8 9 0 0) (hap : z_AP κ a z_N) (he : z_E 1 κ (some .long) z_T z_N a o st) (h : J_X5_arrive_87 v2 v5 s0 st = some o) : z_V κ z_T z_N a 0 0 87 [(2, .int (zI v2)), (4, .ref (a 99)), (5, .long (zJ v5))] [.int (zI s0)] st := by
  unfold J_X5_arrive_87 at h
  refine z_istore [(7, .int (zI s0)), (2, .int (zI v2)), (4, .ref (a 99)), (5, .long (zJ v5))] hc dX5_arrive_87 (by decide) rfl ?_
  refine z_lload 3 hc dX5_arrive_89 rfl ?_
  refine z_ldc2 1152921504606846976 hc kc_RX5_56 dX5_arrive_91 rfl ?_
  refine z_lcmp_lt (tgt := 104) hc dX5_arrive_94 dX5_arrive_95 (by decide) h (fun c94 h => ?_) (fun c94 h => ?_)
  · refine z_lload 3 hc dX5_arrive_104 rfl ?_
    refine z_aload 2 hc dX5_arrive_106 rfl ?_
    refine z_iload 0 hc dX5_arrive_108 rfl ?_
    refine z_iload_n (i := 2) 1 hc dX5_arrive_110 rfl rfl ?_
    obtain ⟨r3, hr3, h⟩ := z_b_some h
    refine z_callVJ [.int (zI s0), .int (zI v2)] hc hap o_X0_toll ml_RX5_58 (fun l hl => c_X0_toll hl  hr3) (by decide) tT_99 (by decide) ⟨_, rfl, rfl⟩ rfl rfl (Nat.le_of_ble_eq_true rfl) (Nat.zero_le _) (Nat.zero_le _) dX5_arrive_111 ?_
    refine z_ladd hc dX5_arrive_114 ?_
    refine z_sub [] [] rfl ?_
    exact w_X5_arrive_115 hc hap he h
  · refine z_ldc2 1152921504606846976 hc kc_RX5_56 dX5_arrive_98 rfl ?_
    refine z_goto (tgt := 115) hc dX5_arrive_101 (by decide) ?_
    refine z_sub [] [] rfl ?_
    exact w_X5_arrive_115 hc hap he h
def J_X5_arrive_67 (v1 v2 v5 : Int) (st : z_St) : Option (Int) :=
  z_g (z32 v1 ∧ z32 (-1)) (if v1 = (-1) then
    J_X5_arrive_87 v2 v5 (-1) st
  else
    z_g (0 ≤ v1 ∧ v1 < 780) <|
    z_g (z32 (st 135 v1) ∧ z32 10 ∧ (10 : Int) ≠ 0) <|
    J_X5_arrive_87 v2 v5 (((st 135 v1).tmod 10) - 1) st)
set_option maxRecDepth 100000 in
set_option maxHeartbeats 4000000 in
theorem w_X5_arrive_67 {κ : zK} {a : Nat → Nat} {v1 v2 v5 : Int} {st : z_St} {o : Int} (hc : z_C κ RX5 cX5_arrive 8 9 0 0) (hap : z_AP κ a z_N) (he : z_E 1 κ (some .long) z_T z_N a o st) (h : J_X5_arrive_67 v1 v2 v5 st = some o) : z_V κ z_T z_N a 0 0 67 [(0, .ref (a 134)), (1, .int (zI v1)), (2, .int (zI v2)), (4, .ref (a 99)), (5, .long (zJ v5))] [] st := by
  unfold J_X5_arrive_67 at h
  refine z_iload_n (i := 1) 1 hc dX5_arrive_67 rfl rfl ?_
  refine z_iconst hc dX5_arrive_68 ?_
  refine z_icmp_ne (tgt := 76) hc dX5_arrive_69 (by decide) h (fun c69 h => ?_) (fun c69 h => ?_)
  · refine z_iconst hc dX5_arrive_72 ?_
    refine z_goto (tgt := 87) hc dX5_arrive_73 (by decide) ?_
    refine z_sub [(2, .int (zI v2)), (4, .ref (a 99)), (5, .long (zJ v5))] [2, 3, 4] rfl ?_
    exact w_X5_arrive_87 hc hap he h
  · refine z_aload_n (i := 0) 0 hc dX5_arrive_76 rfl rfl ?_
    refine z_getA (k' := 135) hc fl_RX5_9 tT_134 (by decide) rfl rfl dX5_arrive_77 ?_
    refine z_iload_n (i := 1) 1 hc dX5_arrive_80 rfl rfl ?_
    refine z_iald (kI := 135) (nI9 := 780) hc tT_135 (by decide) rfl rfl (by decide) dX5_arrive_81 h (fun g5 h => ?_)
    refine z_bipush hc dX5_arrive_82 rfl ?_
    refine z_irem hc dX5_arrive_84 h (fun h => ?_)
    refine z_iconst hc dX5_arrive_85 ?_
    refine z_isub hc dX5_arrive_86 ?_
    refine z_sub [(2, .int (zI v2)), (4, .ref (a 99)), (5, .long (zJ v5))] [2, 3, 4] rfl ?_
    exact w_X5_arrive_87 hc hap he h
def J_X5_arrive_b26 (v1 v2 v3 v5 v7 : Int) (st : z_St) : Option ((Int × Int) ⊕ Int) :=
  z_g (z32 v7 ∧ z32 v3) (if v7 < v3 then
    z_g (0 ≤ (v1 * 17) + v7 ∧ (v1 * 17) + v7 < 2635) <|
    z_b (J_X0_span v2 v7 v3 st) fun r7 =>
    z_g (z64 v5 ∧ z64 ((st 137 ((v1 * 17) + v7)) + r7)) <|
    some (.inl (min v5 ((st 137 ((v1 * 17) + v7)) + r7), v7 + 1))
  else
    some (.inr v5))
set_option maxRecDepth 100000 in
set_option maxHeartbeats 4000000 in
theorem w_X5_arrive_b26 {κ : zK} {a : Nat → Nat} {v1 v2 v3 v5 v7 : Int} {st : z_St} {mc9 ms9 : Nat} {o : (Int × Int) ⊕ Int} (hc : z_C κ RX5 cX5_arrive 8 9 mc9 ms9) (hap : z_AP κ a z_N) (k1 : ∀ s9 : (Int × Int), o = .inl s9 → z_V κ z_T z_N a 0 0 26 [(0, .ref (a 134)), (1, .int (zI v1)), (2, .int (zI v2)), (3, .int (zI v3)), (4, .ref (a 99)), (5, .long (zJ s9.1)), (7, .int (zI s9.2))] [] st) (k2 : ∀ x9 : Int, o = .inr x9 → z_V κ z_T z_N a 0 0 67 [(0, .ref (a 134)), (1, .int (zI v1)), (2, .int (zI v2)), (4, .ref (a 99)), (5, .long (zJ x9))] [] st) (h : J_X5_arrive_b26 v1 v2 v3 v5 v7 st = some o) : z_V κ z_T z_N a 0 0 26 [(0, .ref (a 134)), (1, .int (zI v1)), (2, .int (zI v2)), (3, .int (zI v3)), (4, .ref (a 99)), (5, .long (zJ v5)), (7, .int (zI v7))] [] st := by
  unfold J_X5_arrive_b26 at h
  refine z_iload 6 hc dX5_arrive_26 rfl ?_
  refine z_iload_n (i := 3) 3 hc dX5_arrive_28 rfl rfl ?_
  refine z_icmp_ge (tgt := 67) hc dX5_arrive_29 (by decide) h (fun c29 h => ?_) (fun c29 h => ?_)
  · refine z_lload 5 hc dX5_arrive_32 rfl ?_
    refine z_aload_n (i := 0) 0 hc dX5_arrive_34 rfl rfl ?_
    refine z_getA (k' := 137) hc fl_RX5_19 tT_134 (by decide) rfl rfl dX5_arrive_35 ?_
    refine z_iload_n (i := 1) 1 hc dX5_arrive_38 rfl rfl ?_
    refine z_bipush hc dX5_arrive_39 rfl ?_
    refine z_imul hc dX5_arrive_41 ?_
    refine z_iload 6 hc dX5_arrive_42 rfl ?_
    refine z_iadd hc dX5_arrive_44 ?_
    refine z_lald (kI := 137) (nI9 := 2635) hc tT_137 (by decide) rfl rfl (by decide) dX5_arrive_45 h (fun g6 h => ?_)
    refine z_aload 4 hc dX5_arrive_46 rfl ?_
    refine z_iload_n (i := 2) 2 hc dX5_arrive_48 rfl rfl ?_
    refine z_iload 6 hc dX5_arrive_49 rfl ?_
    refine z_iload_n (i := 3) 3 hc dX5_arrive_51 rfl rfl ?_
    obtain ⟨r7, hr7, h⟩ := z_b_some h
    refine z_callVJ [.int (zI v2), .int (zI v7), .int (zI v3)] hc hap o_X0_span ml_RX5_64 (fun l hl => c_X0_span hl  hr7) (by decide) tT_99 (by decide) ⟨_, rfl, rfl⟩ rfl rfl (Nat.le_of_ble_eq_true rfl) (Nat.zero_le _) (Nat.zero_le _) dX5_arrive_52 ?_
    refine z_ladd hc dX5_arrive_55 ?_
    refine z_minJ hc ml_RX5_68 h ⟨rfl, rfl, Nat.le_of_ble_eq_true rfl, by omega⟩ dX5_arrive_56 (fun h => ?_)
    refine z_lstore [(5, .long (zJ (min v5 ((st 137 ((v1 * 17) + v7)) + r7)))), (0, .ref (a 134)), (1, .int (zI v1)), (2, .int (zI v2)), (3, .int (zI v3)), (4, .ref (a 99)), (7, .int (zI v7))] hc dX5_arrive_59 (by decide) rfl ?_
    refine z_iinc [(7, .int (zI (v7 + 1))), (5, .long (zJ (min v5 ((st 137 ((v1 * 17) + v7)) + r7)))), (0, .ref (a 134)), (1, .int (zI v1)), (2, .int (zI v2)), (3, .int (zI v3)), (4, .ref (a 99))] 6 hc dX5_arrive_61 rfl (by decide) rfl ?_
    refine z_goto (tgt := 26) hc dX5_arrive_64 (by decide) ?_
    refine z_sub [(0, .ref (a 134)), (1, .int (zI v1)), (2, .int (zI v2)), (3, .int (zI v3)), (4, .ref (a 99)), (5, .long (zJ (min v5 ((st 137 ((v1 * 17) + v7)) + r7)))), (7, .int (zI (v7 + 1)))] [2, 3, 4, 5, 6, 1, 0] rfl ?_
    exact k1 _ (Option.some.inj h).symm
  · refine z_sub [(0, .ref (a 134)), (1, .int (zI v1)), (2, .int (zI v2)), (4, .ref (a 99)), (5, .long (zJ v5))] [0, 1, 2, 4, 5] rfl ?_
    exact k2 v5 (Option.some.inj h).symm
def J_X5_arrive (x1 x2 x3 : Int) (st : z_St) : Option (Int) :=
  z_g (z32 x1 ∧ z32 (-1)) (if x1 = (-1) then
    z_b (J_X0_span x2 0 x3 st) fun r1 =>
    J_X5_arrive_67 x1 x2 r1 st
  else
    z_b (z_iter z_F (fun q9 : (Int × Int) => J_X5_arrive_b26 x1 x2 x3 q9.1 q9.2 st) (1152921504606846976, 1)) fun lx9 =>
      J_X5_arrive_67 x1 x2 lx9 st)
set_option maxRecDepth 100000 in
set_option maxHeartbeats 4000000 in
theorem w_X5_arrive {κ : zK} {a : Nat → Nat} {x1 x2 x3 : Int} {st : z_St} {o : Int} (hc : z_C κ RX5 cX5_arrive 8 9 0 0) (hap : z_AP κ a z_N) (he : z_E 1 κ (some .long) z_T z_N a o st) (h : J_X5_arrive x1 x2 x3 st = some o) : z_V κ z_T z_N a 0 0 0 [(0, .ref (a 134)), (1, .int (zI x1)), (2, .int (zI x2)), (3, .int (zI x3)), (4, .ref (a 99))] [] st := by
  unfold J_X5_arrive at h
  refine z_ldc2 1152921504606846976 hc kc_RX5_56 dX5_arrive_0 rfl ?_
  refine z_lstore [(5, .long (zJ 1152921504606846976)), (0, .ref (a 134)), (1, .int (zI x1)), (2, .int (zI x2)), (3, .int (zI x3)), (4, .ref (a 99))] hc dX5_arrive_3 (by decide) rfl ?_
  refine z_iload_n (i := 1) 2 hc dX5_arrive_5 rfl rfl ?_
  refine z_iconst hc dX5_arrive_6 ?_
  refine z_icmp_ne (tgt := 23) hc dX5_arrive_7 (by decide) h (fun c7 h => ?_) (fun c7 h => ?_)
  · refine z_aload 5 hc dX5_arrive_10 rfl ?_
    refine z_iload_n (i := 2) 3 hc dX5_arrive_12 rfl rfl ?_
    refine z_iconst hc dX5_arrive_13 ?_
    refine z_iload_n (i := 3) 4 hc dX5_arrive_14 rfl rfl ?_
    obtain ⟨r1, hr1, h⟩ := z_b_some h
    refine z_callVJ [.int (zI x2), .int (zI 0), .int (zI x3)] hc hap o_X0_span ml_RX5_64 (fun l hl => c_X0_span hl  hr1) (by decide) tT_99 (by decide) ⟨_, rfl, rfl⟩ rfl rfl (Nat.le_of_ble_eq_true rfl) (Nat.zero_le _) (Nat.zero_le _) dX5_arrive_15 ?_
    refine z_lstore [(5, .long (zJ r1)), (0, .ref (a 134)), (1, .int (zI x1)), (2, .int (zI x2)), (3, .int (zI x3)), (4, .ref (a 99))] hc dX5_arrive_18 (by decide) rfl ?_
    refine z_goto (tgt := 67) hc dX5_arrive_20 (by decide) ?_
    refine z_sub [(0, .ref (a 134)), (1, .int (zI x1)), (2, .int (zI x2)), (4, .ref (a 99)), (5, .long (zJ r1))] [1, 2, 3, 5, 0] rfl ?_
    exact w_X5_arrive_67 hc hap he h
  · refine z_iconst hc dX5_arrive_23 ?_
    refine z_istore [(7, .int (zI 1)), (5, .long (zJ 1152921504606846976)), (0, .ref (a 134)), (1, .int (zI x1)), (2, .int (zI x2)), (3, .int (zI x3)), (4, .ref (a 99))] hc dX5_arrive_24 (by decide) rfl ?_
    obtain ⟨lx9, hlx9, h⟩ := z_b_some h
    refine z_sub [(0, .ref (a 134)), (1, .int (zI x1)), (2, .int (zI x2)), (3, .int (zI x3)), (4, .ref (a 99)), (5, .long (zJ 1152921504606846976)), (7, .int (zI 1))] [2, 3, 4, 5, 6, 1, 0] rfl ?_
    refine z_loop (fun q9 : (Int × Int) => J_X5_arrive_b26 x1 x2 x3 q9.1 q9.2 st) (fun q9 : (Int × Int) => z_V κ z_T z_N a 0 0 26 [(0, .ref (a 134)), (1, .int (zI x1)), (2, .int (zI x2)), (3, .int (zI x3)), (4, .ref (a 99)), (5, .long (zJ q9.1)), (7, .int (zI q9.2))] [] st) (fun x9 : Int => z_V κ z_T z_N a 0 0 67 [(0, .ref (a 134)), (1, .int (zI x1)), (2, .int (zI x2)), (4, .ref (a 99)), (5, .long (zJ x9))] [] st) (fun q9 o9 hb k1 k2 => ?_) _ _ _ hlx9 ?_
    · exact w_X5_arrive_b26 hc hap k1 k2 hb
    · show z_V κ z_T z_N a 0 0 67 [(0, .ref (a 134)), (1, .int (zI x1)), (2, .int (zI x2)), (4, .ref (a 99)), (5, .long (zJ lx9))] [] st
      refine z_sub [(0, .ref (a 134)), (1, .int (zI x1)), (2, .int (zI x2)), (4, .ref (a 99)), (5, .long (zJ lx9))] [0, 1, 2, 3, 4] rfl ?_
      exact w_X5_arrive_67 hc hap he h
set_option maxRecDepth 100000 in
set_option maxHeartbeats 4000000 in
theorem c_X5_arrive {l : Launch} (hl : l.stackTraces = false) {a : Nat → Nat} {x1 x2 x3 : Int} {st : z_St} {o : Int} (h : J_X5_arrive x1 x2 x3 st = some o) : z_M 1 l yX5_arrive cX5_arrive 8 (some .long) 9 z_T z_N a [.ref (a 134), .int (zI x1), .int (zI x2), .int (zI x3), .ref (a 99)] st o st := z_of hl (by decide +kernel) (Nat.le_of_ble_eq_true rfl) (fun κ hc hap he => w_X5_arrive hc hap he h)
theorem dX5_addChildren_0 : decode cX5_addChildren 0 = .ok (.iconst 0, 1) := by decide +kernel
theorem dX5_addChildren_1 : decode cX5_addChildren 1 = .ok (.istore 4, 2) := by decide +kernel
theorem dX5_addChildren_3 : decode cX5_addChildren 3 = .ok (.iload 4, 2) := by decide +kernel
theorem dX5_addChildren_5 : decode cX5_addChildren 5 = .ok (.aload_n 0, 1) := by decide +kernel
theorem dX5_addChildren_6 : decode cX5_addChildren 6 = .ok (.getfield 28, 3) := by decide +kernel
theorem dX5_addChildren_9 : decode cX5_addChildren 9 = .ok (.if_icmp .ge 238, 3) := by decide +kernel
theorem dX5_addChildren_12 : decode cX5_addChildren 12 = .ok (.aload_n 0, 1) := by decide +kernel
theorem dX5_addChildren_13 : decode cX5_addChildren 13 = .ok (.getfield 32, 3) := by decide +kernel
theorem dX5_addChildren_16 : decode cX5_addChildren 16 = .ok (.sipush 780, 3) := by decide +kernel
theorem dX5_addChildren_19 : decode cX5_addChildren 19 = .ok (.if_icmp .ge 228, 3) := by decide +kernel
theorem dX5_addChildren_22 : decode cX5_addChildren 22 = .ok (.aload_n 0, 1) := by decide +kernel
theorem dX5_addChildren_23 : decode cX5_addChildren 23 = .ok (.getfield 9, 3) := by decide +kernel
theorem dX5_addChildren_26 : decode cX5_addChildren 26 = .ok (.aload_n 0, 1) := by decide +kernel
theorem dX5_addChildren_27 : decode cX5_addChildren 27 = .ok (.getfield 32, 3) := by decide +kernel
theorem dX5_addChildren_30 : decode cX5_addChildren 30 = .ok (.iload_n 1, 1) := by decide +kernel
theorem dX5_addChildren_31 : decode cX5_addChildren 31 = .ok (.iconst (-1), 1) := by decide +kernel
theorem dX5_addChildren_32 : decode cX5_addChildren 32 = .ok (.if_icmp .ne 10, 3) := by decide +kernel
theorem dX5_addChildren_35 : decode cX5_addChildren 35 = .ok (.iload 4, 2) := by decide +kernel
theorem dX5_addChildren_37 : decode cX5_addChildren 37 = .ok (.iconst 1, 1) := by decide +kernel
theorem dX5_addChildren_38 : decode cX5_addChildren 38 = .ok (.iadd, 1) := by decide +kernel
theorem dX5_addChildren_39 : decode cX5_addChildren 39 = .ok (.goto 17, 3) := by decide +kernel
theorem dX5_addChildren_42 : decode cX5_addChildren 42 = .ok (.aload_n 0, 1) := by decide +kernel
theorem dX5_addChildren_43 : decode cX5_addChildren 43 = .ok (.getfield 9, 3) := by decide +kernel
theorem dX5_addChildren_46 : decode cX5_addChildren 46 = .ok (.iload_n 1, 1) := by decide +kernel
theorem dX5_addChildren_47 : decode cX5_addChildren 47 = .ok (.iaload, 1) := by decide +kernel
theorem dX5_addChildren_48 : decode cX5_addChildren 48 = .ok (.bipush 10, 2) := by decide +kernel
theorem dX5_addChildren_50 : decode cX5_addChildren 50 = .ok (.imul, 1) := by decide +kernel
theorem dX5_addChildren_51 : decode cX5_addChildren 51 = .ok (.iload 4, 2) := by decide +kernel
theorem dX5_addChildren_53 : decode cX5_addChildren 53 = .ok (.iadd, 1) := by decide +kernel
theorem dX5_addChildren_54 : decode cX5_addChildren 54 = .ok (.iconst 1, 1) := by decide +kernel
theorem dX5_addChildren_55 : decode cX5_addChildren 55 = .ok (.iadd, 1) := by decide +kernel
theorem dX5_addChildren_56 : decode cX5_addChildren 56 = .ok (.iastore, 1) := by decide +kernel
theorem dX5_addChildren_57 : decode cX5_addChildren 57 = .ok (.aload_n 0, 1) := by decide +kernel
theorem dX5_addChildren_58 : decode cX5_addChildren 58 = .ok (.getfield 9, 3) := by decide +kernel
theorem dX5_addChildren_61 : decode cX5_addChildren 61 = .ok (.aload_n 0, 1) := by decide +kernel
theorem dX5_addChildren_62 : decode cX5_addChildren 62 = .ok (.getfield 32, 3) := by decide +kernel
theorem dX5_addChildren_65 : decode cX5_addChildren 65 = .ok (.iaload, 1) := by decide +kernel
theorem dX5_addChildren_66 : decode cX5_addChildren 66 = .ok (.sipush 1000, 3) := by decide +kernel
theorem dX5_addChildren_69 : decode cX5_addChildren 69 = .ok (.if_icmp .ge 53, 3) := by decide +kernel
theorem dX5_addChildren_72 : decode cX5_addChildren 72 = .ok (.aload_n 0, 1) := by decide +kernel
theorem dX5_addChildren_73 : decode cX5_addChildren 73 = .ok (.getfield 32, 3) := by decide +kernel
theorem dX5_addChildren_76 : decode cX5_addChildren 76 = .ok (.sipush 155, 3) := by decide +kernel
theorem dX5_addChildren_79 : decode cX5_addChildren 79 = .ok (.if_icmp .ge 43, 3) := by decide +kernel
theorem dX5_addChildren_82 : decode cX5_addChildren 82 = .ok (.iconst 0, 1) := by decide +kernel
theorem dX5_addChildren_83 : decode cX5_addChildren 83 = .ok (.istore 5, 2) := by decide +kernel
theorem dX5_addChildren_85 : decode cX5_addChildren 85 = .ok (.iload 5, 2) := by decide +kernel
theorem dX5_addChildren_87 : decode cX5_addChildren 87 = .ok (.iload_n 3, 1) := by decide +kernel
theorem dX5_addChildren_88 : decode cX5_addChildren 88 = .ok (.if_icmp .gt 34, 3) := by decide +kernel
theorem dX5_addChildren_91 : decode cX5_addChildren 91 = .ok (.aload_n 0, 1) := by decide +kernel
theorem dX5_addChildren_92 : decode cX5_addChildren 92 = .ok (.getfield 19, 3) := by decide +kernel
theorem dX5_addChildren_95 : decode cX5_addChildren 95 = .ok (.aload_n 0, 1) := by decide +kernel
theorem dX5_addChildren_96 : decode cX5_addChildren 96 = .ok (.getfield 32, 3) := by decide +kernel
theorem dX5_addChildren_99 : decode cX5_addChildren 99 = .ok (.bipush 17, 2) := by decide +kernel
theorem dX5_addChildren_101 : decode cX5_addChildren 101 = .ok (.imul, 1) := by decide +kernel
theorem dX5_addChildren_102 : decode cX5_addChildren 102 = .ok (.iload 5, 2) := by decide +kernel
theorem dX5_addChildren_104 : decode cX5_addChildren 104 = .ok (.iadd, 1) := by decide +kernel
theorem dX5_addChildren_105 : decode cX5_addChildren 105 = .ok (.aload_n 0, 1) := by decide +kernel
theorem dX5_addChildren_106 : decode cX5_addChildren 106 = .ok (.iload_n 1, 1) := by decide +kernel
theorem dX5_addChildren_107 : decode cX5_addChildren 107 = .ok (.iload 4, 2) := by decide +kernel
theorem dX5_addChildren_109 : decode cX5_addChildren 109 = .ok (.iload 5, 2) := by decide +kernel
theorem dX5_addChildren_111 : decode cX5_addChildren 111 = .ok (.aload_n 2, 1) := by decide +kernel
theorem dX5_addChildren_112 : decode cX5_addChildren 112 = .ok (.invokevirtual 52, 3) := by decide +kernel
theorem dX5_addChildren_115 : decode cX5_addChildren 115 = .ok (.lastore, 1) := by decide +kernel
theorem dX5_addChildren_116 : decode cX5_addChildren 116 = .ok (.iinc 5 1, 3) := by decide +kernel
theorem dX5_addChildren_119 : decode cX5_addChildren 119 = .ok (.goto (-34), 3) := by decide +kernel
theorem dX5_addChildren_122 : decode cX5_addChildren 122 = .ok (.aload_n 0, 1) := by decide +kernel
theorem dX5_addChildren_123 : decode cX5_addChildren 123 = .ok (.iload_n 1, 1) := by decide +kernel
theorem dX5_addChildren_124 : decode cX5_addChildren 124 = .ok (.iload 4, 2) := by decide +kernel
theorem dX5_addChildren_126 : decode cX5_addChildren 126 = .ok (.iload_n 3, 1) := by decide +kernel
theorem dX5_addChildren_127 : decode cX5_addChildren 127 = .ok (.aload_n 2, 1) := by decide +kernel
theorem dX5_addChildren_128 : decode cX5_addChildren 128 = .ok (.invokevirtual 52, 3) := by decide +kernel
theorem dX5_addChildren_131 : decode cX5_addChildren 131 = .ok (.lstore 5, 2) := by decide +kernel
theorem dX5_addChildren_133 : decode cX5_addChildren 133 = .ok (.aload_n 0, 1) := by decide +kernel
theorem dX5_addChildren_134 : decode cX5_addChildren 134 = .ok (.getfield 15, 3) := by decide +kernel
theorem dX5_addChildren_137 : decode cX5_addChildren 137 = .ok (.aload_n 0, 1) := by decide +kernel
theorem dX5_addChildren_138 : decode cX5_addChildren 138 = .ok (.getfield 32, 3) := by decide +kernel
theorem dX5_addChildren_141 : decode cX5_addChildren 141 = .ok (.lload 5, 2) := by decide +kernel
theorem dX5_addChildren_143 : decode cX5_addChildren 143 = .ok (.ldc2_w 56, 3) := by decide +kernel
theorem dX5_addChildren_146 : decode cX5_addChildren 146 = .ok (.lcmp, 1) := by decide +kernel
theorem dX5_addChildren_147 : decode cX5_addChildren 147 = .ok (.ifCond .lt 9, 3) := by decide +kernel
theorem dX5_addChildren_150 : decode cX5_addChildren 150 = .ok (.ldc2_w 56, 3) := by decide +kernel
theorem dX5_addChildren_153 : decode cX5_addChildren 153 = .ok (.goto 13, 3) := by decide +kernel
theorem dX5_addChildren_156 : decode cX5_addChildren 156 = .ok (.lload 5, 2) := by decide +kernel
theorem dX5_addChildren_158 : decode cX5_addChildren 158 = .ok (.aload_n 2, 1) := by decide +kernel
theorem dX5_addChildren_159 : decode cX5_addChildren 159 = .ok (.iload 4, 2) := by decide +kernel
theorem dX5_addChildren_161 : decode cX5_addChildren 161 = .ok (.iconst (-1), 1) := by decide +kernel
theorem dX5_addChildren_162 : decode cX5_addChildren 162 = .ok (.invokevirtual 58, 3) := by decide +kernel
theorem dX5_addChildren_165 : decode cX5_addChildren 165 = .ok (.ladd, 1) := by decide +kernel
theorem dX5_addChildren_166 : decode cX5_addChildren 166 = .ok (.lastore, 1) := by decide +kernel
theorem dX5_addChildren_167 : decode cX5_addChildren 167 = .ok (.lload 5, 2) := by decide +kernel
theorem dX5_addChildren_169 : decode cX5_addChildren 169 = .ok (.ldc2_w 56, 3) := by decide +kernel
theorem dX5_addChildren_172 : decode cX5_addChildren 172 = .ok (.lcmp, 1) := by decide +kernel
theorem dX5_addChildren_173 : decode cX5_addChildren 173 = .ok (.ifCond .ge 58, 3) := by decide +kernel
theorem dX5_addChildren_176 : decode cX5_addChildren 176 = .ok (.aload_n 0, 1) := by decide +kernel
theorem dX5_addChildren_177 : decode cX5_addChildren 177 = .ok (.dup, 1) := by decide +kernel
theorem dX5_addChildren_178 : decode cX5_addChildren 178 = .ok (.getfield 35, 3) := by decide +kernel
theorem dX5_addChildren_181 : decode cX5_addChildren 181 = .ok (.iconst 1, 1) := by decide +kernel
theorem dX5_addChildren_182 : decode cX5_addChildren 182 = .ok (.iadd, 1) := by decide +kernel
theorem dX5_addChildren_183 : decode cX5_addChildren 183 = .ok (.putfield 35, 3) := by decide +kernel
theorem dX5_addChildren_186 : decode cX5_addChildren 186 = .ok (.aload_n 0, 1) := by decide +kernel
theorem dX5_addChildren_187 : decode cX5_addChildren 187 = .ok (.aload_n 0, 1) := by decide +kernel
theorem dX5_addChildren_188 : decode cX5_addChildren 188 = .ok (.getfield 38, 3) := by decide +kernel
theorem dX5_addChildren_191 : decode cX5_addChildren 191 = .ok (.iconst (-1), 1) := by decide +kernel
theorem dX5_addChildren_192 : decode cX5_addChildren 192 = .ok (.if_icmp .eq 25, 3) := by decide +kernel
theorem dX5_addChildren_195 : decode cX5_addChildren 195 = .ok (.aload_n 0, 1) := by decide +kernel
theorem dX5_addChildren_196 : decode cX5_addChildren 196 = .ok (.getfield 15, 3) := by decide +kernel
theorem dX5_addChildren_199 : decode cX5_addChildren 199 = .ok (.aload_n 0, 1) := by decide +kernel
theorem dX5_addChildren_200 : decode cX5_addChildren 200 = .ok (.getfield 32, 3) := by decide +kernel
theorem dX5_addChildren_203 : decode cX5_addChildren 203 = .ok (.laload, 1) := by decide +kernel
theorem dX5_addChildren_204 : decode cX5_addChildren 204 = .ok (.aload_n 0, 1) := by decide +kernel
theorem dX5_addChildren_205 : decode cX5_addChildren 205 = .ok (.getfield 15, 3) := by decide +kernel
theorem dX5_addChildren_208 : decode cX5_addChildren 208 = .ok (.aload_n 0, 1) := by decide +kernel
theorem dX5_addChildren_209 : decode cX5_addChildren 209 = .ok (.getfield 38, 3) := by decide +kernel
theorem dX5_addChildren_212 : decode cX5_addChildren 212 = .ok (.laload, 1) := by decide +kernel
theorem dX5_addChildren_213 : decode cX5_addChildren 213 = .ok (.lcmp, 1) := by decide +kernel
theorem dX5_addChildren_214 : decode cX5_addChildren 214 = .ok (.ifCond .ge 10, 3) := by decide +kernel
theorem dX5_addChildren_217 : decode cX5_addChildren 217 = .ok (.aload_n 0, 1) := by decide +kernel
theorem dX5_addChildren_218 : decode cX5_addChildren 218 = .ok (.getfield 32, 3) := by decide +kernel
theorem dX5_addChildren_221 : decode cX5_addChildren 221 = .ok (.goto 7, 3) := by decide +kernel
theorem dX5_addChildren_224 : decode cX5_addChildren 224 = .ok (.aload_n 0, 1) := by decide +kernel
theorem dX5_addChildren_225 : decode cX5_addChildren 225 = .ok (.getfield 38, 3) := by decide +kernel
theorem dX5_addChildren_228 : decode cX5_addChildren 228 = .ok (.putfield 38, 3) := by decide +kernel
theorem dX5_addChildren_231 : decode cX5_addChildren 231 = .ok (.aload_n 0, 1) := by decide +kernel
theorem dX5_addChildren_232 : decode cX5_addChildren 232 = .ok (.dup, 1) := by decide +kernel
theorem dX5_addChildren_233 : decode cX5_addChildren 233 = .ok (.getfield 32, 3) := by decide +kernel
theorem dX5_addChildren_236 : decode cX5_addChildren 236 = .ok (.iconst 1, 1) := by decide +kernel
theorem dX5_addChildren_237 : decode cX5_addChildren 237 = .ok (.iadd, 1) := by decide +kernel
theorem dX5_addChildren_238 : decode cX5_addChildren 238 = .ok (.putfield 32, 3) := by decide +kernel
theorem dX5_addChildren_241 : decode cX5_addChildren 241 = .ok (.iinc 4 1, 3) := by decide +kernel
theorem dX5_addChildren_244 : decode cX5_addChildren 244 = .ok (.goto (-241), 3) := by decide +kernel
theorem dX5_addChildren_247 : decode cX5_addChildren 247 = .ok (.return_, 1) := by decide +kernel
def J_X5_addChildren_b85 (v1 v3 v4 v5 : Int) (st : z_St) : Option ((Int × z_St) ⊕ z_St) :=
  z_g (z32 v5 ∧ z32 v3) (if v3 < v5 then
    some (.inr st)
  else
    z_b (J_X5_arrive v1 v4 v5 st) fun r3 =>
    z_g (0 ≤ ((st 134 6) * 17) + v5 ∧ ((st 134 6) * 17) + v5 < 2635) <|
    z_let (z_up st 137 (((st 134 6) * 17) + v5) r3) fun st5 =>
    some (.inl (v5 + 1, st5)))
set_option maxRecDepth 100000 in
set_option maxHeartbeats 4000000 in
theorem w_X5_addChildren_b85 {κ : zK} {a : Nat → Nat} {v1 v3 v4 v5 : Int} {st : z_St} {mc9 ms9 : Nat} {o : (Int × z_St) ⊕ z_St} (hc : z_C κ RX5 cX5_addChildren 7 10 mc9 ms9) (hap : z_AP κ a z_N) (k1 : ∀ s9 : (Int × z_St), o = .inl s9 → z_V κ z_T z_N a 0 0 85 [(0, .ref (a 134)), (1, .int (zI v1)), (2, .ref (a 99)), (3, .int (zI v3)), (4, .int (zI v4)), (5, .int (zI s9.1))] [] s9.2) (k2 : ∀ x9 : z_St, o = .inr x9 → z_V κ z_T z_N a 0 0 122 [(0, .ref (a 134)), (1, .int (zI v1)), (2, .ref (a 99)), (3, .int (zI v3)), (4, .int (zI v4))] [] x9) (h : J_X5_addChildren_b85 v1 v3 v4 v5 st = some o) : z_V κ z_T z_N a 0 0 85 [(0, .ref (a 134)), (1, .int (zI v1)), (2, .ref (a 99)), (3, .int (zI v3)), (4, .int (zI v4)), (5, .int (zI v5))] [] st := by
  unfold J_X5_addChildren_b85 at h
  refine z_iload 5 hc dX5_addChildren_85 rfl ?_
  refine z_iload_n (i := 3) 3 hc dX5_addChildren_87 rfl rfl ?_
  refine z_icmp_gt (tgt := 122) hc dX5_addChildren_88 (by decide) h (fun c88 h => ?_) (fun c88 h => ?_)
  · refine z_sub [(0, .ref (a 134)), (1, .int (zI v1)), (2, .ref (a 99)), (3, .int (zI v3)), (4, .int (zI v4))] [0, 1, 2, 3, 4] rfl ?_
    exact k2 st (Option.some.inj h).symm
  · refine z_aload_n (i := 0) 0 hc dX5_addChildren_91 rfl rfl ?_
    refine z_getA (k' := 137) hc fl_RX5_19 tT_134 (by decide) rfl rfl dX5_addChildren_92 ?_
    refine z_aload_n (i := 0) 0 hc dX5_addChildren_95 rfl rfl ?_
    refine z_getI (kI := 134) (jI := 6) hc fl_RX5_32 tT_134 (by decide) rfl rfl rfl dX5_addChildren_96 ?_
    refine z_bipush hc dX5_addChildren_99 rfl ?_
    refine z_imul hc dX5_addChildren_101 ?_
    refine z_iload 5 hc dX5_addChildren_102 rfl ?_
    refine z_iadd hc dX5_addChildren_104 ?_
    refine z_aload_n (i := 0) 0 hc dX5_addChildren_105 rfl rfl ?_
    refine z_iload_n (i := 1) 1 hc dX5_addChildren_106 rfl rfl ?_
    refine z_iload 4 hc dX5_addChildren_107 rfl ?_
    refine z_iload 5 hc dX5_addChildren_109 rfl ?_
    refine z_aload_n (i := 2) 2 hc dX5_addChildren_111 rfl rfl ?_
    obtain ⟨r3, hr3, h⟩ := z_b_some h
    refine z_callVJ [.int (zI v1), .int (zI v4), .int (zI v5), .ref (a 99)] hc hap o_X5_arrive ml_RX5_52 (fun l hl => c_X5_arrive hl  hr3) (by decide) tT_134 (by decide) ⟨_, rfl, rfl⟩ rfl rfl (Nat.le_of_ble_eq_true rfl) (Nat.zero_le _) (Nat.zero_le _) dX5_addChildren_112 ?_
    refine z_last (kI := 137) (nI9 := 2635) hc hap tT_137 (by decide) rfl rfl (by decide) dX5_addChildren_115 h (fun st5 h => ?_)
    refine z_iinc [(5, .int (zI (v5 + 1))), (0, .ref (a 134)), (1, .int (zI v1)), (2, .ref (a 99)), (3, .int (zI v3)), (4, .int (zI v4))] 5 hc dX5_addChildren_116 rfl (by decide) rfl ?_
    refine z_goto (tgt := 85) hc dX5_addChildren_119 (by decide) ?_
    refine z_sub [(0, .ref (a 134)), (1, .int (zI v1)), (2, .ref (a 99)), (3, .int (zI v3)), (4, .int (zI v4)), (5, .int (zI (v5 + 1)))] [1, 2, 3, 4, 5, 0] rfl ?_
    exact k1 _ (Option.some.inj h).symm
def J_X5_addChildren_231 (v1 v3 v4 : Int) (st : z_St) : Option ((Int × z_St) ⊕ z_St) :=
  z_let (z_up st 134 6 ((st 134 6) + 1)) fun st14 =>
  some (.inl (v4 + 1, st14))
set_option maxRecDepth 100000 in
set_option maxHeartbeats 4000000 in
theorem w_X5_addChildren_231 {κ : zK} {a : Nat → Nat} {v1 v3 v4 : Int} {st : z_St} {mc9 ms9 : Nat} {o : (Int × z_St) ⊕ z_St} (hc : z_C κ RX5 cX5_addChildren 7 10 mc9 ms9) (hap : z_AP κ a z_N) (k1 : ∀ s9 : (Int × z_St), o = .inl s9 → z_V κ z_T z_N a 0 0 3 [(0, .ref (a 134)), (1, .int (zI v1)), (2, .ref (a 99)), (3, .int (zI v3)), (4, .int (zI s9.1))] [] s9.2) (k2 : ∀ x9 : z_St, o = .inr x9 → z_V κ z_T z_N a 0 0 247 [] [] x9) (h : J_X5_addChildren_231 v1 v3 v4 st = some o) : z_V κ z_T z_N a 0 0 231 [(0, .ref (a 134)), (1, .int (zI v1)), (2, .ref (a 99)), (3, .int (zI v3)), (4, .int (zI v4))] [] st := by
  unfold J_X5_addChildren_231 at h
  refine z_aload_n (i := 0) 0 hc dX5_addChildren_231 rfl rfl ?_
  refine z_dup hc dX5_addChildren_232 rfl ?_
  refine z_getI (kI := 134) (jI := 6) hc fl_RX5_32 tT_134 (by decide) rfl rfl rfl dX5_addChildren_233 ?_
  refine z_iconst hc dX5_addChildren_236 ?_
  refine z_iadd hc dX5_addChildren_237 ?_
  refine z_putI (kI := 134) (jI := 6) hc hap fp_RX5_32 tT_134 (by decide) rfl rfl rfl dX5_addChildren_238 h (fun st14 h => ?_)
  refine z_iinc [(4, .int (zI (v4 + 1))), (0, .ref (a 134)), (1, .int (zI v1)), (2, .ref (a 99)), (3, .int (zI v3))] 4 hc dX5_addChildren_241 rfl (by decide) rfl ?_
  refine z_goto (tgt := 3) hc dX5_addChildren_244 (by decide) ?_
  refine z_sub [(0, .ref (a 134)), (1, .int (zI v1)), (2, .ref (a 99)), (3, .int (zI v3)), (4, .int (zI (v4 + 1)))] [1, 2, 3, 4, 0] rfl ?_
  exact k1 _ (Option.some.inj h).symm
def J_X5_addChildren_228 (v1 v3 v4 s0 : Int) (st : z_St) : Option ((Int × z_St) ⊕ z_St) :=
  z_let (z_up st 134 8 s0) fun st13 =>
  J_X5_addChildren_231 v1 v3 v4 st13
set_option maxRecDepth 100000 in
set_option maxHeartbeats 4000000 in
theorem w_X5_addChildren_228 {κ : zK} {a : Nat → Nat} {v1 v3 v4 s0 : Int} {st : z_St} {mc9 ms9 : Nat} {o : (Int × z_St) ⊕ z_St} (hc : z_C κ RX5 cX5_addChildren 7 10 mc9 ms9) (hap : z_AP κ a z_N) (k1 : ∀ s9 : (Int × z_St), o = .inl s9 → z_V κ z_T z_N a 0 0 3 [(0, .ref (a 134)), (1, .int (zI v1)), (2, .ref (a 99)), (3, .int (zI v3)), (4, .int (zI s9.1))] [] s9.2) (k2 : ∀ x9 : z_St, o = .inr x9 → z_V κ z_T z_N a 0 0 247 [] [] x9) (h : J_X5_addChildren_228 v1 v3 v4 s0 st = some o) : z_V κ z_T z_N a 0 0 228 [(0, .ref (a 134)), (1, .int (zI v1)), (2, .ref (a 99)), (3, .int (zI v3)), (4, .int (zI v4))] [.int (zI s0), .ref (a 134)] st := by
  unfold J_X5_addChildren_228 at h
  refine z_putI (kI := 134) (jI := 8) hc hap fp_RX5_38 tT_134 (by decide) rfl rfl rfl dX5_addChildren_228 h (fun st13 h => ?_)
  refine z_sub [(0, .ref (a 134)), (1, .int (zI v1)), (2, .ref (a 99)), (3, .int (zI v3)), (4, .int (zI v4))] [0, 1, 2, 3, 4] rfl ?_
  exact w_X5_addChildren_231 hc hap k1 k2 h
def J_X5_addChildren_217 (v1 v3 v4 : Int) (st : z_St) : Option ((Int × z_St) ⊕ z_St) :=
  J_X5_addChildren_228 v1 v3 v4 (st 134 6) st
set_option maxRecDepth 100000 in
set_option maxHeartbeats 4000000 in
theorem w_X5_addChildren_217 {κ : zK} {a : Nat → Nat} {v1 v3 v4 : Int} {st : z_St} {mc9 ms9 : Nat} {o : (Int × z_St) ⊕ z_St} (hc : z_C κ RX5 cX5_addChildren 7 10 mc9 ms9) (hap : z_AP κ a z_N) (k1 : ∀ s9 : (Int × z_St), o = .inl s9 → z_V κ z_T z_N a 0 0 3 [(0, .ref (a 134)), (1, .int (zI v1)), (2, .ref (a 99)), (3, .int (zI v3)), (4, .int (zI s9.1))] [] s9.2) (k2 : ∀ x9 : z_St, o = .inr x9 → z_V κ z_T z_N a 0 0 247 [] [] x9) (h : J_X5_addChildren_217 v1 v3 v4 st = some o) : z_V κ z_T z_N a 0 0 217 [(0, .ref (a 134)), (1, .int (zI v1)), (2, .ref (a 99)), (3, .int (zI v3)), (4, .int (zI v4))] [.ref (a 134)] st := by
  unfold J_X5_addChildren_217 at h
  refine z_aload_n (i := 0) 0 hc dX5_addChildren_217 rfl rfl ?_
  refine z_getI (kI := 134) (jI := 6) hc fl_RX5_32 tT_134 (by decide) rfl rfl rfl dX5_addChildren_218 ?_
  refine z_goto (tgt := 228) hc dX5_addChildren_221 (by decide) ?_
  refine z_sub [(0, .ref (a 134)), (1, .int (zI v1)), (2, .ref (a 99)), (3, .int (zI v3)), (4, .int (zI v4))] [0, 1, 2, 3, 4] rfl ?_
  exact w_X5_addChildren_228 hc hap k1 k2 h
def J_X5_addChildren_166 (v1 v3 v4 v5 s0 s1 : Int) (st : z_St) : Option ((Int × z_St) ⊕ z_St) :=
  z_g (0 ≤ s1 ∧ s1 < 780) <|
  z_let (z_up st 136 s1 s0) fun st11 =>
  z_g (z64 v5 ∧ z64 1152921504606846976) (if v5 < 1152921504606846976 then
    z_let (z_up st11 134 7 ((st11 134 7) + 1)) fun st12 =>
    z_g (z32 (st12 134 8) ∧ z32 (-1)) (if st12 134 8 = (-1) then
      J_X5_addChildren_217 v1 v3 v4 st12
    else
      z_g (0 ≤ st12 134 6 ∧ st12 134 6 < 780) <|
      z_g (0 ≤ st12 134 8 ∧ st12 134 8 < 780) <|
      z_g (z64 (st12 136 (st12 134 6)) ∧ z64 (st12 136 (st12 134 8))) (if st12 136 (st12 134 6) < st12 136 (st12 134 8) then
        J_X5_addChildren_217 v1 v3 v4 st12
      else
        J_X5_addChildren_228 v1 v3 v4 (st12 134 8) st12))
  else
    J_X5_addChildren_231 v1 v3 v4 st11)
set_option maxRecDepth 100000 in
set_option maxHeartbeats 4000000 in
theorem w_X5_addChildren_166 {κ : zK} {a : Nat → Nat} {v1 v3 v4 v5 s0 s1 : Int} {st : z_St} {mc9 ms9 : Nat} {o : (Int × z_St) ⊕ z_St} (hc : z_C κ RX5 cX5_addChildren 7 10 mc9 ms9) (hap : z_AP κ a z_N) (k1 : ∀ s9 : (Int × z_St), o = .inl s9 → z_V κ z_T z_N a 0 0 3 [(0, .ref (a 134)), (1, .int (zI v1)), (2, .ref (a 99)), (3, .int (zI v3)), (4, .int (zI s9.1))] [] s9.2) (k2 : ∀ x9 : z_St, o = .inr x9 → z_V κ z_T z_N a 0 0 247 [] [] x9) (h : J_X5_addChildren_166 v1 v3 v4 v5 s0 s1 st = some o) : z_V κ z_T z_N a 0 0 166 [(0, .ref (a 134)), (1, .int (zI v1)), (2, .ref (a 99)), (3, .int (zI v3)), (4, .int (zI v4)), (5, .long (zJ v5))] [.long (zJ s0), .int (zI s1), .ref (a 136)] st := by
  unfold J_X5_addChildren_166 at h
  refine z_last (kI := 136) (nI9 := 780) hc hap tT_136 (by decide) rfl rfl (by decide) dX5_addChildren_166 h (fun st11 h => ?_)
  refine z_lload 5 hc dX5_addChildren_167 rfl ?_
  refine z_ldc2 1152921504606846976 hc kc_RX5_56 dX5_addChildren_169 rfl ?_
  refine z_lcmp_ge (tgt := 231) hc dX5_addChildren_172 dX5_addChildren_173 (by decide) h (fun c172 h => ?_) (fun c172 h => ?_)
  · refine z_aload_n (i := 0) 0 hc dX5_addChildren_176 rfl rfl ?_
    refine z_dup hc dX5_addChildren_177 rfl ?_
    refine z_getI (kI := 134) (jI := 7) hc fl_RX5_35 tT_134 (by decide) rfl rfl rfl dX5_addChildren_178 ?_
    refine z_iconst hc dX5_addChildren_181 ?_
    refine z_iadd hc dX5_addChildren_182 ?_
    refine z_putI (kI := 134) (jI := 7) hc hap fp_RX5_35 tT_134 (by decide) rfl rfl rfl dX5_addChildren_183 h (fun st12 h => ?_)
    refine z_aload_n (i := 0) 0 hc dX5_addChildren_186 rfl rfl ?_
    refine z_aload_n (i := 0) 0 hc dX5_addChildren_187 rfl rfl ?_
    refine z_getI (kI := 134) (jI := 8) hc fl_RX5_38 tT_134 (by decide) rfl rfl rfl dX5_addChildren_188 ?_
    refine z_iconst hc dX5_addChildren_191 ?_
    refine z_icmp_eq (tgt := 217) hc dX5_addChildren_192 (by decide) h (fun c192 h => ?_) (fun c192 h => ?_)
    · refine z_sub [(0, .ref (a 134)), (1, .int (zI v1)), (2, .ref (a 99)), (3, .int (zI v3)), (4, .int (zI v4))] [0, 1, 2, 3, 4] rfl ?_
      exact w_X5_addChildren_217 hc hap k1 k2 h
    · refine z_aload_n (i := 0) 0 hc dX5_addChildren_195 rfl rfl ?_
      refine z_getA (k' := 136) hc fl_RX5_15 tT_134 (by decide) rfl rfl dX5_addChildren_196 ?_
      refine z_aload_n (i := 0) 0 hc dX5_addChildren_199 rfl rfl ?_
      refine z_getI (kI := 134) (jI := 6) hc fl_RX5_32 tT_134 (by decide) rfl rfl rfl dX5_addChildren_200 ?_
      refine z_lald (kI := 136) (nI9 := 780) hc tT_136 (by decide) rfl rfl (by decide) dX5_addChildren_203 h (fun g15 h => ?_)
      refine z_aload_n (i := 0) 0 hc dX5_addChildren_204 rfl rfl ?_
      refine z_getA (k' := 136) hc fl_RX5_15 tT_134 (by decide) rfl rfl dX5_addChildren_205 ?_
      refine z_aload_n (i := 0) 0 hc dX5_addChildren_208 rfl rfl ?_
      refine z_getI (kI := 134) (jI := 8) hc fl_RX5_38 tT_134 (by decide) rfl rfl rfl dX5_addChildren_209 ?_
      refine z_lald (kI := 136) (nI9 := 780) hc tT_136 (by decide) rfl rfl (by decide) dX5_addChildren_212 h (fun g16 h => ?_)
      refine z_lcmp_ge (tgt := 224) hc dX5_addChildren_213 dX5_addChildren_214 (by decide) h (fun c213 h => ?_) (fun c213 h => ?_)
      · refine z_sub [(0, .ref (a 134)), (1, .int (zI v1)), (2, .ref (a 99)), (3, .int (zI v3)), (4, .int (zI v4))] [0, 1, 2, 3, 4] rfl ?_
        exact w_X5_addChildren_217 hc hap k1 k2 h
      · refine z_aload_n (i := 0) 0 hc dX5_addChildren_224 rfl rfl ?_
        refine z_getI (kI := 134) (jI := 8) hc fl_RX5_38 tT_134 (by decide) rfl rfl rfl dX5_addChildren_225 ?_
        refine z_sub [(0, .ref (a 134)), (1, .int (zI v1)), (2, .ref (a 99)), (3, .int (zI v3)), (4, .int (zI v4))] [0, 1, 2, 3, 4] rfl ?_
        exact w_X5_addChildren_228 hc hap k1 k2 h
  · refine z_sub [(0, .ref (a 134)), (1, .int (zI v1)), (2, .ref (a 99)), (3, .int (zI v3)), (4, .int (zI v4))] [0, 1, 2, 3, 4] rfl ?_
    exact w_X5_addChildren_231 hc hap k1 k2 h
def J_X5_addChildren_122 (v1 v3 v4 : Int) (st : z_St) : Option ((Int × z_St) ⊕ z_St) :=
  z_b (J_X5_arrive v1 v4 v3 st) fun r7 =>
  z_g (z64 r7 ∧ z64 1152921504606846976) (if r7 < 1152921504606846976 then
    z_b (J_X0_toll v4 (-1) st) fun r9 =>
    J_X5_addChildren_166 v1 v3 v4 r7 (r7 + r9) (st 134 6) st
  else
    J_X5_addChildren_166 v1 v3 v4 r7 1152921504606846976 (st 134 6) st)
set_option maxRecDepth 100000 in
set_option maxHeartbeats 4000000 in
theorem w_X5_addChildren_122 {κ : zK} {a : Nat → Nat} {v1 v3 v4 : Int} {st : z_St} {mc9 ms9 : Nat} {o : (Int × z_St) ⊕ z_St} (hc : z_C κ RX5 cX5_addChildren 7 10 mc9 ms9) (hap : z_AP κ a z_N) (k1 : ∀ s9 : (Int × z_St), o = .inl s9 → z_V κ z_T z_N a 0 0 3 [(0, .ref (a 134)), (1, .int (zI v1)), (2, .ref (a 99)), (3, .int (zI v3)), (4, .int (zI s9.1))] [] s9.2) (k2 : ∀ x9 : z_St, o = .inr x9 → z_V κ z_T z_N a 0 0 247 [] [] x9) (h : J_X5_addChildren_122 v1 v3 v4 st = some o) : z_V κ z_T z_N a 0 0 122 [(0, .ref (a 134)), (1, .int (zI v1)), (2, .ref (a 99)), (3, .int (zI v3)), (4, .int (zI v4))] [] st := by
  unfold J_X5_addChildren_122 at h
  refine z_aload_n (i := 0) 0 hc dX5_addChildren_122 rfl rfl ?_
  refine z_iload_n (i := 1) 1 hc dX5_addChildren_123 rfl rfl ?_
  refine z_iload 4 hc dX5_addChildren_124 rfl ?_
  refine z_iload_n (i := 3) 3 hc dX5_addChildren_126 rfl rfl ?_
  refine z_aload_n (i := 2) 2 hc dX5_addChildren_127 rfl rfl ?_
  obtain ⟨r7, hr7, h⟩ := z_b_some h
  refine z_callVJ [.int (zI v1), .int (zI v4), .int (zI v3), .ref (a 99)] hc hap o_X5_arrive ml_RX5_52 (fun l hl => c_X5_arrive hl  hr7) (by decide) tT_134 (by decide) ⟨_, rfl, rfl⟩ rfl rfl (Nat.le_of_ble_eq_true rfl) (Nat.zero_le _) (Nat.zero_le _) dX5_addChildren_128 ?_
  refine z_lstore [(5, .long (zJ r7)), (0, .ref (a 134)), (1, .int (zI v1)), (2, .ref (a 99)), (3, .int (zI v3)), (4, .int (zI v4))] hc dX5_addChildren_131 (by decide) rfl ?_
  refine z_aload_n (i := 0) 1 hc dX5_addChildren_133 rfl rfl ?_
  refine z_getA (k' := 136) hc fl_RX5_15 tT_134 (by decide) rfl rfl dX5_addChildren_134 ?_
  refine z_aload_n (i := 0) 1 hc dX5_addChildren_137 rfl rfl ?_
  refine z_getI (kI := 134) (jI := 6) hc fl_RX5_32 tT_134 (by decide) rfl rfl rfl dX5_addChildren_138 ?_
  refine z_lload 0 hc dX5_addChildren_141 rfl ?_
  refine z_ldc2 1152921504606846976 hc kc_RX5_56 dX5_addChildren_143 rfl ?_
  refine z_lcmp_lt (tgt := 156) hc dX5_addChildren_146 dX5_addChildren_147 (by decide) h (fun c146 h => ?_) (fun c146 h => ?_)
  · refine z_lload 0 hc dX5_addChildren_156 rfl ?_
    refine z_aload_n (i := 2) 3 hc dX5_addChildren_158 rfl rfl ?_
    refine z_iload 5 hc dX5_addChildren_159 rfl ?_
    refine z_iconst hc dX5_addChildren_161 ?_
    obtain ⟨r9, hr9, h⟩ := z_b_some h
    refine z_callVJ [.int (zI v4), .int (zI (-1))] hc hap o_X0_toll ml_RX5_58 (fun l hl => c_X0_toll hl  hr9) (by decide) tT_99 (by decide) ⟨_, rfl, rfl⟩ rfl rfl (Nat.le_of_ble_eq_true rfl) (Nat.zero_le _) (Nat.zero_le _) dX5_addChildren_162 ?_
    refine z_ladd hc dX5_addChildren_165 ?_
    refine z_sub [(0, .ref (a 134)), (1, .int (zI v1)), (2, .ref (a 99)), (3, .int (zI v3)), (4, .int (zI v4)), (5, .long (zJ r7))] [1, 2, 3, 4, 5, 0] rfl ?_
    exact w_X5_addChildren_166 hc hap k1 k2 h
  · refine z_ldc2 1152921504606846976 hc kc_RX5_56 dX5_addChildren_150 rfl ?_
    refine z_goto (tgt := 166) hc dX5_addChildren_153 (by decide) ?_
    refine z_sub [(0, .ref (a 134)), (1, .int (zI v1)), (2, .ref (a 99)), (3, .int (zI v3)), (4, .int (zI v4)), (5, .long (zJ r7))] [1, 2, 3, 4, 5, 0] rfl ?_
    exact w_X5_addChildren_166 hc hap k1 k2 h
def J_X5_addChildren_56 (v1 v3 v4 s0 s1 : Int) (st : z_St) : Option ((Int × z_St) ⊕ z_St) :=
  z_g (0 ≤ s1 ∧ s1 < 780) <|
  z_let (z_up st 135 s1 s0) fun st1 =>
  z_g (0 ≤ st1 134 6 ∧ st1 134 6 < 780) <|
  z_g (z32 (st1 135 (st1 134 6)) ∧ z32 1000) (if st1 135 (st1 134 6) < 1000 then
    z_g (z32 (st1 134 6) ∧ z32 155) (if st1 134 6 < 155 then
      z_b (z_iter z_F (fun q9 : (Int × z_St) => J_X5_addChildren_b85 v1 v3 v4 q9.1 q9.2) (0, st1)) fun lx6 =>
        J_X5_addChildren_122 v1 v3 v4 lx6
    else
      J_X5_addChildren_122 v1 v3 v4 st1)
  else
    J_X5_addChildren_122 v1 v3 v4 st1)
set_option maxRecDepth 100000 in
set_option maxHeartbeats 4000000 in
theorem w_X5_addChildren_56 {κ : zK} {a : Nat → Nat} {v1 v3 v4 s0 s1 : Int} {st : z_St} {mc9 ms9 : Nat} {o : (Int × z_St) ⊕ z_St} (hc : z_C κ RX5 cX5_addChildren 7 10 mc9 ms9) (hap : z_AP κ a z_N) (k1 : ∀ s9 : (Int × z_St), o = .inl s9 → z_V κ z_T z_N a 0 0 3 [(0, .ref (a 134)), (1, .int (zI v1)), (2, .ref (a 99)), (3, .int (zI v3)), (4, .int (zI s9.1))] [] s9.2) (k2 : ∀ x9 : z_St, o = .inr x9 → z_V κ z_T z_N a 0 0 247 [] [] x9) (h : J_X5_addChildren_56 v1 v3 v4 s0 s1 st = some o) : z_V κ z_T z_N a 0 0 56 [(0, .ref (a 134)), (1, .int (zI v1)), (2, .ref (a 99)), (3, .int (zI v3)), (4, .int (zI v4))] [.int (zI s0), .int (zI s1), .ref (a 135)] st := by
  unfold J_X5_addChildren_56 at h
  refine z_iast (kI := 135) (nI9 := 780) hc hap tT_135 (by decide) rfl rfl (by decide) dX5_addChildren_56 h (fun st1 h => ?_)
  refine z_aload_n (i := 0) 0 hc dX5_addChildren_57 rfl rfl ?_
  refine z_getA (k' := 135) hc fl_RX5_9 tT_134 (by decide) rfl rfl dX5_addChildren_58 ?_
  refine z_aload_n (i := 0) 0 hc dX5_addChildren_61 rfl rfl ?_
  refine z_getI (kI := 134) (jI := 6) hc fl_RX5_32 tT_134 (by decide) rfl rfl rfl dX5_addChildren_62 ?_
  refine z_iald (kI := 135) (nI9 := 780) hc tT_135 (by decide) rfl rfl (by decide) dX5_addChildren_65 h (fun g2 h => ?_)
  refine z_sipush hc dX5_addChildren_66 rfl ?_
  refine z_icmp_ge (tgt := 122) hc dX5_addChildren_69 (by decide) h (fun c69 h => ?_) (fun c69 h => ?_)
  · refine z_aload_n (i := 0) 0 hc dX5_addChildren_72 rfl rfl ?_
    refine z_getI (kI := 134) (jI := 6) hc fl_RX5_32 tT_134 (by decide) rfl rfl rfl dX5_addChildren_73 ?_
    refine z_sipush hc dX5_addChildren_76 rfl ?_
    refine z_icmp_ge (tgt := 122) hc dX5_addChildren_79 (by decide) h (fun c79 h => ?_) (fun c79 h => ?_)
    · refine z_iconst hc dX5_addChildren_82 ?_
      refine z_istore [(5, .int (zI 0)), (0, .ref (a 134)), (1, .int (zI v1)), (2, .ref (a 99)), (3, .int (zI v3)), (4, .int (zI v4))] hc dX5_addChildren_83 (by decide) rfl ?_
      obtain ⟨lx6, hlx6, h⟩ := z_b_some h
      refine z_sub [(0, .ref (a 134)), (1, .int (zI v1)), (2, .ref (a 99)), (3, .int (zI v3)), (4, .int (zI v4)), (5, .int (zI 0))] [1, 2, 3, 4, 5, 0] rfl ?_
      refine z_loop (fun q9 : (Int × z_St) => J_X5_addChildren_b85 v1 v3 v4 q9.1 q9.2) (fun q9 : (Int × z_St) => z_V κ z_T z_N a 0 0 85 [(0, .ref (a 134)), (1, .int (zI v1)), (2, .ref (a 99)), (3, .int (zI v3)), (4, .int (zI v4)), (5, .int (zI q9.1))] [] q9.2) (fun x9 : z_St => z_V κ z_T z_N a 0 0 122 [(0, .ref (a 134)), (1, .int (zI v1)), (2, .ref (a 99)), (3, .int (zI v3)), (4, .int (zI v4))] [] x9) (fun q9 o9 hb k1 k2 => ?_) _ _ _ hlx6 ?_
      · exact w_X5_addChildren_b85 hc hap k1 k2 hb
      · show z_V κ z_T z_N a 0 0 122 [(0, .ref (a 134)), (1, .int (zI v1)), (2, .ref (a 99)), (3, .int (zI v3)), (4, .int (zI v4))] [] lx6
        refine z_sub [(0, .ref (a 134)), (1, .int (zI v1)), (2, .ref (a 99)), (3, .int (zI v3)), (4, .int (zI v4))] [0, 1, 2, 3, 4] rfl ?_
        exact w_X5_addChildren_122 hc hap k1 k2 h
    · refine z_sub [(0, .ref (a 134)), (1, .int (zI v1)), (2, .ref (a 99)), (3, .int (zI v3)), (4, .int (zI v4))] [0, 1, 2, 3, 4] rfl ?_
      exact w_X5_addChildren_122 hc hap k1 k2 h
  · refine z_sub [(0, .ref (a 134)), (1, .int (zI v1)), (2, .ref (a 99)), (3, .int (zI v3)), (4, .int (zI v4))] [0, 1, 2, 3, 4] rfl ?_
    exact w_X5_addChildren_122 hc hap k1 k2 h
def J_X5_addChildren_b3 (v1 v3 v4 : Int) (st : z_St) : Option ((Int × z_St) ⊕ z_St) :=
  z_g (z32 v4 ∧ z32 (st 134 5)) (if v4 < st 134 5 then
    z_g (z32 (st 134 6) ∧ z32 780) (if st 134 6 < 780 then
      z_g (z32 v1 ∧ z32 (-1)) (if v1 = (-1) then
        J_X5_addChildren_56 v1 v3 v4 (v4 + 1) (st 134 6) st
      else
        z_g (0 ≤ v1 ∧ v1 < 780) <|
        J_X5_addChildren_56 v1 v3 v4 ((((st 135 v1) * 10) + v4) + 1) (st 134 6) st)
    else
      some (.inr st))
  else
    some (.inr st))
set_option maxRecDepth 100000 in
set_option maxHeartbeats 4000000 in
theorem w_X5_addChildren_b3 {κ : zK} {a : Nat → Nat} {v1 v3 v4 : Int} {st : z_St} {mc9 ms9 : Nat} {o : (Int × z_St) ⊕ z_St} (hc : z_C κ RX5 cX5_addChildren 7 10 mc9 ms9) (hap : z_AP κ a z_N) (k1 : ∀ s9 : (Int × z_St), o = .inl s9 → z_V κ z_T z_N a 0 0 3 [(0, .ref (a 134)), (1, .int (zI v1)), (2, .ref (a 99)), (3, .int (zI v3)), (4, .int (zI s9.1))] [] s9.2) (k2 : ∀ x9 : z_St, o = .inr x9 → z_V κ z_T z_N a 0 0 247 [] [] x9) (h : J_X5_addChildren_b3 v1 v3 v4 st = some o) : z_V κ z_T z_N a 0 0 3 [(0, .ref (a 134)), (1, .int (zI v1)), (2, .ref (a 99)), (3, .int (zI v3)), (4, .int (zI v4))] [] st := by
  unfold J_X5_addChildren_b3 at h
  refine z_iload 4 hc dX5_addChildren_3 rfl ?_
  refine z_aload_n (i := 0) 0 hc dX5_addChildren_5 rfl rfl ?_
  refine z_getI (kI := 134) (jI := 5) hc fl_RX5_28 tT_134 (by decide) rfl rfl rfl dX5_addChildren_6 ?_
  refine z_icmp_ge (tgt := 247) hc dX5_addChildren_9 (by decide) h (fun c9 h => ?_) (fun c9 h => ?_)
  · refine z_aload_n (i := 0) 0 hc dX5_addChildren_12 rfl rfl ?_
    refine z_getI (kI := 134) (jI := 6) hc fl_RX5_32 tT_134 (by decide) rfl rfl rfl dX5_addChildren_13 ?_
    refine z_sipush hc dX5_addChildren_16 rfl ?_
    refine z_icmp_ge (tgt := 247) hc dX5_addChildren_19 (by decide) h (fun c19 h => ?_) (fun c19 h => ?_)
    · refine z_aload_n (i := 0) 0 hc dX5_addChildren_22 rfl rfl ?_
      refine z_getA (k' := 135) hc fl_RX5_9 tT_134 (by decide) rfl rfl dX5_addChildren_23 ?_
      refine z_aload_n (i := 0) 0 hc dX5_addChildren_26 rfl rfl ?_
      refine z_getI (kI := 134) (jI := 6) hc fl_RX5_32 tT_134 (by decide) rfl rfl rfl dX5_addChildren_27 ?_
      refine z_iload_n (i := 1) 1 hc dX5_addChildren_30 rfl rfl ?_
      refine z_iconst hc dX5_addChildren_31 ?_
      refine z_icmp_ne (tgt := 42) hc dX5_addChildren_32 (by decide) h (fun c32 h => ?_) (fun c32 h => ?_)
      · refine z_iload 4 hc dX5_addChildren_35 rfl ?_
        refine z_iconst hc dX5_addChildren_37 ?_
        refine z_iadd hc dX5_addChildren_38 ?_
        refine z_goto (tgt := 56) hc dX5_addChildren_39 (by decide) ?_
        refine z_sub [(0, .ref (a 134)), (1, .int (zI v1)), (2, .ref (a 99)), (3, .int (zI v3)), (4, .int (zI v4))] [0, 1, 2, 3, 4] rfl ?_
        exact w_X5_addChildren_56 hc hap k1 k2 h
      · refine z_aload_n (i := 0) 0 hc dX5_addChildren_42 rfl rfl ?_
        refine z_getA (k' := 135) hc fl_RX5_9 tT_134 (by decide) rfl rfl dX5_addChildren_43 ?_
        refine z_iload_n (i := 1) 1 hc dX5_addChildren_46 rfl rfl ?_
        refine z_iald (kI := 135) (nI9 := 780) hc tT_135 (by decide) rfl rfl (by decide) dX5_addChildren_47 h (fun g17 h => ?_)
        refine z_bipush hc dX5_addChildren_48 rfl ?_
        refine z_imul hc dX5_addChildren_50 ?_
        refine z_iload 4 hc dX5_addChildren_51 rfl ?_
        refine z_iadd hc dX5_addChildren_53 ?_
        refine z_iconst hc dX5_addChildren_54 ?_
        refine z_iadd hc dX5_addChildren_55 ?_
        refine z_sub [(0, .ref (a 134)), (1, .int (zI v1)), (2, .ref (a 99)), (3, .int (zI v3)), (4, .int (zI v4))] [0, 1, 2, 3, 4] rfl ?_
        exact w_X5_addChildren_56 hc hap k1 k2 h
    · refine z_sub [] [] rfl ?_
      exact k2 st (Option.some.inj h).symm
  · refine z_sub [] [] rfl ?_
    exact k2 st (Option.some.inj h).symm
def J_X5_addChildren (x1 x3 : Int) (st : z_St) : Option (z_St) :=
  z_b (z_iter z_F (fun q9 : (Int × z_St) => J_X5_addChildren_b3 x1 x3 q9.1 q9.2) (0, st)) fun lx18 =>
    some lx18
set_option maxRecDepth 100000 in
set_option maxHeartbeats 4000000 in
theorem w_X5_addChildren {κ : zK} {a : Nat → Nat} {x1 x3 : Int} {st : z_St} {o : z_St} (hc : z_C κ RX5 cX5_addChildren 7 10 0 0) (hap : z_AP κ a z_N) (he : z_E 2 κ none z_T z_N a 0 o) (h : J_X5_addChildren x1 x3 st = some o) : z_V κ z_T z_N a 0 0 0 [(0, .ref (a 134)), (1, .int (zI x1)), (2, .ref (a 99)), (3, .int (zI x3))] [] st := by
  unfold J_X5_addChildren at h
  refine z_iconst hc dX5_addChildren_0 ?_
  refine z_istore [(4, .int (zI 0)), (0, .ref (a 134)), (1, .int (zI x1)), (2, .ref (a 99)), (3, .int (zI x3))] hc dX5_addChildren_1 (by decide) rfl ?_
  obtain ⟨lx18, hlx18, h⟩ := z_b_some h
  refine z_sub [(0, .ref (a 134)), (1, .int (zI x1)), (2, .ref (a 99)), (3, .int (zI x3)), (4, .int (zI 0))] [1, 2, 3, 4, 0] rfl ?_
  refine z_loop (fun q9 : (Int × z_St) => J_X5_addChildren_b3 x1 x3 q9.1 q9.2) (fun q9 : (Int × z_St) => z_V κ z_T z_N a 0 0 3 [(0, .ref (a 134)), (1, .int (zI x1)), (2, .ref (a 99)), (3, .int (zI x3)), (4, .int (zI q9.1))] [] q9.2) (fun x9 : z_St => z_V κ z_T z_N a 0 0 247 [] [] x9) (fun q9 o9 hb k1 k2 => ?_) _ _ _ hlx18 ?_
  · exact w_X5_addChildren_b3 hc hap k1 k2 hb
  · show z_V κ z_T z_N a 0 0 247 [] [] lx18
    have h := Option.some.inj h
    subst h
    exact z_retV hc he dX5_addChildren_247
set_option maxRecDepth 100000 in
set_option maxHeartbeats 4000000 in
theorem c_X5_addChildren {l : Launch} (hl : l.stackTraces = false) {a : Nat → Nat} {x1 x3 : Int} {st : z_St} {o : z_St} (h : J_X5_addChildren x1 x3 st = some o) : z_M 2 l yX5_addChildren cX5_addChildren 7 none 10 z_T z_N a [.ref (a 134), .int (zI x1), .ref (a 99), .int (zI x3)] st 0 o := z_of hl (by decide +kernel) (Nat.le_of_ble_eq_true rfl) (fun κ hc hap he => w_X5_addChildren hc hap he h)
theorem dX5_fill_0 : decode cX5_fill 0 = .ok (.aload_n 0, 1) := by decide +kernel
theorem dX5_fill_1 : decode cX5_fill 1 = .ok (.iload_n 2, 1) := by decide +kernel
theorem dX5_fill_2 : decode cX5_fill 2 = .ok (.putfield 28, 3) := by decide +kernel
theorem dX5_fill_5 : decode cX5_fill 5 = .ok (.aload_n 0, 1) := by decide +kernel
theorem dX5_fill_6 : decode cX5_fill 6 = .ok (.iconst 0, 1) := by decide +kernel
theorem dX5_fill_7 : decode cX5_fill 7 = .ok (.putfield 32, 3) := by decide +kernel
theorem dX5_fill_10 : decode cX5_fill 10 = .ok (.aload_n 0, 1) := by decide +kernel
theorem dX5_fill_11 : decode cX5_fill 11 = .ok (.iconst 0, 1) := by decide +kernel
theorem dX5_fill_12 : decode cX5_fill 12 = .ok (.putfield 35, 3) := by decide +kernel
theorem dX5_fill_15 : decode cX5_fill 15 = .ok (.aload_n 0, 1) := by decide +kernel
theorem dX5_fill_16 : decode cX5_fill 16 = .ok (.iconst (-1), 1) := by decide +kernel
theorem dX5_fill_17 : decode cX5_fill 17 = .ok (.putfield 38, 3) := by decide +kernel
theorem dX5_fill_20 : decode cX5_fill 20 = .ok (.aload_n 0, 1) := by decide +kernel
theorem dX5_fill_21 : decode cX5_fill 21 = .ok (.iconst (-1), 1) := by decide +kernel
theorem dX5_fill_22 : decode cX5_fill 22 = .ok (.aload_n 1, 1) := by decide +kernel
theorem dX5_fill_23 : decode cX5_fill 23 = .ok (.iload_n 3, 1) := by decide +kernel
theorem dX5_fill_24 : decode cX5_fill 24 = .ok (.invokevirtual 48, 3) := by decide +kernel
theorem dX5_fill_27 : decode cX5_fill 27 = .ok (.iconst 0, 1) := by decide +kernel
theorem dX5_fill_28 : decode cX5_fill 28 = .ok (.istore 4, 2) := by decide +kernel
theorem dX5_fill_30 : decode cX5_fill 30 = .ok (.iload 4, 2) := by decide +kernel
theorem dX5_fill_32 : decode cX5_fill 32 = .ok (.aload_n 0, 1) := by decide +kernel
theorem dX5_fill_33 : decode cX5_fill 33 = .ok (.getfield 32, 3) := by decide +kernel
theorem dX5_fill_36 : decode cX5_fill 36 = .ok (.if_icmp .ge 38, 3) := by decide +kernel
theorem dX5_fill_39 : decode cX5_fill 39 = .ok (.iload 4, 2) := by decide +kernel
theorem dX5_fill_41 : decode cX5_fill 41 = .ok (.sipush 155, 3) := by decide +kernel
theorem dX5_fill_44 : decode cX5_fill 44 = .ok (.if_icmp .ge 30, 3) := by decide +kernel
theorem dX5_fill_47 : decode cX5_fill 47 = .ok (.aload_n 0, 1) := by decide +kernel
theorem dX5_fill_48 : decode cX5_fill 48 = .ok (.getfield 9, 3) := by decide +kernel
theorem dX5_fill_51 : decode cX5_fill 51 = .ok (.iload 4, 2) := by decide +kernel
theorem dX5_fill_53 : decode cX5_fill 53 = .ok (.iaload, 1) := by decide +kernel
theorem dX5_fill_54 : decode cX5_fill 54 = .ok (.sipush 1000, 3) := by decide +kernel
theorem dX5_fill_57 : decode cX5_fill 57 = .ok (.if_icmp .ge 17, 3) := by decide +kernel
theorem dX5_fill_60 : decode cX5_fill 60 = .ok (.aload_n 0, 1) := by decide +kernel
theorem dX5_fill_61 : decode cX5_fill 61 = .ok (.iload 4, 2) := by decide +kernel
theorem dX5_fill_63 : decode cX5_fill 63 = .ok (.aload_n 1, 1) := by decide +kernel
theorem dX5_fill_64 : decode cX5_fill 64 = .ok (.iload_n 3, 1) := by decide +kernel
theorem dX5_fill_65 : decode cX5_fill 65 = .ok (.invokevirtual 48, 3) := by decide +kernel
theorem dX5_fill_68 : decode cX5_fill 68 = .ok (.iinc 4 1, 3) := by decide +kernel
theorem dX5_fill_71 : decode cX5_fill 71 = .ok (.goto (-41), 3) := by decide +kernel
theorem dX5_fill_74 : decode cX5_fill 74 = .ok (.aload_n 0, 1) := by decide +kernel
theorem dX5_fill_75 : decode cX5_fill 75 = .ok (.iconst 0, 1) := by decide +kernel
theorem dX5_fill_76 : decode cX5_fill 76 = .ok (.putfield 45, 3) := by decide +kernel
theorem dX5_fill_79 : decode cX5_fill 79 = .ok (.aload_n 0, 1) := by decide +kernel
theorem dX5_fill_80 : decode cX5_fill 80 = .ok (.iconst 1, 1) := by decide +kernel
theorem dX5_fill_81 : decode cX5_fill 81 = .ok (.putfield 41, 3) := by decide +kernel
theorem dX5_fill_84 : decode cX5_fill 84 = .ok (.return_, 1) := by decide +kernel
def J_X5_fill_b30 (v3 v4 : Int) (st : z_St) : Option ((Int × z_St) ⊕ z_St) :=
  z_g (z32 v4 ∧ z32 (st 134 6)) (if v4 < st 134 6 then
    z_g (z32 v4 ∧ z32 155) (if v4 < 155 then
      z_g (0 ≤ v4 ∧ v4 < 780) <|
      z_g (z32 (st 135 v4) ∧ z32 1000) (if st 135 v4 < 1000 then
        z_b (J_X5_addChildren v4 v3 st) fun st9 =>
        some (.inl (v4 + 1, st9))
      else
        some (.inr st))
    else
      some (.inr st))
  else
    some (.inr st))
set_option maxRecDepth 100000 in
set_option maxHeartbeats 4000000 in
theorem w_X5_fill_b30 {κ : zK} {a : Nat → Nat} {v3 v4 : Int} {st : z_St} {mc9 ms9 : Nat} {o : (Int × z_St) ⊕ z_St} (hc : z_C κ RX5 cX5_fill 5 11 mc9 ms9) (hap : z_AP κ a z_N) (k1 : ∀ s9 : (Int × z_St), o = .inl s9 → z_V κ z_T z_N a 0 0 30 [(0, .ref (a 134)), (1, .ref (a 99)), (3, .int (zI v3)), (4, .int (zI s9.1))] [] s9.2) (k2 : ∀ x9 : z_St, o = .inr x9 → z_V κ z_T z_N a 0 0 74 [(0, .ref (a 134))] [] x9) (h : J_X5_fill_b30 v3 v4 st = some o) : z_V κ z_T z_N a 0 0 30 [(0, .ref (a 134)), (1, .ref (a 99)), (3, .int (zI v3)), (4, .int (zI v4))] [] st := by
  unfold J_X5_fill_b30 at h
  refine z_iload 3 hc dX5_fill_30 rfl ?_
  refine z_aload_n (i := 0) 0 hc dX5_fill_32 rfl rfl ?_
  refine z_getI (kI := 134) (jI := 6) hc fl_RX5_32 tT_134 (by decide) rfl rfl rfl dX5_fill_33 ?_
  refine z_icmp_ge (tgt := 74) hc dX5_fill_36 (by decide) h (fun c36 h => ?_) (fun c36 h => ?_)
  · refine z_iload 3 hc dX5_fill_39 rfl ?_
    refine z_sipush hc dX5_fill_41 rfl ?_
    refine z_icmp_ge (tgt := 74) hc dX5_fill_44 (by decide) h (fun c44 h => ?_) (fun c44 h => ?_)
    · refine z_aload_n (i := 0) 0 hc dX5_fill_47 rfl rfl ?_
      refine z_getA (k' := 135) hc fl_RX5_9 tT_134 (by decide) rfl rfl dX5_fill_48 ?_
      refine z_iload 3 hc dX5_fill_51 rfl ?_
      refine z_iald (kI := 135) (nI9 := 780) hc tT_135 (by decide) rfl rfl (by decide) dX5_fill_53 h (fun g7 h => ?_)
      refine z_sipush hc dX5_fill_54 rfl ?_
      refine z_icmp_ge (tgt := 74) hc dX5_fill_57 (by decide) h (fun c57 h => ?_) (fun c57 h => ?_)
      · refine z_aload_n (i := 0) 0 hc dX5_fill_60 rfl rfl ?_
        refine z_iload 3 hc dX5_fill_61 rfl ?_
        refine z_aload_n (i := 1) 1 hc dX5_fill_63 rfl rfl ?_
        refine z_iload_n (i := 3) 2 hc dX5_fill_64 rfl rfl ?_
        obtain ⟨st9, hr8, h⟩ := z_b_some h
        refine z_callVV [.int (zI v4), .ref (a 99), .int (zI v3)] hc hap o_X5_addChildren ml_RX5_48 (fun l hl => c_X5_addChildren hl  hr8) (by decide) tT_134 (by decide) ⟨_, rfl, rfl⟩ rfl rfl (Nat.le_of_ble_eq_true rfl) (Nat.zero_le _) (Nat.zero_le _) dX5_fill_65 ?_
        refine z_iinc [(4, .int (zI (v4 + 1))), (0, .ref (a 134)), (1, .ref (a 99)), (3, .int (zI v3))] 3 hc dX5_fill_68 rfl (by decide) rfl ?_
        refine z_goto (tgt := 30) hc dX5_fill_71 (by decide) ?_
        refine z_sub [(0, .ref (a 134)), (1, .ref (a 99)), (3, .int (zI v3)), (4, .int (zI (v4 + 1)))] [1, 2, 3, 0] rfl ?_
        exact k1 _ (Option.some.inj h).symm
      · refine z_sub [(0, .ref (a 134))] [0] rfl ?_
        exact k2 st (Option.some.inj h).symm
    · refine z_sub [(0, .ref (a 134))] [0] rfl ?_
      exact k2 st (Option.some.inj h).symm
  · refine z_sub [(0, .ref (a 134))] [0] rfl ?_
    exact k2 st (Option.some.inj h).symm
def J_X5_fill (x2 x3 : Int) (st : z_St) : Option (z_St) :=
  z_let (z_up st 134 5 x2) fun st1 =>
  z_let (z_up st1 134 6 0) fun st2 =>
  z_let (z_up st2 134 7 0) fun st3 =>
  z_let (z_up st3 134 8 (-1)) fun st4 =>
  z_b (J_X5_addChildren (-1) x3 st4) fun st6 =>
  z_b (z_iter z_F (fun q9 : (Int × z_St) => J_X5_fill_b30 x3 q9.1 q9.2) (0, st6)) fun lx10 =>
    z_g (0 = 0 ∨ 0 = 1) <|
    z_let (z_up lx10 134 10 0) fun st11 =>
    z_g (1 = 0 ∨ 1 = 1) <|
    z_let (z_up st11 134 9 1) fun st12 =>
    some st12
set_option maxRecDepth 100000 in
set_option maxHeartbeats 4000000 in
theorem w_X5_fill {κ : zK} {a : Nat → Nat} {x2 x3 : Int} {st : z_St} {o : z_St} (hc : z_C κ RX5 cX5_fill 5 11 0 0) (hap : z_AP κ a z_N) (he : z_E 2 κ none z_T z_N a 0 o) (h : J_X5_fill x2 x3 st = some o) : z_V κ z_T z_N a 0 0 0 [(0, .ref (a 134)), (1, .ref (a 99)), (2, .int (zI x2)), (3, .int (zI x3))] [] st := by
  unfold J_X5_fill at h
  refine z_aload_n (i := 0) 0 hc dX5_fill_0 rfl rfl ?_
  refine z_iload_n (i := 2) 2 hc dX5_fill_1 rfl rfl ?_
  refine z_putI (kI := 134) (jI := 5) hc hap fp_RX5_28 tT_134 (by decide) rfl rfl rfl dX5_fill_2 h (fun st1 h => ?_)
  refine z_aload_n (i := 0) 0 hc dX5_fill_5 rfl rfl ?_
  refine z_iconst hc dX5_fill_6 ?_
  refine z_putI (kI := 134) (jI := 6) hc hap fp_RX5_32 tT_134 (by decide) rfl rfl rfl dX5_fill_7 h (fun st2 h => ?_)
  refine z_aload_n (i := 0) 0 hc dX5_fill_10 rfl rfl ?_
  refine z_iconst hc dX5_fill_11 ?_
  refine z_putI (kI := 134) (jI := 7) hc hap fp_RX5_35 tT_134 (by decide) rfl rfl rfl dX5_fill_12 h (fun st3 h => ?_)
  refine z_aload_n (i := 0) 0 hc dX5_fill_15 rfl rfl ?_
  refine z_iconst hc dX5_fill_16 ?_
  refine z_putI (kI := 134) (jI := 8) hc hap fp_RX5_38 tT_134 (by decide) rfl rfl rfl dX5_fill_17 h (fun st4 h => ?_)
  refine z_aload_n (i := 0) 0 hc dX5_fill_20 rfl rfl ?_
  refine z_iconst hc dX5_fill_21 ?_
  refine z_aload_n (i := 1) 1 hc dX5_fill_22 rfl rfl ?_
  refine z_iload_n (i := 3) 3 hc dX5_fill_23 rfl rfl ?_
  obtain ⟨st6, hr5, h⟩ := z_b_some h
  refine z_callVV [.int (zI (-1)), .ref (a 99), .int (zI x3)] hc hap o_X5_addChildren ml_RX5_48 (fun l hl => c_X5_addChildren hl  hr5) (by decide) tT_134 (by decide) ⟨_, rfl, rfl⟩ rfl rfl (Nat.le_of_ble_eq_true rfl) (Nat.zero_le _) (Nat.zero_le _) dX5_fill_24 ?_
  refine z_iconst hc dX5_fill_27 ?_
  refine z_istore [(4, .int (zI 0)), (0, .ref (a 134)), (1, .ref (a 99)), (2, .int (zI x2)), (3, .int (zI x3))] hc dX5_fill_28 (by decide) rfl ?_
  obtain ⟨lx10, hlx10, h⟩ := z_b_some h
  refine z_sub [(0, .ref (a 134)), (1, .ref (a 99)), (3, .int (zI x3)), (4, .int (zI 0))] [1, 2, 4, 0] rfl ?_
  refine z_loop (fun q9 : (Int × z_St) => J_X5_fill_b30 x3 q9.1 q9.2) (fun q9 : (Int × z_St) => z_V κ z_T z_N a 0 0 30 [(0, .ref (a 134)), (1, .ref (a 99)), (3, .int (zI x3)), (4, .int (zI q9.1))] [] q9.2) (fun x9 : z_St => z_V κ z_T z_N a 0 0 74 [(0, .ref (a 134))] [] x9) (fun q9 o9 hb k1 k2 => ?_) _ _ _ hlx10 ?_
  · exact w_X5_fill_b30 hc hap k1 k2 hb
  · show z_V κ z_T z_N a 0 0 74 [(0, .ref (a 134))] [] lx10
    refine z_aload_n (i := 0) 0 hc dX5_fill_74 rfl rfl ?_
    refine z_iconst hc dX5_fill_75 ?_
    refine z_putZ (kI := 134) (jI := 10) hc hap fp_RX5_45 tT_134 (by decide) rfl rfl rfl dX5_fill_76 h (fun st11 h => ?_)
    refine z_aload_n (i := 0) 0 hc dX5_fill_79 rfl rfl ?_
    refine z_iconst hc dX5_fill_80 ?_
    refine z_putZ (kI := 134) (jI := 9) hc hap fp_RX5_41 tT_134 (by decide) rfl rfl rfl dX5_fill_81 h (fun st12 h => ?_)
    have h := Option.some.inj h
    subst h
    exact z_retV hc he dX5_fill_84
set_option maxRecDepth 100000 in
set_option maxHeartbeats 4000000 in
theorem c_X5_fill {l : Launch} (hl : l.stackTraces = false) {a : Nat → Nat} {x2 x3 : Int} {st : z_St} {o : z_St} (h : J_X5_fill x2 x3 st = some o) : z_M 2 l yX5_fill cX5_fill 5 none 11 z_T z_N a [.ref (a 134), .ref (a 99), .int (zI x2), .int (zI x3)] st 0 o := z_of hl (by decide +kernel) (Nat.le_of_ble_eq_true rfl) (fun κ hc hap he => w_X5_fill hc hap he h)
theorem dX5_leastWeight_0 : decode cX5_leastWeight 0 = .ok (.aload_n 0, 1) := by decide +kernel
theorem dX5_leastWeight_1 : decode cX5_leastWeight 1 = .ok (.getfield 38, 3) := by decide +kernel
theorem dX5_leastWeight_4 : decode cX5_leastWeight 4 = .ok (.iconst (-1), 1) := by decide +kernel
theorem dX5_leastWeight_5 : decode cX5_leastWeight 5 = .ok (.if_icmp .ne 9, 3) := by decide +kernel
theorem dX5_leastWeight_8 : decode cX5_leastWeight 8 = .ok (.ldc2_w 56, 3) := by decide +kernel
theorem dX5_leastWeight_11 : decode cX5_leastWeight 11 = .ok (.goto 12, 3) := by decide +kernel
theorem dX5_leastWeight_14 : decode cX5_leastWeight 14 = .ok (.aload_n 0, 1) := by decide +kernel
theorem dX5_leastWeight_15 : decode cX5_leastWeight 15 = .ok (.getfield 15, 3) := by decide +kernel
theorem dX5_leastWeight_18 : decode cX5_leastWeight 18 = .ok (.aload_n 0, 1) := by decide +kernel
theorem dX5_leastWeight_19 : decode cX5_leastWeight 19 = .ok (.getfield 38, 3) := by decide +kernel
theorem dX5_leastWeight_22 : decode cX5_leastWeight 22 = .ok (.laload, 1) := by decide +kernel
theorem dX5_leastWeight_23 : decode cX5_leastWeight 23 = .ok (.lreturn, 1) := by decide +kernel
def J_X5_leastWeight_23 (s0 : Int) (st : z_St) : Option (Int) :=
  some s0
set_option maxRecDepth 100000 in
set_option maxHeartbeats 4000000 in
theorem w_X5_leastWeight_23 {κ : zK} {a : Nat → Nat} {s0 : Int} {st : z_St} {o : Int} (hc : z_C κ RX5 cX5_leastWeight 1 8 0 0) (hap : z_AP κ a z_N) (he : z_E 1 κ (some .long) z_T z_N a o st) (h : J_X5_leastWeight_23 s0 st = some o) : z_V κ z_T z_N a 0 0 23 [] [.long (zJ s0)] st := by
  unfold J_X5_leastWeight_23 at h
  have h := Option.some.inj h
  subst h
  exact z_retJ hc he dX5_leastWeight_23
def J_X5_leastWeight (st : z_St) : Option (Int) :=
  z_g (z32 (st 134 8) ∧ z32 (-1)) (if st 134 8 = (-1) then
    J_X5_leastWeight_23 1152921504606846976 st
  else
    z_g (0 ≤ st 134 8 ∧ st 134 8 < 780) <|
    J_X5_leastWeight_23 (st 136 (st 134 8)) st)
set_option maxRecDepth 100000 in
set_option maxHeartbeats 4000000 in
theorem w_X5_leastWeight {κ : zK} {a : Nat → Nat} {st : z_St} {o : Int} (hc : z_C κ RX5 cX5_leastWeight 1 8 0 0) (hap : z_AP κ a z_N) (he : z_E 1 κ (some .long) z_T z_N a o st) (h : J_X5_leastWeight st = some o) : z_V κ z_T z_N a 0 0 0 [(0, .ref (a 134))] [] st := by
  unfold J_X5_leastWeight at h
  refine z_aload_n (i := 0) 0 hc dX5_leastWeight_0 rfl rfl ?_
  refine z_getI (kI := 134) (jI := 8) hc fl_RX5_38 tT_134 (by decide) rfl rfl rfl dX5_leastWeight_1 ?_
  refine z_iconst hc dX5_leastWeight_4 ?_
  refine z_icmp_ne (tgt := 14) hc dX5_leastWeight_5 (by decide) h (fun c5 h => ?_) (fun c5 h => ?_)
  · refine z_ldc2 1152921504606846976 hc kc_RX5_56 dX5_leastWeight_8 rfl ?_
    refine z_goto (tgt := 23) hc dX5_leastWeight_11 (by decide) ?_
    refine z_sub [] [] rfl ?_
    exact w_X5_leastWeight_23 hc hap he h
  · refine z_aload_n (i := 0) 0 hc dX5_leastWeight_14 rfl rfl ?_
    refine z_getA (k' := 136) hc fl_RX5_15 tT_134 (by decide) rfl rfl dX5_leastWeight_15 ?_
    refine z_aload_n (i := 0) 0 hc dX5_leastWeight_18 rfl rfl ?_
    refine z_getI (kI := 134) (jI := 8) hc fl_RX5_38 tT_134 (by decide) rfl rfl rfl dX5_leastWeight_19 ?_
    refine z_lald (kI := 136) (nI9 := 780) hc tT_136 (by decide) rfl rfl (by decide) dX5_leastWeight_22 h (fun g1 h => ?_)
    refine z_sub [] [] rfl ?_
    exact w_X5_leastWeight_23 hc hap he h
set_option maxRecDepth 100000 in
set_option maxHeartbeats 4000000 in
theorem c_X5_leastWeight {l : Launch} (hl : l.stackTraces = false) {a : Nat → Nat} {st : z_St} {o : Int} (h : J_X5_leastWeight st = some o) : z_M 1 l yX5_leastWeight cX5_leastWeight 1 (some .long) 8 z_T z_N a [.ref (a 134)] st o st := z_of hl (by decide +kernel) (Nat.le_of_ble_eq_true rfl) (fun κ hc hap he => w_X5_leastWeight hc hap he h)
theorem dX5_weightOf_0 : decode cX5_weightOf 0 = .ok (.iconst (-1), 1) := by decide +kernel
theorem dX5_weightOf_1 : decode cX5_weightOf 1 = .ok (.istore_n 2, 1) := by decide +kernel
theorem dX5_weightOf_2 : decode cX5_weightOf 2 = .ok (.sipush 1000, 3) := by decide +kernel
theorem dX5_weightOf_5 : decode cX5_weightOf 5 = .ok (.istore_n 3, 1) := by decide +kernel
theorem dX5_weightOf_6 : decode cX5_weightOf 6 = .ok (.iload_n 3, 1) := by decide +kernel
theorem dX5_weightOf_7 : decode cX5_weightOf 7 = .ok (.ifCond .le 34, 3) := by decide +kernel
theorem dX5_weightOf_10 : decode cX5_weightOf 10 = .ok (.iload_n 1, 1) := by decide +kernel
theorem dX5_weightOf_11 : decode cX5_weightOf 11 = .ok (.iload_n 3, 1) := by decide +kernel
theorem dX5_weightOf_12 : decode cX5_weightOf 12 = .ok (.if_icmp .lt 21, 3) := by decide +kernel
theorem dX5_weightOf_15 : decode cX5_weightOf 15 = .ok (.aload_n 0, 1) := by decide +kernel
theorem dX5_weightOf_16 : decode cX5_weightOf 16 = .ok (.getfield 28, 3) := by decide +kernel
theorem dX5_weightOf_19 : decode cX5_weightOf 19 = .ok (.iload_n 2, 1) := by decide +kernel
theorem dX5_weightOf_20 : decode cX5_weightOf 20 = .ok (.iconst 1, 1) := by decide +kernel
theorem dX5_weightOf_21 : decode cX5_weightOf 21 = .ok (.iadd, 1) := by decide +kernel
theorem dX5_weightOf_22 : decode cX5_weightOf 22 = .ok (.imul, 1) := by decide +kernel
theorem dX5_weightOf_23 : decode cX5_weightOf 23 = .ok (.iload_n 1, 1) := by decide +kernel
theorem dX5_weightOf_24 : decode cX5_weightOf 24 = .ok (.iload_n 3, 1) := by decide +kernel
theorem dX5_weightOf_25 : decode cX5_weightOf 25 = .ok (.idiv, 1) := by decide +kernel
theorem dX5_weightOf_26 : decode cX5_weightOf 26 = .ok (.bipush 10, 2) := by decide +kernel
theorem dX5_weightOf_28 : decode cX5_weightOf 28 = .ok (.irem, 1) := by decide +kernel
theorem dX5_weightOf_29 : decode cX5_weightOf 29 = .ok (.iadd, 1) := by decide +kernel
theorem dX5_weightOf_30 : decode cX5_weightOf 30 = .ok (.iconst 1, 1) := by decide +kernel
theorem dX5_weightOf_31 : decode cX5_weightOf 31 = .ok (.isub, 1) := by decide +kernel
theorem dX5_weightOf_32 : decode cX5_weightOf 32 = .ok (.istore_n 2, 1) := by decide +kernel
theorem dX5_weightOf_33 : decode cX5_weightOf 33 = .ok (.iload_n 3, 1) := by decide +kernel
theorem dX5_weightOf_34 : decode cX5_weightOf 34 = .ok (.bipush 10, 2) := by decide +kernel
theorem dX5_weightOf_36 : decode cX5_weightOf 36 = .ok (.idiv, 1) := by decide +kernel
theorem dX5_weightOf_37 : decode cX5_weightOf 37 = .ok (.istore_n 3, 1) := by decide +kernel
theorem dX5_weightOf_38 : decode cX5_weightOf 38 = .ok (.goto (-32), 3) := by decide +kernel
theorem dX5_weightOf_41 : decode cX5_weightOf 41 = .ok (.iload_n 2, 1) := by decide +kernel
theorem dX5_weightOf_42 : decode cX5_weightOf 42 = .ok (.ifCond .lt 11, 3) := by decide +kernel
theorem dX5_weightOf_45 : decode cX5_weightOf 45 = .ok (.iload_n 2, 1) := by decide +kernel
theorem dX5_weightOf_46 : decode cX5_weightOf 46 = .ok (.aload_n 0, 1) := by decide +kernel
theorem dX5_weightOf_47 : decode cX5_weightOf 47 = .ok (.getfield 32, 3) := by decide +kernel
theorem dX5_weightOf_50 : decode cX5_weightOf 50 = .ok (.if_icmp .lt 9, 3) := by decide +kernel
theorem dX5_weightOf_53 : decode cX5_weightOf 53 = .ok (.ldc2_w 56, 3) := by decide +kernel
theorem dX5_weightOf_56 : decode cX5_weightOf 56 = .ok (.goto 9, 3) := by decide +kernel
theorem dX5_weightOf_59 : decode cX5_weightOf 59 = .ok (.aload_n 0, 1) := by decide +kernel
theorem dX5_weightOf_60 : decode cX5_weightOf 60 = .ok (.getfield 15, 3) := by decide +kernel
theorem dX5_weightOf_63 : decode cX5_weightOf 63 = .ok (.iload_n 2, 1) := by decide +kernel
theorem dX5_weightOf_64 : decode cX5_weightOf 64 = .ok (.laload, 1) := by decide +kernel
theorem dX5_weightOf_65 : decode cX5_weightOf 65 = .ok (.lreturn, 1) := by decide +kernel
def J_X5_weightOf_33 (v1 v2 v3 : Int) (st : z_St) : Option ((Int × Int) ⊕ Int) :=
  z_g (z32 v3 ∧ z32 10 ∧ (10 : Int) ≠ 0) <|
  some (.inl (v2, v3.tdiv 10))
set_option maxRecDepth 100000 in
set_option maxHeartbeats 4000000 in
theorem w_X5_weightOf_33 {κ : zK} {a : Nat → Nat} {v1 v2 v3 : Int} {st : z_St} {mc9 ms9 : Nat} {o : (Int × Int) ⊕ Int} (hc : z_C κ RX5 cX5_weightOf 4 8 mc9 ms9) (hap : z_AP κ a z_N) (k1 : ∀ s9 : (Int × Int), o = .inl s9 → z_V κ z_T z_N a 0 0 6 [(0, .ref (a 134)), (1, .int (zI v1)), (2, .int (zI s9.1)), (3, .int (zI s9.2))] [] st) (k2 : ∀ x9 : Int, o = .inr x9 → z_V κ z_T z_N a 0 0 41 [(0, .ref (a 134)), (2, .int (zI x9))] [] st) (h : J_X5_weightOf_33 v1 v2 v3 st = some o) : z_V κ z_T z_N a 0 0 33 [(0, .ref (a 134)), (1, .int (zI v1)), (2, .int (zI v2)), (3, .int (zI v3))] [] st := by
  unfold J_X5_weightOf_33 at h
  refine z_iload_n (i := 3) 3 hc dX5_weightOf_33 rfl rfl ?_
  refine z_bipush hc dX5_weightOf_34 rfl ?_
  refine z_idiv hc dX5_weightOf_36 h (fun h => ?_)
  refine z_istore_n (i := 3) [(3, .int (zI (v3.tdiv 10))), (0, .ref (a 134)), (1, .int (zI v1)), (2, .int (zI v2))] hc dX5_weightOf_37 rfl (by decide) rfl ?_
  refine z_goto (tgt := 6) hc dX5_weightOf_38 (by decide) ?_
  refine z_sub [(0, .ref (a 134)), (1, .int (zI v1)), (2, .int (zI v2)), (3, .int (zI (v3.tdiv 10)))] [1, 2, 3, 0] rfl ?_
  exact k1 _ (Option.some.inj h).symm
def J_X5_weightOf_b6 (v1 v2 v3 : Int) (st : z_St) : Option ((Int × Int) ⊕ Int) :=
  z_g (z32 v3) (if 0 < v3 then
    z_g (z32 v1 ∧ z32 v3) (if v1 < v3 then
      J_X5_weightOf_33 v1 v2 v3 st
    else
      z_g (z32 v1 ∧ z32 v3 ∧ (v3 : Int) ≠ 0) <|
      z_g (z32 (v1.tdiv v3) ∧ z32 10 ∧ (10 : Int) ≠ 0) <|
      J_X5_weightOf_33 v1 ((((st 134 5) * (v2 + 1)) + ((v1.tdiv v3).tmod 10)) - 1) v3 st)
  else
    some (.inr v2))
set_option maxRecDepth 100000 in
set_option maxHeartbeats 4000000 in
theorem w_X5_weightOf_b6 {κ : zK} {a : Nat → Nat} {v1 v2 v3 : Int} {st : z_St} {mc9 ms9 : Nat} {o : (Int × Int) ⊕ Int} (hc : z_C κ RX5 cX5_weightOf 4 8 mc9 ms9) (hap : z_AP κ a z_N) (k1 : ∀ s9 : (Int × Int), o = .inl s9 → z_V κ z_T z_N a 0 0 6 [(0, .ref (a 134)), (1, .int (zI v1)), (2, .int (zI s9.1)), (3, .int (zI s9.2))] [] st) (k2 : ∀ x9 : Int, o = .inr x9 → z_V κ z_T z_N a 0 0 41 [(0, .ref (a 134)), (2, .int (zI x9))] [] st) (h : J_X5_weightOf_b6 v1 v2 v3 st = some o) : z_V κ z_T z_N a 0 0 6 [(0, .ref (a 134)), (1, .int (zI v1)), (2, .int (zI v2)), (3, .int (zI v3))] [] st := by
  unfold J_X5_weightOf_b6 at h
  refine z_iload_n (i := 3) 3 hc dX5_weightOf_6 rfl rfl ?_
  refine z_if_le (tgt := 41) hc dX5_weightOf_7 (by decide) h (fun c7 h => ?_) (fun c7 h => ?_)
  · refine z_iload_n (i := 1) 1 hc dX5_weightOf_10 rfl rfl ?_
    refine z_iload_n (i := 3) 3 hc dX5_weightOf_11 rfl rfl ?_
    refine z_icmp_lt (tgt := 33) hc dX5_weightOf_12 (by decide) h (fun c12 h => ?_) (fun c12 h => ?_)
    · refine z_sub [(0, .ref (a 134)), (1, .int (zI v1)), (2, .int (zI v2)), (3, .int (zI v3))] [0, 1, 2, 3] rfl ?_
      exact w_X5_weightOf_33 hc hap k1 k2 h
    · refine z_aload_n (i := 0) 0 hc dX5_weightOf_15 rfl rfl ?_
      refine z_getI (kI := 134) (jI := 5) hc fl_RX5_28 tT_134 (by decide) rfl rfl rfl dX5_weightOf_16 ?_
      refine z_iload_n (i := 2) 2 hc dX5_weightOf_19 rfl rfl ?_
      refine z_iconst hc dX5_weightOf_20 ?_
      refine z_iadd hc dX5_weightOf_21 ?_
      refine z_imul hc dX5_weightOf_22 ?_
      refine z_iload_n (i := 1) 1 hc dX5_weightOf_23 rfl rfl ?_
      refine z_iload_n (i := 3) 3 hc dX5_weightOf_24 rfl rfl ?_
      refine z_idiv hc dX5_weightOf_25 h (fun h => ?_)
      refine z_bipush hc dX5_weightOf_26 rfl ?_
      refine z_irem hc dX5_weightOf_28 h (fun h => ?_)
      refine z_iadd hc dX5_weightOf_29 ?_
      refine z_iconst hc dX5_weightOf_30 ?_
      refine z_isub hc dX5_weightOf_31 ?_
      refine z_istore_n (i := 2) [(2, .int (zI ((((st 134 5) * (v2 + 1)) + ((v1.tdiv v3).tmod 10)) - 1))), (0, .ref (a 134)), (1, .int (zI v1)), (3, .int (zI v3))] hc dX5_weightOf_32 rfl (by decide) rfl ?_
      refine z_sub [(0, .ref (a 134)), (1, .int (zI v1)), (2, .int (zI ((((st 134 5) * (v2 + 1)) + ((v1.tdiv v3).tmod 10)) - 1))), (3, .int (zI v3))] [1, 2, 0, 3] rfl ?_
      exact w_X5_weightOf_33 hc hap k1 k2 h
  · refine z_sub [(0, .ref (a 134)), (2, .int (zI v2))] [0, 2] rfl ?_
    exact k2 v2 (Option.some.inj h).symm
def J_X5_weightOf_65 (s0 : Int) (st : z_St) : Option (Int) :=
  some s0
set_option maxRecDepth 100000 in
set_option maxHeartbeats 4000000 in
theorem w_X5_weightOf_65 {κ : zK} {a : Nat → Nat} {s0 : Int} {st : z_St} {o : Int} (hc : z_C κ RX5 cX5_weightOf 4 8 0 0) (hap : z_AP κ a z_N) (he : z_E 1 κ (some .long) z_T z_N a o st) (h : J_X5_weightOf_65 s0 st = some o) : z_V κ z_T z_N a 0 0 65 [] [.long (zJ s0)] st := by
  unfold J_X5_weightOf_65 at h
  have h := Option.some.inj h
  subst h
  exact z_retJ hc he dX5_weightOf_65
def J_X5_weightOf_53 (st : z_St) : Option (Int) :=
  J_X5_weightOf_65 1152921504606846976 st
set_option maxRecDepth 100000 in
set_option maxHeartbeats 4000000 in
theorem w_X5_weightOf_53 {κ : zK} {a : Nat → Nat} {st : z_St} {o : Int} (hc : z_C κ RX5 cX5_weightOf 4 8 0 0) (hap : z_AP κ a z_N) (he : z_E 1 κ (some .long) z_T z_N a o st) (h : J_X5_weightOf_53 st = some o) : z_V κ z_T z_N a 0 0 53 [] [] st := by
  unfold J_X5_weightOf_53 at h
  refine z_ldc2 1152921504606846976 hc kc_RX5_56 dX5_weightOf_53 rfl ?_
  refine z_goto (tgt := 65) hc dX5_weightOf_56 (by decide) ?_
  refine z_sub [] [] rfl ?_
  exact w_X5_weightOf_65 hc hap he h
def J_X5_weightOf (x1 : Int) (st : z_St) : Option (Int) :=
  z_b (z_iter z_F (fun q9 : (Int × Int) => J_X5_weightOf_b6 x1 q9.1 q9.2 st) ((-1), 1000)) fun lx1 =>
    z_g (z32 lx1) (if lx1 < 0 then
      J_X5_weightOf_53 st
    else
      z_g (z32 lx1 ∧ z32 (st 134 6)) (if lx1 < st 134 6 then
        z_g (0 ≤ lx1 ∧ lx1 < 780) <|
        J_X5_weightOf_65 (st 136 lx1) st
      else
        J_X5_weightOf_53 st))
set_option maxRecDepth 100000 in
set_option maxHeartbeats 4000000 in
theorem w_X5_weightOf {κ : zK} {a : Nat → Nat} {x1 : Int} {st : z_St} {o : Int} (hc : z_C κ RX5 cX5_weightOf 4 8 0 0) (hap : z_AP κ a z_N) (he : z_E 1 κ (some .long) z_T z_N a o st) (h : J_X5_weightOf x1 st = some o) : z_V κ z_T z_N a 0 0 0 [(0, .ref (a 134)), (1, .int (zI x1))] [] st := by
  unfold J_X5_weightOf at h
  refine z_iconst hc dX5_weightOf_0 ?_
  refine z_istore_n (i := 2) [(2, .int (zI (-1))), (0, .ref (a 134)), (1, .int (zI x1))] hc dX5_weightOf_1 rfl (by decide) rfl ?_
  refine z_sipush hc dX5_weightOf_2 rfl ?_
  refine z_istore_n (i := 3) [(3, .int (zI 1000)), (2, .int (zI (-1))), (0, .ref (a 134)), (1, .int (zI x1))] hc dX5_weightOf_5 rfl (by decide) rfl ?_
  obtain ⟨lx1, hlx1, h⟩ := z_b_some h
  refine z_sub [(0, .ref (a 134)), (1, .int (zI x1)), (2, .int (zI (-1))), (3, .int (zI 1000))] [2, 3, 1, 0] rfl ?_
  refine z_loop (fun q9 : (Int × Int) => J_X5_weightOf_b6 x1 q9.1 q9.2 st) (fun q9 : (Int × Int) => z_V κ z_T z_N a 0 0 6 [(0, .ref (a 134)), (1, .int (zI x1)), (2, .int (zI q9.1)), (3, .int (zI q9.2))] [] st) (fun x9 : Int => z_V κ z_T z_N a 0 0 41 [(0, .ref (a 134)), (2, .int (zI x9))] [] st) (fun q9 o9 hb k1 k2 => ?_) _ _ _ hlx1 ?_
  · exact w_X5_weightOf_b6 hc hap k1 k2 hb
  · show z_V κ z_T z_N a 0 0 41 [(0, .ref (a 134)), (2, .int (zI lx1))] [] st
    refine z_iload_n (i := 2) 1 hc dX5_weightOf_41 rfl rfl ?_
    refine z_if_lt (tgt := 53) hc dX5_weightOf_42 (by decide) h (fun c42 h => ?_) (fun c42 h => ?_)
    · refine z_sub [] [] rfl ?_
      exact w_X5_weightOf_53 hc hap he h
    · refine z_iload_n (i := 2) 1 hc dX5_weightOf_45 rfl rfl ?_
      refine z_aload_n (i := 0) 0 hc dX5_weightOf_46 rfl rfl ?_
      refine z_getI (kI := 134) (jI := 6) hc fl_RX5_32 tT_134 (by decide) rfl rfl rfl dX5_weightOf_47 ?_
      refine z_icmp_lt (tgt := 59) hc dX5_weightOf_50 (by decide) h (fun c50 h => ?_) (fun c50 h => ?_)
      · refine z_aload_n (i := 0) 0 hc dX5_weightOf_59 rfl rfl ?_
        refine z_getA (k' := 136) hc fl_RX5_15 tT_134 (by decide) rfl rfl dX5_weightOf_60 ?_
        refine z_iload_n (i := 2) 1 hc dX5_weightOf_63 rfl rfl ?_
        refine z_lald (kI := 136) (nI9 := 780) hc tT_136 (by decide) rfl rfl (by decide) dX5_weightOf_64 h (fun g2 h => ?_)
        refine z_sub [] [] rfl ?_
        exact w_X5_weightOf_65 hc hap he h
      · refine z_sub [] [] rfl ?_
        exact w_X5_weightOf_53 hc hap he h
set_option maxRecDepth 100000 in
set_option maxHeartbeats 4000000 in
theorem c_X5_weightOf {l : Launch} (hl : l.stackTraces = false) {a : Nat → Nat} {x1 : Int} {st : z_St} {o : Int} (h : J_X5_weightOf x1 st = some o) : z_M 1 l yX5_weightOf cX5_weightOf 4 (some .long) 8 z_T z_N a [.ref (a 134), .int (zI x1)] st o st := z_of hl (by decide +kernel) (Nat.le_of_ble_eq_true rfl) (fun κ hc hap he => w_X5_weightOf hc hap he h)
theorem dX5_merge_0 : decode cX5_merge 0 = .ok (.iload_n 1, 1) := by decide +kernel
theorem dX5_merge_1 : decode cX5_merge 1 = .ok (.istore 4, 2) := by decide +kernel
theorem dX5_merge_3 : decode cX5_merge 3 = .ok (.iload_n 2, 1) := by decide +kernel
theorem dX5_merge_4 : decode cX5_merge 4 = .ok (.istore 5, 2) := by decide +kernel
theorem dX5_merge_6 : decode cX5_merge 6 = .ok (.iload_n 1, 1) := by decide +kernel
theorem dX5_merge_7 : decode cX5_merge 7 = .ok (.istore 6, 2) := by decide +kernel
theorem dX5_merge_9 : decode cX5_merge 9 = .ok (.iload 6, 2) := by decide +kernel
theorem dX5_merge_11 : decode cX5_merge 11 = .ok (.iload_n 3, 1) := by decide +kernel
theorem dX5_merge_12 : decode cX5_merge 12 = .ok (.if_icmp .ge 99, 3) := by decide +kernel
theorem dX5_merge_15 : decode cX5_merge 15 = .ok (.iload 4, 2) := by decide +kernel
theorem dX5_merge_17 : decode cX5_merge 17 = .ok (.iload_n 2, 1) := by decide +kernel
theorem dX5_merge_18 : decode cX5_merge 18 = .ok (.if_icmp .ge 41, 3) := by decide +kernel
theorem dX5_merge_21 : decode cX5_merge 21 = .ok (.iload 5, 2) := by decide +kernel
theorem dX5_merge_23 : decode cX5_merge 23 = .ok (.iload_n 3, 1) := by decide +kernel
theorem dX5_merge_24 : decode cX5_merge 24 = .ok (.if_icmp .ge 31, 3) := by decide +kernel
theorem dX5_merge_27 : decode cX5_merge 27 = .ok (.aload_n 0, 1) := by decide +kernel
theorem dX5_merge_28 : decode cX5_merge 28 = .ok (.getfield 15, 3) := by decide +kernel
theorem dX5_merge_31 : decode cX5_merge 31 = .ok (.aload_n 0, 1) := by decide +kernel
theorem dX5_merge_32 : decode cX5_merge 32 = .ok (.getfield 22, 3) := by decide +kernel
theorem dX5_merge_35 : decode cX5_merge 35 = .ok (.iload 4, 2) := by decide +kernel
theorem dX5_merge_37 : decode cX5_merge 37 = .ok (.iaload, 1) := by decide +kernel
theorem dX5_merge_38 : decode cX5_merge 38 = .ok (.laload, 1) := by decide +kernel
theorem dX5_merge_39 : decode cX5_merge 39 = .ok (.aload_n 0, 1) := by decide +kernel
theorem dX5_merge_40 : decode cX5_merge 40 = .ok (.getfield 15, 3) := by decide +kernel
theorem dX5_merge_43 : decode cX5_merge 43 = .ok (.aload_n 0, 1) := by decide +kernel
theorem dX5_merge_44 : decode cX5_merge 44 = .ok (.getfield 22, 3) := by decide +kernel
theorem dX5_merge_47 : decode cX5_merge 47 = .ok (.iload 5, 2) := by decide +kernel
theorem dX5_merge_49 : decode cX5_merge 49 = .ok (.iaload, 1) := by decide +kernel
theorem dX5_merge_50 : decode cX5_merge 50 = .ok (.laload, 1) := by decide +kernel
theorem dX5_merge_51 : decode cX5_merge 51 = .ok (.lcmp, 1) := by decide +kernel
theorem dX5_merge_52 : decode cX5_merge 52 = .ok (.ifCond .gt 7, 3) := by decide +kernel
theorem dX5_merge_55 : decode cX5_merge 55 = .ok (.iconst 1, 1) := by decide +kernel
theorem dX5_merge_56 : decode cX5_merge 56 = .ok (.goto 4, 3) := by decide +kernel
theorem dX5_merge_59 : decode cX5_merge 59 = .ok (.iconst 0, 1) := by decide +kernel
theorem dX5_merge_60 : decode cX5_merge 60 = .ok (.istore 7, 2) := by decide +kernel
theorem dX5_merge_62 : decode cX5_merge 62 = .ok (.aload_n 0, 1) := by decide +kernel
theorem dX5_merge_63 : decode cX5_merge 63 = .ok (.getfield 25, 3) := by decide +kernel
theorem dX5_merge_66 : decode cX5_merge 66 = .ok (.iload 6, 2) := by decide +kernel
theorem dX5_merge_68 : decode cX5_merge 68 = .ok (.iload 7, 2) := by decide +kernel
theorem dX5_merge_70 : decode cX5_merge 70 = .ok (.ifCond .eq 13, 3) := by decide +kernel
theorem dX5_merge_73 : decode cX5_merge 73 = .ok (.aload_n 0, 1) := by decide +kernel
theorem dX5_merge_74 : decode cX5_merge 74 = .ok (.getfield 22, 3) := by decide +kernel
theorem dX5_merge_77 : decode cX5_merge 77 = .ok (.iload 4, 2) := by decide +kernel
theorem dX5_merge_79 : decode cX5_merge 79 = .ok (.iaload, 1) := by decide +kernel
theorem dX5_merge_80 : decode cX5_merge 80 = .ok (.goto 10, 3) := by decide +kernel
theorem dX5_merge_83 : decode cX5_merge 83 = .ok (.aload_n 0, 1) := by decide +kernel
theorem dX5_merge_84 : decode cX5_merge 84 = .ok (.getfield 22, 3) := by decide +kernel
theorem dX5_merge_87 : decode cX5_merge 87 = .ok (.iload 5, 2) := by decide +kernel
theorem dX5_merge_89 : decode cX5_merge 89 = .ok (.iaload, 1) := by decide +kernel
theorem dX5_merge_90 : decode cX5_merge 90 = .ok (.iastore, 1) := by decide +kernel
theorem dX5_merge_91 : decode cX5_merge 91 = .ok (.iload 7, 2) := by decide +kernel
theorem dX5_merge_93 : decode cX5_merge 93 = .ok (.ifCond .eq 9, 3) := by decide +kernel
theorem dX5_merge_96 : decode cX5_merge 96 = .ok (.iinc 4 1, 3) := by decide +kernel
theorem dX5_merge_99 : decode cX5_merge 99 = .ok (.goto 6, 3) := by decide +kernel
theorem dX5_merge_102 : decode cX5_merge 102 = .ok (.iinc 5 1, 3) := by decide +kernel
theorem dX5_merge_105 : decode cX5_merge 105 = .ok (.iinc 6 1, 3) := by decide +kernel
theorem dX5_merge_108 : decode cX5_merge 108 = .ok (.goto (-99), 3) := by decide +kernel
theorem dX5_merge_111 : decode cX5_merge 111 = .ok (.return_, 1) := by decide +kernel
def J_X5_merge_105 (v2 v3 v4 v5 v6 : Int) (st : z_St) : Option ((Int × Int × Int × z_St) ⊕ z_St) :=
  some (.inl (v4, v5, v6 + 1, st))
set_option maxRecDepth 100000 in
set_option maxHeartbeats 4000000 in
theorem w_X5_merge_105 {κ : zK} {a : Nat → Nat} {v2 v3 v4 v5 v6 : Int} {st : z_St} {mc9 ms9 : Nat} {o : (Int × Int × Int × z_St) ⊕ z_St} (hc : z_C κ RX5 cX5_merge 8 8 mc9 ms9) (hap : z_AP κ a z_N) (k1 : ∀ s9 : (Int × Int × Int × z_St), o = .inl s9 → z_V κ z_T z_N a 0 0 9 [(0, .ref (a 134)), (2, .int (zI v2)), (3, .int (zI v3)), (4, .int (zI s9.1)), (5, .int (zI s9.2.1)), (6, .int (zI s9.2.2.1))] [] s9.2.2.2) (k2 : ∀ x9 : z_St, o = .inr x9 → z_V κ z_T z_N a 0 0 111 [] [] x9) (h : J_X5_merge_105 v2 v3 v4 v5 v6 st = some o) : z_V κ z_T z_N a 0 0 105 [(0, .ref (a 134)), (2, .int (zI v2)), (3, .int (zI v3)), (4, .int (zI v4)), (5, .int (zI v5)), (6, .int (zI v6))] [] st := by
  unfold J_X5_merge_105 at h
  refine z_iinc [(6, .int (zI (v6 + 1))), (0, .ref (a 134)), (2, .int (zI v2)), (3, .int (zI v3)), (4, .int (zI v4)), (5, .int (zI v5))] 5 hc dX5_merge_105 rfl (by decide) rfl ?_
  refine z_goto (tgt := 9) hc dX5_merge_108 (by decide) ?_
  refine z_sub [(0, .ref (a 134)), (2, .int (zI v2)), (3, .int (zI v3)), (4, .int (zI v4)), (5, .int (zI v5)), (6, .int (zI (v6 + 1)))] [1, 2, 3, 4, 5, 0] rfl ?_
  exact k1 _ (Option.some.inj h).symm
def J_X5_merge_90 (v2 v3 v4 v5 v6 v7 s0 s1 s2 : Int) (st : z_St) : Option ((Int × Int × Int × z_St) ⊕ z_St) :=
  z_g (0 ≤ s1 ∧ s1 < 780) <|
  z_let (z_up st s2 s1 s0) fun st10 =>
  z_g (z32 v7) (if v7 = 0 then
    J_X5_merge_105 v2 v3 v4 (v5 + 1) v6 st10
  else
    J_X5_merge_105 v2 v3 (v4 + 1) v5 v6 st10)
set_option maxRecDepth 100000 in
set_option maxHeartbeats 4000000 in
theorem w_X5_merge_90 {κ : zK} {a : Nat → Nat} {v2 v3 v4 v5 v6 v7 s0 s1 s2 : Int} {st : z_St} {mc9 ms9 : Nat} {o : (Int × Int × Int × z_St) ⊕ z_St} (hc : z_C κ RX5 cX5_merge 8 8 mc9 ms9) (hap : z_AP κ a z_N) (hs2 : s2 = 138 ∨ s2 = 139) (k1 : ∀ s9 : (Int × Int × Int × z_St), o = .inl s9 → z_V κ z_T z_N a 0 0 9 [(0, .ref (a 134)), (2, .int (zI v2)), (3, .int (zI v3)), (4, .int (zI s9.1)), (5, .int (zI s9.2.1)), (6, .int (zI s9.2.2.1))] [] s9.2.2.2) (k2 : ∀ x9 : z_St, o = .inr x9 → z_V κ z_T z_N a 0 0 111 [] [] x9) (h : J_X5_merge_90 v2 v3 v4 v5 v6 v7 s0 s1 s2 st = some o) : z_V κ z_T z_N a 0 0 90 [(0, .ref (a 134)), (2, .int (zI v2)), (3, .int (zI v3)), (4, .int (zI v4)), (5, .int (zI v5)), (6, .int (zI v6)), (7, .int (zI v7))] [.int (zI s0), .int (zI s1), .ref (a s2.toNat)] st := by
  unfold J_X5_merge_90 at h
  refine z_iast (kI := s2) (nI9 := 780) hc hap (z_ord_T hs2) (z_ord_lt hs2) (z_ord_c hs2) rfl (by decide) dX5_merge_90 h (fun st10 h => ?_)
  refine z_iload 6 hc dX5_merge_91 rfl ?_
  refine z_if_eq (tgt := 102) hc dX5_merge_93 (by decide) h (fun c93 h => ?_) (fun c93 h => ?_)
  · refine z_iinc [(5, .int (zI (v5 + 1))), (0, .ref (a 134)), (2, .int (zI v2)), (3, .int (zI v3)), (4, .int (zI v4)), (6, .int (zI v6)), (7, .int (zI v7))] 4 hc dX5_merge_102 rfl (by decide) rfl ?_
    refine z_sub [(0, .ref (a 134)), (2, .int (zI v2)), (3, .int (zI v3)), (4, .int (zI v4)), (5, .int (zI (v5 + 1))), (6, .int (zI v6))] [1, 2, 3, 4, 0, 5] rfl ?_
    exact w_X5_merge_105 hc hap k1 k2 h
  · refine z_iinc [(4, .int (zI (v4 + 1))), (0, .ref (a 134)), (2, .int (zI v2)), (3, .int (zI v3)), (5, .int (zI v5)), (6, .int (zI v6)), (7, .int (zI v7))] 3 hc dX5_merge_96 rfl (by decide) rfl ?_
    refine z_goto (tgt := 105) hc dX5_merge_99 (by decide) ?_
    refine z_sub [(0, .ref (a 134)), (2, .int (zI v2)), (3, .int (zI v3)), (4, .int (zI (v4 + 1))), (5, .int (zI v5)), (6, .int (zI v6))] [1, 2, 3, 0, 4, 5] rfl ?_
    exact w_X5_merge_105 hc hap k1 k2 h
def J_X5_merge_60 (v2 v3 v4 v5 v6 s0 : Int) (st : z_St) : Option ((Int × Int × Int × z_St) ⊕ z_St) :=
  z_g ((st 134 4) = 138 ∨ (st 134 4) = 139) <|
  z_g (z32 s0) (if s0 = 0 then
    z_g ((st 134 3) = 138 ∨ (st 134 3) = 139) <|
    z_g (0 ≤ v5 ∧ v5 < 780) <|
    J_X5_merge_90 v2 v3 v4 v5 v6 s0 (st (st 134 3) v5) v6 (st 134 4) st
  else
    z_g ((st 134 3) = 138 ∨ (st 134 3) = 139) <|
    z_g (0 ≤ v4 ∧ v4 < 780) <|
    J_X5_merge_90 v2 v3 v4 v5 v6 s0 (st (st 134 3) v4) v6 (st 134 4) st)
set_option maxRecDepth 100000 in
set_option maxHeartbeats 4000000 in
theorem w_X5_merge_60 {κ : zK} {a : Nat → Nat} {v2 v3 v4 v5 v6 s0 : Int} {st : z_St} {mc9 ms9 : Nat} {o : (Int × Int × Int × z_St) ⊕ z_St} (hc : z_C κ RX5 cX5_merge 8 8 mc9 ms9) (hap : z_AP κ a z_N) (k1 : ∀ s9 : (Int × Int × Int × z_St), o = .inl s9 → z_V κ z_T z_N a 0 0 9 [(0, .ref (a 134)), (2, .int (zI v2)), (3, .int (zI v3)), (4, .int (zI s9.1)), (5, .int (zI s9.2.1)), (6, .int (zI s9.2.2.1))] [] s9.2.2.2) (k2 : ∀ x9 : z_St, o = .inr x9 → z_V κ z_T z_N a 0 0 111 [] [] x9) (h : J_X5_merge_60 v2 v3 v4 v5 v6 s0 st = some o) : z_V κ z_T z_N a 0 0 60 [(0, .ref (a 134)), (2, .int (zI v2)), (3, .int (zI v3)), (4, .int (zI v4)), (5, .int (zI v5)), (6, .int (zI v6))] [.int (zI s0)] st := by
  unfold J_X5_merge_60 at h
  refine z_istore [(7, .int (zI s0)), (0, .ref (a 134)), (2, .int (zI v2)), (3, .int (zI v3)), (4, .int (zI v4)), (5, .int (zI v5)), (6, .int (zI v6))] hc dX5_merge_60 (by decide) rfl ?_
  refine z_aload_n (i := 0) 1 hc dX5_merge_62 rfl rfl ?_
  refine z_getV (u := 138) (v := 139) (kI := 134) (jI := 4) hc fl_RX5_25 tT_134 (by decide) rfl rfl rfl (by decide) dX5_merge_63 h (fun g7 h => ?_)
  refine z_iload 6 hc dX5_merge_66 rfl ?_
  refine z_iload 0 hc dX5_merge_68 rfl ?_
  refine z_if_eq (tgt := 83) hc dX5_merge_70 (by decide) h (fun c70 h => ?_) (fun c70 h => ?_)
  · refine z_aload_n (i := 0) 1 hc dX5_merge_83 rfl rfl ?_
    refine z_getV (u := 138) (v := 139) (kI := 134) (jI := 3) hc fl_RX5_22 tT_134 (by decide) rfl rfl rfl (by decide) dX5_merge_84 h (fun g8 h => ?_)
    refine z_iload 5 hc dX5_merge_87 rfl ?_
    refine z_iald (kI := (st 134 3)) (nI9 := 780) hc (z_ord_T g8) (z_ord_lt g8) (z_ord_c g8) rfl (by decide) dX5_merge_89 h (fun g9 h => ?_)
    refine z_sub [(0, .ref (a 134)), (2, .int (zI v2)), (3, .int (zI v3)), (4, .int (zI v4)), (5, .int (zI v5)), (6, .int (zI v6)), (7, .int (zI s0))] [1, 2, 3, 4, 5, 6, 0] rfl ?_
    exact w_X5_merge_90 hc hap g7 k1 k2 h
  · refine z_aload_n (i := 0) 1 hc dX5_merge_73 rfl rfl ?_
    refine z_getV (u := 138) (v := 139) (kI := 134) (jI := 3) hc fl_RX5_22 tT_134 (by decide) rfl rfl rfl (by decide) dX5_merge_74 h (fun g11 h => ?_)
    refine z_iload 4 hc dX5_merge_77 rfl ?_
    refine z_iald (kI := (st 134 3)) (nI9 := 780) hc (z_ord_T g11) (z_ord_lt g11) (z_ord_c g11) rfl (by decide) dX5_merge_79 h (fun g12 h => ?_)
    refine z_goto (tgt := 90) hc dX5_merge_80 (by decide) ?_
    refine z_sub [(0, .ref (a 134)), (2, .int (zI v2)), (3, .int (zI v3)), (4, .int (zI v4)), (5, .int (zI v5)), (6, .int (zI v6)), (7, .int (zI s0))] [1, 2, 3, 4, 5, 6, 0] rfl ?_
    exact w_X5_merge_90 hc hap g7 k1 k2 h
def J_X5_merge_59 (v2 v3 v4 v5 v6 : Int) (st : z_St) : Option ((Int × Int × Int × z_St) ⊕ z_St) :=
  J_X5_merge_60 v2 v3 v4 v5 v6 0 st
set_option maxRecDepth 100000 in
set_option maxHeartbeats 4000000 in
theorem w_X5_merge_59 {κ : zK} {a : Nat → Nat} {v2 v3 v4 v5 v6 : Int} {st : z_St} {mc9 ms9 : Nat} {o : (Int × Int × Int × z_St) ⊕ z_St} (hc : z_C κ RX5 cX5_merge 8 8 mc9 ms9) (hap : z_AP κ a z_N) (k1 : ∀ s9 : (Int × Int × Int × z_St), o = .inl s9 → z_V κ z_T z_N a 0 0 9 [(0, .ref (a 134)), (2, .int (zI v2)), (3, .int (zI v3)), (4, .int (zI s9.1)), (5, .int (zI s9.2.1)), (6, .int (zI s9.2.2.1))] [] s9.2.2.2) (k2 : ∀ x9 : z_St, o = .inr x9 → z_V κ z_T z_N a 0 0 111 [] [] x9) (h : J_X5_merge_59 v2 v3 v4 v5 v6 st = some o) : z_V κ z_T z_N a 0 0 59 [(0, .ref (a 134)), (2, .int (zI v2)), (3, .int (zI v3)), (4, .int (zI v4)), (5, .int (zI v5)), (6, .int (zI v6))] [] st := by
  unfold J_X5_merge_59 at h
  refine z_iconst hc dX5_merge_59 ?_
  refine z_sub [(0, .ref (a 134)), (2, .int (zI v2)), (3, .int (zI v3)), (4, .int (zI v4)), (5, .int (zI v5)), (6, .int (zI v6))] [0, 1, 2, 3, 4, 5] rfl ?_
  exact w_X5_merge_60 hc hap k1 k2 h
def J_X5_merge_55 (v2 v3 v4 v5 v6 : Int) (st : z_St) : Option ((Int × Int × Int × z_St) ⊕ z_St) :=
  J_X5_merge_60 v2 v3 v4 v5 v6 1 st
set_option maxRecDepth 100000 in
set_option maxHeartbeats 4000000 in
theorem w_X5_merge_55 {κ : zK} {a : Nat → Nat} {v2 v3 v4 v5 v6 : Int} {st : z_St} {mc9 ms9 : Nat} {o : (Int × Int × Int × z_St) ⊕ z_St} (hc : z_C κ RX5 cX5_merge 8 8 mc9 ms9) (hap : z_AP κ a z_N) (k1 : ∀ s9 : (Int × Int × Int × z_St), o = .inl s9 → z_V κ z_T z_N a 0 0 9 [(0, .ref (a 134)), (2, .int (zI v2)), (3, .int (zI v3)), (4, .int (zI s9.1)), (5, .int (zI s9.2.1)), (6, .int (zI s9.2.2.1))] [] s9.2.2.2) (k2 : ∀ x9 : z_St, o = .inr x9 → z_V κ z_T z_N a 0 0 111 [] [] x9) (h : J_X5_merge_55 v2 v3 v4 v5 v6 st = some o) : z_V κ z_T z_N a 0 0 55 [(0, .ref (a 134)), (2, .int (zI v2)), (3, .int (zI v3)), (4, .int (zI v4)), (5, .int (zI v5)), (6, .int (zI v6))] [] st := by
  unfold J_X5_merge_55 at h
  refine z_iconst hc dX5_merge_55 ?_
  refine z_goto (tgt := 60) hc dX5_merge_56 (by decide) ?_
  refine z_sub [(0, .ref (a 134)), (2, .int (zI v2)), (3, .int (zI v3)), (4, .int (zI v4)), (5, .int (zI v5)), (6, .int (zI v6))] [0, 1, 2, 3, 4, 5] rfl ?_
  exact w_X5_merge_60 hc hap k1 k2 h
def J_X5_merge_b9 (v2 v3 v4 v5 v6 : Int) (st : z_St) : Option ((Int × Int × Int × z_St) ⊕ z_St) :=
  z_g (z32 v6 ∧ z32 v3) (if v6 < v3 then
    z_g (z32 v4 ∧ z32 v2) (if v4 < v2 then
      z_g (z32 v5 ∧ z32 v3) (if v5 < v3 then
        z_g ((st 134 3) = 138 ∨ (st 134 3) = 139) <|
        z_g (0 ≤ v4 ∧ v4 < 780) <|
        z_g (0 ≤ st (st 134 3) v4 ∧ st (st 134 3) v4 < 780) <|
        z_g ((st 134 3) = 138 ∨ (st 134 3) = 139) <|
        z_g (0 ≤ v5 ∧ v5 < 780) <|
        z_g (0 ≤ st (st 134 3) v5 ∧ st (st 134 3) v5 < 780) <|
        z_g (z64 (st 136 (st (st 134 3) v4)) ∧ z64 (st 136 (st (st 134 3) v5))) (if st 136 (st (st 134 3) v5) < st 136 (st (st 134 3) v4) then
          J_X5_merge_59 v2 v3 v4 v5 v6 st
        else
          J_X5_merge_55 v2 v3 v4 v5 v6 st)
      else
        J_X5_merge_55 v2 v3 v4 v5 v6 st)
    else
      J_X5_merge_59 v2 v3 v4 v5 v6 st)
  else
    some (.inr st))
set_option maxRecDepth 100000 in
set_option maxHeartbeats 4000000 in
theorem w_X5_merge_b9 {κ : zK} {a : Nat → Nat} {v2 v3 v4 v5 v6 : Int} {st : z_St} {mc9 ms9 : Nat} {o : (Int × Int × Int × z_St) ⊕ z_St} (hc : z_C κ RX5 cX5_merge 8 8 mc9 ms9) (hap : z_AP κ a z_N) (k1 : ∀ s9 : (Int × Int × Int × z_St), o = .inl s9 → z_V κ z_T z_N a 0 0 9 [(0, .ref (a 134)), (2, .int (zI v2)), (3, .int (zI v3)), (4, .int (zI s9.1)), (5, .int (zI s9.2.1)), (6, .int (zI s9.2.2.1))] [] s9.2.2.2) (k2 : ∀ x9 : z_St, o = .inr x9 → z_V κ z_T z_N a 0 0 111 [] [] x9) (h : J_X5_merge_b9 v2 v3 v4 v5 v6 st = some o) : z_V κ z_T z_N a 0 0 9 [(0, .ref (a 134)), (2, .int (zI v2)), (3, .int (zI v3)), (4, .int (zI v4)), (5, .int (zI v5)), (6, .int (zI v6))] [] st := by
  unfold J_X5_merge_b9 at h
  refine z_iload 5 hc dX5_merge_9 rfl ?_
  refine z_iload_n (i := 3) 2 hc dX5_merge_11 rfl rfl ?_
  refine z_icmp_ge (tgt := 111) hc dX5_merge_12 (by decide) h (fun c12 h => ?_) (fun c12 h => ?_)
  · refine z_iload 3 hc dX5_merge_15 rfl ?_
    refine z_iload_n (i := 2) 1 hc dX5_merge_17 rfl rfl ?_
    refine z_icmp_ge (tgt := 59) hc dX5_merge_18 (by decide) h (fun c18 h => ?_) (fun c18 h => ?_)
    · refine z_iload 4 hc dX5_merge_21 rfl ?_
      refine z_iload_n (i := 3) 2 hc dX5_merge_23 rfl rfl ?_
      refine z_icmp_ge (tgt := 55) hc dX5_merge_24 (by decide) h (fun c24 h => ?_) (fun c24 h => ?_)
      · refine z_aload_n (i := 0) 0 hc dX5_merge_27 rfl rfl ?_
        refine z_getA (k' := 136) hc fl_RX5_15 tT_134 (by decide) rfl rfl dX5_merge_28 ?_
        refine z_aload_n (i := 0) 0 hc dX5_merge_31 rfl rfl ?_
        refine z_getV (u := 138) (v := 139) (kI := 134) (jI := 3) hc fl_RX5_22 tT_134 (by decide) rfl rfl rfl (by decide) dX5_merge_32 h (fun g1 h => ?_)
        refine z_iload 3 hc dX5_merge_35 rfl ?_
        refine z_iald (kI := (st 134 3)) (nI9 := 780) hc (z_ord_T g1) (z_ord_lt g1) (z_ord_c g1) rfl (by decide) dX5_merge_37 h (fun g2 h => ?_)
        refine z_lald (kI := 136) (nI9 := 780) hc tT_136 (by decide) rfl rfl (by decide) dX5_merge_38 h (fun g3 h => ?_)
        refine z_aload_n (i := 0) 0 hc dX5_merge_39 rfl rfl ?_
        refine z_getA (k' := 136) hc fl_RX5_15 tT_134 (by decide) rfl rfl dX5_merge_40 ?_
        refine z_aload_n (i := 0) 0 hc dX5_merge_43 rfl rfl ?_
        refine z_getV (u := 138) (v := 139) (kI := 134) (jI := 3) hc fl_RX5_22 tT_134 (by decide) rfl rfl rfl (by decide) dX5_merge_44 h (fun g4 h => ?_)
        refine z_iload 4 hc dX5_merge_47 rfl ?_
        refine z_iald (kI := (st 134 3)) (nI9 := 780) hc (z_ord_T g4) (z_ord_lt g4) (z_ord_c g4) rfl (by decide) dX5_merge_49 h (fun g5 h => ?_)
        refine z_lald (kI := 136) (nI9 := 780) hc tT_136 (by decide) rfl rfl (by decide) dX5_merge_50 h (fun g6 h => ?_)
        refine z_lcmp_gt (tgt := 59) hc dX5_merge_51 dX5_merge_52 (by decide) h (fun c51 h => ?_) (fun c51 h => ?_)
        · refine z_sub [(0, .ref (a 134)), (2, .int (zI v2)), (3, .int (zI v3)), (4, .int (zI v4)), (5, .int (zI v5)), (6, .int (zI v6))] [0, 1, 2, 3, 4, 5] rfl ?_
          exact w_X5_merge_59 hc hap k1 k2 h
        · refine z_sub [(0, .ref (a 134)), (2, .int (zI v2)), (3, .int (zI v3)), (4, .int (zI v4)), (5, .int (zI v5)), (6, .int (zI v6))] [0, 1, 2, 3, 4, 5] rfl ?_
          exact w_X5_merge_55 hc hap k1 k2 h
      · refine z_sub [(0, .ref (a 134)), (2, .int (zI v2)), (3, .int (zI v3)), (4, .int (zI v4)), (5, .int (zI v5)), (6, .int (zI v6))] [0, 1, 2, 3, 4, 5] rfl ?_
        exact w_X5_merge_55 hc hap k1 k2 h
    · refine z_sub [(0, .ref (a 134)), (2, .int (zI v2)), (3, .int (zI v3)), (4, .int (zI v4)), (5, .int (zI v5)), (6, .int (zI v6))] [0, 1, 2, 3, 4, 5] rfl ?_
      exact w_X5_merge_59 hc hap k1 k2 h
  · refine z_sub [] [] rfl ?_
    exact k2 st (Option.some.inj h).symm
def J_X5_merge (x1 x2 x3 : Int) (st : z_St) : Option (z_St) :=
  z_b (z_iter z_F (fun q9 : (Int × Int × Int × z_St) => J_X5_merge_b9 x2 x3 q9.1 q9.2.1 q9.2.2.1 q9.2.2.2) (x1, x2, x1, st)) fun lx13 =>
    some lx13
set_option maxRecDepth 100000 in
set_option maxHeartbeats 4000000 in
theorem w_X5_merge {κ : zK} {a : Nat → Nat} {x1 x2 x3 : Int} {st : z_St} {o : z_St} (hc : z_C κ RX5 cX5_merge 8 8 0 0) (hap : z_AP κ a z_N) (he : z_E 2 κ none z_T z_N a 0 o) (h : J_X5_merge x1 x2 x3 st = some o) : z_V κ z_T z_N a 0 0 0 [(0, .ref (a 134)), (1, .int (zI x1)), (2, .int (zI x2)), (3, .int (zI x3))] [] st := by
  unfold J_X5_merge at h
  refine z_iload_n (i := 1) 1 hc dX5_merge_0 rfl rfl ?_
  refine z_istore [(4, .int (zI x1)), (0, .ref (a 134)), (1, .int (zI x1)), (2, .int (zI x2)), (3, .int (zI x3))] hc dX5_merge_1 (by decide) rfl ?_
  refine z_iload_n (i := 2) 3 hc dX5_merge_3 rfl rfl ?_
  refine z_istore [(5, .int (zI x2)), (4, .int (zI x1)), (0, .ref (a 134)), (1, .int (zI x1)), (2, .int (zI x2)), (3, .int (zI x3))] hc dX5_merge_4 (by decide) rfl ?_
  refine z_iload_n (i := 1) 3 hc dX5_merge_6 rfl rfl ?_
  refine z_istore [(6, .int (zI x1)), (5, .int (zI x2)), (4, .int (zI x1)), (0, .ref (a 134)), (1, .int (zI x1)), (2, .int (zI x2)), (3, .int (zI x3))] hc dX5_merge_7 (by decide) rfl ?_
  obtain ⟨lx13, hlx13, h⟩ := z_b_some h
  refine z_sub [(0, .ref (a 134)), (2, .int (zI x2)), (3, .int (zI x3)), (4, .int (zI x1)), (5, .int (zI x2)), (6, .int (zI x1))] [3, 5, 6, 2, 1, 0] rfl ?_
  refine z_loop (fun q9 : (Int × Int × Int × z_St) => J_X5_merge_b9 x2 x3 q9.1 q9.2.1 q9.2.2.1 q9.2.2.2) (fun q9 : (Int × Int × Int × z_St) => z_V κ z_T z_N a 0 0 9 [(0, .ref (a 134)), (2, .int (zI x2)), (3, .int (zI x3)), (4, .int (zI q9.1)), (5, .int (zI q9.2.1)), (6, .int (zI q9.2.2.1))] [] q9.2.2.2) (fun x9 : z_St => z_V κ z_T z_N a 0 0 111 [] [] x9) (fun q9 o9 hb k1 k2 => ?_) _ _ _ hlx13 ?_
  · exact w_X5_merge_b9 hc hap k1 k2 hb
  · show z_V κ z_T z_N a 0 0 111 [] [] lx13
    have h := Option.some.inj h
    subst h
    exact z_retV hc he dX5_merge_111
set_option maxRecDepth 100000 in
set_option maxHeartbeats 4000000 in
theorem c_X5_merge {l : Launch} (hl : l.stackTraces = false) {a : Nat → Nat} {x1 x2 x3 : Int} {st : z_St} {o : z_St} (h : J_X5_merge x1 x2 x3 st = some o) : z_M 2 l yX5_merge cX5_merge 8 none 8 z_T z_N a [.ref (a 134), .int (zI x1), .int (zI x2), .int (zI x3)] st 0 o := z_of hl (by decide +kernel) (Nat.le_of_ble_eq_true rfl) (fun κ hc hap he => w_X5_merge hc hap he h)
