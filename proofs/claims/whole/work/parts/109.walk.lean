theorem dX12_row5_0 : decode cX12_row5 0 = .ok (.bipush 85, 2) := by decide +kernel
theorem dX12_row5_2 : decode cX12_row5 2 = .ok (.iload_n 1, 1) := by decide +kernel
theorem dX12_row5_3 : decode cX12_row5 3 = .ok (.imul, 1) := by decide +kernel
theorem dX12_row5_4 : decode cX12_row5 4 = .ok (.iconst 5, 1) := by decide +kernel
theorem dX12_row5_5 : decode cX12_row5 5 = .ok (.iload_n 2, 1) := by decide +kernel
theorem dX12_row5_6 : decode cX12_row5 6 = .ok (.imul, 1) := by decide +kernel
theorem dX12_row5_7 : decode cX12_row5 7 = .ok (.iadd, 1) := by decide +kernel
theorem dX12_row5_8 : decode cX12_row5 8 = .ok (.iload_n 3, 1) := by decide +kernel
theorem dX12_row5_9 : decode cX12_row5 9 = .ok (.iadd, 1) := by decide +kernel
theorem dX12_row5_10 : decode cX12_row5 10 = .ok (.ireturn, 1) := by decide +kernel
def J_X12_row5 (x1 x2 x3 : Int) (st : z_St) : Option (Int) :=
  some (((85 * x1) + (5 * x2)) + x3)
set_option maxRecDepth 100000 in
set_option maxHeartbeats 4000000 in
theorem w_X12_row5 {κ : zK} {a : Nat → Nat} {x1 x2 x3 : Int} {st : z_St} {o : Int} (hc : z_C κ RX12 cX12_row5 4 8 0 0) (hap : z_AP κ a z_N) (he : z_E 0 κ (some .int) z_T z_N a o st) (h : J_X12_row5 x1 x2 x3 st = some o) : z_V κ z_T z_N a 0 0 0 [(0, .ref (a 168)), (1, .int (zI x1)), (2, .int (zI x2)), (3, .int (zI x3))] [] st := by
  unfold J_X12_row5 at h
  refine z_bipush hc dX12_row5_0 rfl ?_
  refine z_iload_n (i := 1) 1 hc dX12_row5_2 rfl rfl ?_
  refine z_imul hc dX12_row5_3 ?_
  refine z_iconst hc dX12_row5_4 ?_
  refine z_iload_n (i := 2) 2 hc dX12_row5_5 rfl rfl ?_
  refine z_imul hc dX12_row5_6 ?_
  refine z_iadd hc dX12_row5_7 ?_
  refine z_iload_n (i := 3) 3 hc dX12_row5_8 rfl rfl ?_
  refine z_iadd hc dX12_row5_9 ?_
  have h := Option.some.inj h
  subst h
  exact z_retI hc he dX12_row5_10
set_option maxRecDepth 100000 in
set_option maxHeartbeats 4000000 in
theorem c_X12_row5 {l : Launch} (hl : l.stackTraces = false) {a : Nat → Nat} {x1 x2 x3 : Int} {st : z_St} {o : Int} (h : J_X12_row5 x1 x2 x3 st = some o) : z_M 0 l yX12_row5 cX12_row5 4 (some .int) 8 z_T z_N a [.ref (a 168), .int (zI x1), .int (zI x2), .int (zI x3)] st o st := z_of hl (by decide +kernel) (Nat.le_of_ble_eq_true rfl) (fun κ hc hap he => w_X12_row5 hc hap he h)
theorem dX12_laysBefore_0 : decode cX12_laysBefore 0 = .ok (.iconst 1, 1) := by decide +kernel
theorem dX12_laysBefore_1 : decode cX12_laysBefore 1 = .ok (.istore_n 1, 1) := by decide +kernel
theorem dX12_laysBefore_2 : decode cX12_laysBefore 2 = .ok (.iload_n 1, 1) := by decide +kernel
theorem dX12_laysBefore_3 : decode cX12_laysBefore 3 = .ok (.iconst 4, 1) := by decide +kernel
theorem dX12_laysBefore_4 : decode cX12_laysBefore 4 = .ok (.if_icmp .gt 180, 3) := by decide +kernel
theorem dX12_laysBefore_7 : decode cX12_laysBefore 7 = .ok (.iconst 0, 1) := by decide +kernel
theorem dX12_laysBefore_8 : decode cX12_laysBefore 8 = .ok (.istore_n 2, 1) := by decide +kernel
theorem dX12_laysBefore_9 : decode cX12_laysBefore 9 = .ok (.iload_n 2, 1) := by decide +kernel
theorem dX12_laysBefore_10 : decode cX12_laysBefore 10 = .ok (.aload_n 0, 1) := by decide +kernel
theorem dX12_laysBefore_11 : decode cX12_laysBefore 11 = .ok (.getfield 128, 3) := by decide +kernel
theorem dX12_laysBefore_14 : decode cX12_laysBefore 14 = .ok (.if_icmp .gt 164, 3) := by decide +kernel
theorem dX12_laysBefore_17 : decode cX12_laysBefore 17 = .ok (.iconst 0, 1) := by decide +kernel
theorem dX12_laysBefore_18 : decode cX12_laysBefore 18 = .ok (.istore_n 3, 1) := by decide +kernel
theorem dX12_laysBefore_19 : decode cX12_laysBefore 19 = .ok (.iload_n 3, 1) := by decide +kernel
theorem dX12_laysBefore_20 : decode cX12_laysBefore 20 = .ok (.aload_n 0, 1) := by decide +kernel
theorem dX12_laysBefore_21 : decode cX12_laysBefore 21 = .ok (.getfield 189, 3) := by decide +kernel
theorem dX12_laysBefore_24 : decode cX12_laysBefore 24 = .ok (.if_icmp .ge 148, 3) := by decide +kernel
theorem dX12_laysBefore_27 : decode cX12_laysBefore 27 = .ok (.iload_n 1, 1) := by decide +kernel
theorem dX12_laysBefore_28 : decode cX12_laysBefore 28 = .ok (.iconst 1, 1) := by decide +kernel
theorem dX12_laysBefore_29 : decode cX12_laysBefore 29 = .ok (.if_icmp .ne 24, 3) := by decide +kernel
theorem dX12_laysBefore_32 : decode cX12_laysBefore 32 = .ok (.iload_n 2, 1) := by decide +kernel
theorem dX12_laysBefore_33 : decode cX12_laysBefore 33 = .ok (.ifCond .le 20, 3) := by decide +kernel
theorem dX12_laysBefore_36 : decode cX12_laysBefore 36 = .ok (.aload_n 0, 1) := by decide +kernel
theorem dX12_laysBefore_37 : decode cX12_laysBefore 37 = .ok (.iload_n 3, 1) := by decide +kernel
theorem dX12_laysBefore_38 : decode cX12_laysBefore 38 = .ok (.iconst 0, 1) := by decide +kernel
theorem dX12_laysBefore_39 : decode cX12_laysBefore 39 = .ok (.iload_n 2, 1) := by decide +kernel
theorem dX12_laysBefore_40 : decode cX12_laysBefore 40 = .ok (.invokevirtual 221, 3) := by decide +kernel
theorem dX12_laysBefore_43 : decode cX12_laysBefore 43 = .ok (.aload_n 0, 1) := by decide +kernel
theorem dX12_laysBefore_44 : decode cX12_laysBefore 44 = .ok (.iconst 5, 1) := by decide +kernel
theorem dX12_laysBefore_45 : decode cX12_laysBefore 45 = .ok (.iload_n 3, 1) := by decide +kernel
theorem dX12_laysBefore_46 : decode cX12_laysBefore 46 = .ok (.invokevirtual 253, 3) := by decide +kernel
theorem dX12_laysBefore_49 : decode cX12_laysBefore 49 = .ok (.ladd, 1) := by decide +kernel
theorem dX12_laysBefore_50 : decode cX12_laysBefore 50 = .ok (.goto 6, 3) := by decide +kernel
theorem dX12_laysBefore_53 : decode cX12_laysBefore 53 = .ok (.ldc2_w 205, 3) := by decide +kernel
theorem dX12_laysBefore_56 : decode cX12_laysBefore 56 = .ok (.lstore 4, 2) := by decide +kernel
theorem dX12_laysBefore_58 : decode cX12_laysBefore 58 = .ok (.iconst 1, 1) := by decide +kernel
theorem dX12_laysBefore_59 : decode cX12_laysBefore 59 = .ok (.istore 6, 2) := by decide +kernel
theorem dX12_laysBefore_61 : decode cX12_laysBefore 61 = .ok (.iload 6, 2) := by decide +kernel
theorem dX12_laysBefore_63 : decode cX12_laysBefore 63 = .ok (.iload_n 2, 1) := by decide +kernel
theorem dX12_laysBefore_64 : decode cX12_laysBefore 64 = .ok (.if_icmp .ge 73, 3) := by decide +kernel
theorem dX12_laysBefore_67 : decode cX12_laysBefore 67 = .ok (.iload_n 1, 1) := by decide +kernel
theorem dX12_laysBefore_68 : decode cX12_laysBefore 68 = .ok (.iconst 1, 1) := by decide +kernel
theorem dX12_laysBefore_69 : decode cX12_laysBefore 69 = .ok (.if_icmp .le 68, 3) := by decide +kernel
theorem dX12_laysBefore_72 : decode cX12_laysBefore 72 = .ok (.iconst 0, 1) := by decide +kernel
theorem dX12_laysBefore_73 : decode cX12_laysBefore 73 = .ok (.istore 7, 2) := by decide +kernel
theorem dX12_laysBefore_75 : decode cX12_laysBefore 75 = .ok (.iload 7, 2) := by decide +kernel
theorem dX12_laysBefore_77 : decode cX12_laysBefore 77 = .ok (.aload_n 0, 1) := by decide +kernel
theorem dX12_laysBefore_78 : decode cX12_laysBefore 78 = .ok (.getfield 189, 3) := by decide +kernel
theorem dX12_laysBefore_81 : decode cX12_laysBefore 81 = .ok (.if_icmp .ge 50, 3) := by decide +kernel
theorem dX12_laysBefore_84 : decode cX12_laysBefore 84 = .ok (.aload_n 0, 1) := by decide +kernel
theorem dX12_laysBefore_85 : decode cX12_laysBefore 85 = .ok (.lload 4, 2) := by decide +kernel
theorem dX12_laysBefore_87 : decode cX12_laysBefore 87 = .ok (.aload_n 0, 1) := by decide +kernel
theorem dX12_laysBefore_88 : decode cX12_laysBefore 88 = .ok (.getfield 97, 3) := by decide +kernel
theorem dX12_laysBefore_91 : decode cX12_laysBefore 91 = .ok (.aload_n 0, 1) := by decide +kernel
theorem dX12_laysBefore_92 : decode cX12_laysBefore 92 = .ok (.iload_n 1, 1) := by decide +kernel
theorem dX12_laysBefore_93 : decode cX12_laysBefore 93 = .ok (.iconst 1, 1) := by decide +kernel
theorem dX12_laysBefore_94 : decode cX12_laysBefore 94 = .ok (.isub, 1) := by decide +kernel
theorem dX12_laysBefore_95 : decode cX12_laysBefore 95 = .ok (.iload 6, 2) := by decide +kernel
theorem dX12_laysBefore_97 : decode cX12_laysBefore 97 = .ok (.iload 7, 2) := by decide +kernel
theorem dX12_laysBefore_99 : decode cX12_laysBefore 99 = .ok (.invokevirtual 288, 3) := by decide +kernel
theorem dX12_laysBefore_102 : decode cX12_laysBefore 102 = .ok (.laload, 1) := by decide +kernel
theorem dX12_laysBefore_103 : decode cX12_laysBefore 103 = .ok (.aload_n 0, 1) := by decide +kernel
theorem dX12_laysBefore_104 : decode cX12_laysBefore 104 = .ok (.iload_n 3, 1) := by decide +kernel
theorem dX12_laysBefore_105 : decode cX12_laysBefore 105 = .ok (.iload 6, 2) := by decide +kernel
theorem dX12_laysBefore_107 : decode cX12_laysBefore 107 = .ok (.iload_n 2, 1) := by decide +kernel
theorem dX12_laysBefore_108 : decode cX12_laysBefore 108 = .ok (.invokevirtual 221, 3) := by decide +kernel
theorem dX12_laysBefore_111 : decode cX12_laysBefore 111 = .ok (.ladd, 1) := by decide +kernel
theorem dX12_laysBefore_112 : decode cX12_laysBefore 112 = .ok (.aload_n 0, 1) := by decide +kernel
theorem dX12_laysBefore_113 : decode cX12_laysBefore 113 = .ok (.iload 7, 2) := by decide +kernel
theorem dX12_laysBefore_115 : decode cX12_laysBefore 115 = .ok (.iload_n 3, 1) := by decide +kernel
theorem dX12_laysBefore_116 : decode cX12_laysBefore 116 = .ok (.invokevirtual 253, 3) := by decide +kernel
theorem dX12_laysBefore_119 : decode cX12_laysBefore 119 = .ok (.ladd, 1) := by decide +kernel
theorem dX12_laysBefore_120 : decode cX12_laysBefore 120 = .ok (.invokevirtual 207, 3) := by decide +kernel
theorem dX12_laysBefore_123 : decode cX12_laysBefore 123 = .ok (.lstore 4, 2) := by decide +kernel
theorem dX12_laysBefore_125 : decode cX12_laysBefore 125 = .ok (.iinc 7 1, 3) := by decide +kernel
theorem dX12_laysBefore_128 : decode cX12_laysBefore 128 = .ok (.goto (-53), 3) := by decide +kernel
theorem dX12_laysBefore_131 : decode cX12_laysBefore 131 = .ok (.iinc 6 1, 3) := by decide +kernel
theorem dX12_laysBefore_134 : decode cX12_laysBefore 134 = .ok (.goto (-73), 3) := by decide +kernel
theorem dX12_laysBefore_137 : decode cX12_laysBefore 137 = .ok (.aload_n 0, 1) := by decide +kernel
theorem dX12_laysBefore_138 : decode cX12_laysBefore 138 = .ok (.getfield 97, 3) := by decide +kernel
theorem dX12_laysBefore_141 : decode cX12_laysBefore 141 = .ok (.aload_n 0, 1) := by decide +kernel
theorem dX12_laysBefore_142 : decode cX12_laysBefore 142 = .ok (.iload_n 1, 1) := by decide +kernel
theorem dX12_laysBefore_143 : decode cX12_laysBefore 143 = .ok (.iload_n 2, 1) := by decide +kernel
theorem dX12_laysBefore_144 : decode cX12_laysBefore 144 = .ok (.iload_n 3, 1) := by decide +kernel
theorem dX12_laysBefore_145 : decode cX12_laysBefore 145 = .ok (.invokevirtual 288, 3) := by decide +kernel
theorem dX12_laysBefore_148 : decode cX12_laysBefore 148 = .ok (.lload 4, 2) := by decide +kernel
theorem dX12_laysBefore_150 : decode cX12_laysBefore 150 = .ok (.ldc2_w 205, 3) := by decide +kernel
theorem dX12_laysBefore_153 : decode cX12_laysBefore 153 = .ok (.lcmp, 1) := by decide +kernel
theorem dX12_laysBefore_154 : decode cX12_laysBefore 154 = .ok (.ifCond .ge 8, 3) := by decide +kernel
theorem dX12_laysBefore_157 : decode cX12_laysBefore 157 = .ok (.lload 4, 2) := by decide +kernel
theorem dX12_laysBefore_159 : decode cX12_laysBefore 159 = .ok (.goto 6, 3) := by decide +kernel
theorem dX12_laysBefore_162 : decode cX12_laysBefore 162 = .ok (.ldc2_w 205, 3) := by decide +kernel
theorem dX12_laysBefore_165 : decode cX12_laysBefore 165 = .ok (.lastore, 1) := by decide +kernel
theorem dX12_laysBefore_166 : decode cX12_laysBefore 166 = .ok (.iinc 3 1, 3) := by decide +kernel
theorem dX12_laysBefore_169 : decode cX12_laysBefore 169 = .ok (.goto (-150), 3) := by decide +kernel
theorem dX12_laysBefore_172 : decode cX12_laysBefore 172 = .ok (.iinc 2 1, 3) := by decide +kernel
theorem dX12_laysBefore_175 : decode cX12_laysBefore 175 = .ok (.goto (-166), 3) := by decide +kernel
theorem dX12_laysBefore_178 : decode cX12_laysBefore 178 = .ok (.iinc 1 1, 3) := by decide +kernel
theorem dX12_laysBefore_181 : decode cX12_laysBefore 181 = .ok (.goto (-179), 3) := by decide +kernel
theorem dX12_laysBefore_184 : decode cX12_laysBefore 184 = .ok (.return_, 1) := by decide +kernel
def J_X12_laysBefore_b75 (v1 v2 v3 v6 v4 v7 : Int) (st : z_St) : Option ((Int × Int) ⊕ Int) :=
  z_g (z32 v7 ∧ z32 (st 168 18)) (if v7 < st 168 18 then
    z_b (J_X12_row5 (v1 - 1) v6 v7 st) fun r5 =>
    z_g (0 ≤ r5 ∧ r5 < 425) <|
    z_b (J_X12_tableOf v3 v6 v2 st) fun r8 =>
    z_b (J_X12_dear v7 v3 st) fun r10 =>
    z_b (J_X12_least v4 (((st 195 r5) + r8) + r10) st) fun r12 =>
    some (.inl (r12, v7 + 1))
  else
    some (.inr v4))
set_option maxRecDepth 100000 in
set_option maxHeartbeats 4000000 in
theorem w_X12_laysBefore_b75 {κ : zK} {a : Nat → Nat} {v1 v2 v3 v4 v6 v7 : Int} {st : z_St} {mc9 ms9 : Nat} {o : (Int × Int) ⊕ Int} (hc : z_C κ RX12 cX12_laysBefore 8 11 mc9 ms9) (hap : z_AP κ a z_N) (k1 : ∀ s9 : (Int × Int), o = .inl s9 → z_V κ z_T z_N a 0 0 75 [(0, .ref (a 168)), (1, .int (zI v1)), (2, .int (zI v2)), (3, .int (zI v3)), (4, .long (zJ s9.1)), (6, .int (zI v6)), (7, .int (zI s9.2))] [] st) (k2 : ∀ x9 : Int, o = .inr x9 → z_V κ z_T z_N a 0 0 131 [(0, .ref (a 168)), (1, .int (zI v1)), (2, .int (zI v2)), (3, .int (zI v3)), (4, .long (zJ x9)), (6, .int (zI v6))] [] st) (h : J_X12_laysBefore_b75 v1 v2 v3 v6 v4 v7 st = some o) : z_V κ z_T z_N a 0 0 75 [(0, .ref (a 168)), (1, .int (zI v1)), (2, .int (zI v2)), (3, .int (zI v3)), (4, .long (zJ v4)), (6, .int (zI v6)), (7, .int (zI v7))] [] st := by
  unfold J_X12_laysBefore_b75 at h
  refine z_iload 6 hc dX12_laysBefore_75 rfl ?_
  refine z_aload_n (i := 0) 0 hc dX12_laysBefore_77 rfl rfl ?_
  refine z_getI (kI := 168) (jI := 18) hc fl_RX12_189 tT_168 (by decide) rfl rfl rfl dX12_laysBefore_78 ?_
  refine z_icmp_ge (tgt := 131) hc dX12_laysBefore_81 (by decide) h (fun c81 h => ?_) (fun c81 h => ?_)
  · refine z_aload_n (i := 0) 0 hc dX12_laysBefore_84 rfl rfl ?_
    refine z_lload 4 hc dX12_laysBefore_85 rfl ?_
    refine z_aload_n (i := 0) 0 hc dX12_laysBefore_87 rfl rfl ?_
    refine z_getA (k' := 195) hc fl_RX12_97 tT_168 (by decide) rfl rfl dX12_laysBefore_88 ?_
    refine z_aload_n (i := 0) 0 hc dX12_laysBefore_91 rfl rfl ?_
    refine z_iload_n (i := 1) 1 hc dX12_laysBefore_92 rfl rfl ?_
    refine z_iconst hc dX12_laysBefore_93 ?_
    refine z_isub hc dX12_laysBefore_94 ?_
    refine z_iload 5 hc dX12_laysBefore_95 rfl ?_
    refine z_iload 6 hc dX12_laysBefore_97 rfl ?_
    obtain ⟨r5, hr5, h⟩ := z_b_some h
    refine z_callVI [.int (zI (v1 - 1)), .int (zI v6), .int (zI v7)] hc hap o_X12_row5 ml_RX12_288 (fun l hl => c_X12_row5 hl  hr5) (by decide) tT_168 (by decide) ⟨_, rfl, rfl⟩ rfl rfl (Nat.le_of_ble_eq_true rfl) (Nat.zero_le _) (Nat.zero_le _) dX12_laysBefore_99 ?_
    refine z_lald (kI := 195) (nI9 := 425) hc tT_195 (by decide) rfl rfl (by decide) dX12_laysBefore_102 h (fun g7 h => ?_)
    refine z_aload_n (i := 0) 0 hc dX12_laysBefore_103 rfl rfl ?_
    refine z_iload_n (i := 3) 3 hc dX12_laysBefore_104 rfl rfl ?_
    refine z_iload 5 hc dX12_laysBefore_105 rfl ?_
    refine z_iload_n (i := 2) 2 hc dX12_laysBefore_107 rfl rfl ?_
    obtain ⟨r8, hr8, h⟩ := z_b_some h
    refine z_callVJ [.int (zI v3), .int (zI v6), .int (zI v2)] hc hap o_X12_tableOf ml_RX12_221 (fun l hl => c_X12_tableOf hl  hr8) (by decide) tT_168 (by decide) ⟨_, rfl, rfl⟩ rfl rfl (Nat.le_of_ble_eq_true rfl) (Nat.zero_le _) (Nat.zero_le _) dX12_laysBefore_108 ?_
    refine z_ladd hc dX12_laysBefore_111 ?_
    refine z_aload_n (i := 0) 0 hc dX12_laysBefore_112 rfl rfl ?_
    refine z_iload 6 hc dX12_laysBefore_113 rfl ?_
    refine z_iload_n (i := 3) 3 hc dX12_laysBefore_115 rfl rfl ?_
    obtain ⟨r10, hr10, h⟩ := z_b_some h
    refine z_callVJ [.int (zI v7), .int (zI v3)] hc hap o_X12_dear ml_RX12_253 (fun l hl => c_X12_dear hl  hr10) (by decide) tT_168 (by decide) ⟨_, rfl, rfl⟩ rfl rfl (Nat.le_of_ble_eq_true rfl) (Nat.zero_le _) (Nat.zero_le _) dX12_laysBefore_116 ?_
    refine z_ladd hc dX12_laysBefore_119 ?_
    obtain ⟨r12, hr12, h⟩ := z_b_some h
    refine z_callVJ [.long (zJ v4), .long (zJ (((st 195 r5) + r8) + r10))] hc hap o_X12_least ml_RX12_207 (fun l hl => c_X12_least hl  hr12) (by decide) tT_168 (by decide) ⟨_, rfl, rfl⟩ rfl rfl (Nat.le_of_ble_eq_true rfl) (Nat.zero_le _) (Nat.zero_le _) dX12_laysBefore_120 ?_
    refine z_lstore [(4, .long (zJ r12)), (0, .ref (a 168)), (1, .int (zI v1)), (2, .int (zI v2)), (3, .int (zI v3)), (6, .int (zI v6)), (7, .int (zI v7))] hc dX12_laysBefore_123 (by decide) rfl ?_
    refine z_iinc [(7, .int (zI (v7 + 1))), (4, .long (zJ r12)), (0, .ref (a 168)), (1, .int (zI v1)), (2, .int (zI v2)), (3, .int (zI v3)), (6, .int (zI v6))] 6 hc dX12_laysBefore_125 rfl (by decide) rfl ?_
    refine z_goto (tgt := 75) hc dX12_laysBefore_128 (by decide) ?_
    refine z_sub [(0, .ref (a 168)), (1, .int (zI v1)), (2, .int (zI v2)), (3, .int (zI v3)), (4, .long (zJ r12)), (6, .int (zI v6)), (7, .int (zI (v7 + 1)))] [2, 3, 4, 5, 1, 6, 0] rfl ?_
    exact k1 _ (Option.some.inj h).symm
  · refine z_sub [(0, .ref (a 168)), (1, .int (zI v1)), (2, .int (zI v2)), (3, .int (zI v3)), (4, .long (zJ v4)), (6, .int (zI v6))] [0, 1, 2, 3, 4, 5] rfl ?_
    exact k2 v4 (Option.some.inj h).symm
def J_X12_laysBefore_b61 (v1 v2 v3 v4 v6 : Int) (st : z_St) : Option ((Int × Int) ⊕ Int) :=
  z_g (z32 v6 ∧ z32 v2) (if v6 < v2 then
    z_g (z32 v1 ∧ z32 1) (if 1 < v1 then
      z_b (z_iter z_F (fun q9 : (Int × Int) => J_X12_laysBefore_b75 v1 v2 v3 v6 q9.1 q9.2 st) (v4, 0)) fun lx14 =>
        some (.inl (lx14, v6 + 1))
    else
      some (.inr v4))
  else
    some (.inr v4))
set_option maxRecDepth 100000 in
set_option maxHeartbeats 4000000 in
theorem w_X12_laysBefore_b61 {κ : zK} {a : Nat → Nat} {v1 v2 v3 v4 v6 : Int} {st : z_St} {mc9 ms9 : Nat} {o : (Int × Int) ⊕ Int} (hc : z_C κ RX12 cX12_laysBefore 8 11 mc9 ms9) (hap : z_AP κ a z_N) (k1 : ∀ s9 : (Int × Int), o = .inl s9 → z_V κ z_T z_N a 0 0 61 [(0, .ref (a 168)), (1, .int (zI v1)), (2, .int (zI v2)), (3, .int (zI v3)), (4, .long (zJ s9.1)), (6, .int (zI s9.2))] [] st) (k2 : ∀ x9 : Int, o = .inr x9 → z_V κ z_T z_N a 0 0 137 [(0, .ref (a 168)), (1, .int (zI v1)), (2, .int (zI v2)), (3, .int (zI v3)), (4, .long (zJ x9))] [] st) (h : J_X12_laysBefore_b61 v1 v2 v3 v4 v6 st = some o) : z_V κ z_T z_N a 0 0 61 [(0, .ref (a 168)), (1, .int (zI v1)), (2, .int (zI v2)), (3, .int (zI v3)), (4, .long (zJ v4)), (6, .int (zI v6))] [] st := by
  unfold J_X12_laysBefore_b61 at h
  refine z_iload 5 hc dX12_laysBefore_61 rfl ?_
  refine z_iload_n (i := 2) 2 hc dX12_laysBefore_63 rfl rfl ?_
  refine z_icmp_ge (tgt := 137) hc dX12_laysBefore_64 (by decide) h (fun c64 h => ?_) (fun c64 h => ?_)
  · refine z_iload_n (i := 1) 1 hc dX12_laysBefore_67 rfl rfl ?_
    refine z_iconst hc dX12_laysBefore_68 ?_
    refine z_icmp_le (tgt := 137) hc dX12_laysBefore_69 (by decide) h (fun c69 h => ?_) (fun c69 h => ?_)
    · refine z_iconst hc dX12_laysBefore_72 ?_
      refine z_istore [(7, .int (zI 0)), (0, .ref (a 168)), (1, .int (zI v1)), (2, .int (zI v2)), (3, .int (zI v3)), (4, .long (zJ v4)), (6, .int (zI v6))] hc dX12_laysBefore_73 (by decide) rfl ?_
      obtain ⟨lx14, hlx14, h⟩ := z_b_some h
      refine z_sub [(0, .ref (a 168)), (1, .int (zI v1)), (2, .int (zI v2)), (3, .int (zI v3)), (4, .long (zJ v4)), (6, .int (zI v6)), (7, .int (zI 0))] [1, 2, 3, 4, 5, 6, 0] rfl ?_
      refine z_loop (fun q9 : (Int × Int) => J_X12_laysBefore_b75 v1 v2 v3 v6 q9.1 q9.2 st) (fun q9 : (Int × Int) => z_V κ z_T z_N a 0 0 75 [(0, .ref (a 168)), (1, .int (zI v1)), (2, .int (zI v2)), (3, .int (zI v3)), (4, .long (zJ q9.1)), (6, .int (zI v6)), (7, .int (zI q9.2))] [] st) (fun x9 : Int => z_V κ z_T z_N a 0 0 131 [(0, .ref (a 168)), (1, .int (zI v1)), (2, .int (zI v2)), (3, .int (zI v3)), (4, .long (zJ x9)), (6, .int (zI v6))] [] st) (fun q9 o9 hb k1 k2 => ?_) _ _ _ hlx14 ?_
      · exact w_X12_laysBefore_b75 hc hap k1 k2 hb
      · show z_V κ z_T z_N a 0 0 131 [(0, .ref (a 168)), (1, .int (zI v1)), (2, .int (zI v2)), (3, .int (zI v3)), (4, .long (zJ lx14)), (6, .int (zI v6))] [] st
        refine z_iinc [(6, .int (zI (v6 + 1))), (0, .ref (a 168)), (1, .int (zI v1)), (2, .int (zI v2)), (3, .int (zI v3)), (4, .long (zJ lx14))] 5 hc dX12_laysBefore_131 rfl (by decide) rfl ?_
        refine z_goto (tgt := 61) hc dX12_laysBefore_134 (by decide) ?_
        refine z_sub [(0, .ref (a 168)), (1, .int (zI v1)), (2, .int (zI v2)), (3, .int (zI v3)), (4, .long (zJ lx14)), (6, .int (zI (v6 + 1)))] [1, 2, 3, 4, 5, 0] rfl ?_
        exact k1 _ (Option.some.inj h).symm
    · refine z_sub [(0, .ref (a 168)), (1, .int (zI v1)), (2, .int (zI v2)), (3, .int (zI v3)), (4, .long (zJ v4))] [0, 1, 2, 3, 4] rfl ?_
      exact k2 v4 (Option.some.inj h).symm
  · refine z_sub [(0, .ref (a 168)), (1, .int (zI v1)), (2, .int (zI v2)), (3, .int (zI v3)), (4, .long (zJ v4))] [0, 1, 2, 3, 4] rfl ?_
    exact k2 v4 (Option.some.inj h).symm
def J_X12_laysBefore_165 (v1 v2 v3 s0 s1 : Int) (st : z_St) : Option ((Int × z_St) ⊕ z_St) :=
  z_g (0 ≤ s1 ∧ s1 < 425) <|
  z_let (z_up st 195 s1 s0) fun st18 =>
  some (.inl (v3 + 1, st18))
set_option maxRecDepth 100000 in
set_option maxHeartbeats 4000000 in
theorem w_X12_laysBefore_165 {κ : zK} {a : Nat → Nat} {v1 v2 v3 s0 s1 : Int} {st : z_St} {mc9 ms9 : Nat} {o : (Int × z_St) ⊕ z_St} (hc : z_C κ RX12 cX12_laysBefore 8 11 mc9 ms9) (hap : z_AP κ a z_N) (k1 : ∀ s9 : (Int × z_St), o = .inl s9 → z_V κ z_T z_N a 0 0 19 [(0, .ref (a 168)), (1, .int (zI v1)), (2, .int (zI v2)), (3, .int (zI s9.1))] [] s9.2) (k2 : ∀ x9 : z_St, o = .inr x9 → z_V κ z_T z_N a 0 0 172 [(0, .ref (a 168)), (1, .int (zI v1)), (2, .int (zI v2))] [] x9) (h : J_X12_laysBefore_165 v1 v2 v3 s0 s1 st = some o) : z_V κ z_T z_N a 0 0 165 [(0, .ref (a 168)), (1, .int (zI v1)), (2, .int (zI v2)), (3, .int (zI v3))] [.long (zJ s0), .int (zI s1), .ref (a 195)] st := by
  unfold J_X12_laysBefore_165 at h
  refine z_last (kI := 195) (nI9 := 425) hc hap tT_195 (by decide) rfl rfl (by decide) dX12_laysBefore_165 h (fun st18 h => ?_)
  refine z_iinc [(3, .int (zI (v3 + 1))), (0, .ref (a 168)), (1, .int (zI v1)), (2, .int (zI v2))] 3 hc dX12_laysBefore_166 rfl (by decide) rfl ?_
  refine z_goto (tgt := 19) hc dX12_laysBefore_169 (by decide) ?_
  refine z_sub [(0, .ref (a 168)), (1, .int (zI v1)), (2, .int (zI v2)), (3, .int (zI (v3 + 1)))] [1, 2, 3, 0] rfl ?_
  exact k1 _ (Option.some.inj h).symm
def J_X12_laysBefore_56 (v1 v2 v3 s0 : Int) (st : z_St) : Option ((Int × z_St) ⊕ z_St) :=
  z_b (z_iter z_F (fun q9 : (Int × Int) => J_X12_laysBefore_b61 v1 v2 v3 q9.1 q9.2 st) (s0, 1)) fun lx15 =>
    z_b (J_X12_row5 v1 v2 v3 st) fun r16 =>
    z_g (z64 lx15 ∧ z64 1000000000000000000) (if lx15 < 1000000000000000000 then
      J_X12_laysBefore_165 v1 v2 v3 lx15 r16 st
    else
      J_X12_laysBefore_165 v1 v2 v3 1000000000000000000 r16 st)
set_option maxRecDepth 100000 in
set_option maxHeartbeats 4000000 in
theorem w_X12_laysBefore_56 {κ : zK} {a : Nat → Nat} {v1 v2 v3 s0 : Int} {st : z_St} {mc9 ms9 : Nat} {o : (Int × z_St) ⊕ z_St} (hc : z_C κ RX12 cX12_laysBefore 8 11 mc9 ms9) (hap : z_AP κ a z_N) (k1 : ∀ s9 : (Int × z_St), o = .inl s9 → z_V κ z_T z_N a 0 0 19 [(0, .ref (a 168)), (1, .int (zI v1)), (2, .int (zI v2)), (3, .int (zI s9.1))] [] s9.2) (k2 : ∀ x9 : z_St, o = .inr x9 → z_V κ z_T z_N a 0 0 172 [(0, .ref (a 168)), (1, .int (zI v1)), (2, .int (zI v2))] [] x9) (h : J_X12_laysBefore_56 v1 v2 v3 s0 st = some o) : z_V κ z_T z_N a 0 0 56 [(0, .ref (a 168)), (1, .int (zI v1)), (2, .int (zI v2)), (3, .int (zI v3))] [.long (zJ s0)] st := by
  unfold J_X12_laysBefore_56 at h
  refine z_lstore [(4, .long (zJ s0)), (0, .ref (a 168)), (1, .int (zI v1)), (2, .int (zI v2)), (3, .int (zI v3))] hc dX12_laysBefore_56 (by decide) rfl ?_
  refine z_iconst hc dX12_laysBefore_58 ?_
  refine z_istore [(6, .int (zI 1)), (4, .long (zJ s0)), (0, .ref (a 168)), (1, .int (zI v1)), (2, .int (zI v2)), (3, .int (zI v3))] hc dX12_laysBefore_59 (by decide) rfl ?_
  obtain ⟨lx15, hlx15, h⟩ := z_b_some h
  refine z_sub [(0, .ref (a 168)), (1, .int (zI v1)), (2, .int (zI v2)), (3, .int (zI v3)), (4, .long (zJ s0)), (6, .int (zI 1))] [2, 3, 4, 5, 1, 0] rfl ?_
  refine z_loop (fun q9 : (Int × Int) => J_X12_laysBefore_b61 v1 v2 v3 q9.1 q9.2 st) (fun q9 : (Int × Int) => z_V κ z_T z_N a 0 0 61 [(0, .ref (a 168)), (1, .int (zI v1)), (2, .int (zI v2)), (3, .int (zI v3)), (4, .long (zJ q9.1)), (6, .int (zI q9.2))] [] st) (fun x9 : Int => z_V κ z_T z_N a 0 0 137 [(0, .ref (a 168)), (1, .int (zI v1)), (2, .int (zI v2)), (3, .int (zI v3)), (4, .long (zJ x9))] [] st) (fun q9 o9 hb k1 k2 => ?_) _ _ _ hlx15 ?_
  · exact w_X12_laysBefore_b61 hc hap k1 k2 hb
  · show z_V κ z_T z_N a 0 0 137 [(0, .ref (a 168)), (1, .int (zI v1)), (2, .int (zI v2)), (3, .int (zI v3)), (4, .long (zJ lx15))] [] st
    refine z_aload_n (i := 0) 0 hc dX12_laysBefore_137 rfl rfl ?_
    refine z_getA (k' := 195) hc fl_RX12_97 tT_168 (by decide) rfl rfl dX12_laysBefore_138 ?_
    refine z_aload_n (i := 0) 0 hc dX12_laysBefore_141 rfl rfl ?_
    refine z_iload_n (i := 1) 1 hc dX12_laysBefore_142 rfl rfl ?_
    refine z_iload_n (i := 2) 2 hc dX12_laysBefore_143 rfl rfl ?_
    refine z_iload_n (i := 3) 3 hc dX12_laysBefore_144 rfl rfl ?_
    obtain ⟨r16, hr16, h⟩ := z_b_some h
    refine z_callVI [.int (zI v1), .int (zI v2), .int (zI v3)] hc hap o_X12_row5 ml_RX12_288 (fun l hl => c_X12_row5 hl  hr16) (by decide) tT_168 (by decide) ⟨_, rfl, rfl⟩ rfl rfl (Nat.le_of_ble_eq_true rfl) (Nat.zero_le _) (Nat.zero_le _) dX12_laysBefore_145 ?_
    refine z_lload 4 hc dX12_laysBefore_148 rfl ?_
    refine z_ldc2 1000000000000000000 hc kc_RX12_205 dX12_laysBefore_150 rfl ?_
    refine z_lcmp_ge (tgt := 162) hc dX12_laysBefore_153 dX12_laysBefore_154 (by decide) h (fun c153 h => ?_) (fun c153 h => ?_)
    · refine z_lload 4 hc dX12_laysBefore_157 rfl ?_
      refine z_goto (tgt := 165) hc dX12_laysBefore_159 (by decide) ?_
      refine z_sub [(0, .ref (a 168)), (1, .int (zI v1)), (2, .int (zI v2)), (3, .int (zI v3))] [0, 1, 2, 3] rfl ?_
      exact w_X12_laysBefore_165 hc hap k1 k2 h
    · refine z_ldc2 1000000000000000000 hc kc_RX12_205 dX12_laysBefore_162 rfl ?_
      refine z_sub [(0, .ref (a 168)), (1, .int (zI v1)), (2, .int (zI v2)), (3, .int (zI v3))] [0, 1, 2, 3] rfl ?_
      exact w_X12_laysBefore_165 hc hap k1 k2 h
def J_X12_laysBefore_53 (v1 v2 v3 : Int) (st : z_St) : Option ((Int × z_St) ⊕ z_St) :=
  J_X12_laysBefore_56 v1 v2 v3 1000000000000000000 st
set_option maxRecDepth 100000 in
set_option maxHeartbeats 4000000 in
theorem w_X12_laysBefore_53 {κ : zK} {a : Nat → Nat} {v1 v2 v3 : Int} {st : z_St} {mc9 ms9 : Nat} {o : (Int × z_St) ⊕ z_St} (hc : z_C κ RX12 cX12_laysBefore 8 11 mc9 ms9) (hap : z_AP κ a z_N) (k1 : ∀ s9 : (Int × z_St), o = .inl s9 → z_V κ z_T z_N a 0 0 19 [(0, .ref (a 168)), (1, .int (zI v1)), (2, .int (zI v2)), (3, .int (zI s9.1))] [] s9.2) (k2 : ∀ x9 : z_St, o = .inr x9 → z_V κ z_T z_N a 0 0 172 [(0, .ref (a 168)), (1, .int (zI v1)), (2, .int (zI v2))] [] x9) (h : J_X12_laysBefore_53 v1 v2 v3 st = some o) : z_V κ z_T z_N a 0 0 53 [(0, .ref (a 168)), (1, .int (zI v1)), (2, .int (zI v2)), (3, .int (zI v3))] [] st := by
  unfold J_X12_laysBefore_53 at h
  refine z_ldc2 1000000000000000000 hc kc_RX12_205 dX12_laysBefore_53 rfl ?_
  refine z_sub [(0, .ref (a 168)), (1, .int (zI v1)), (2, .int (zI v2)), (3, .int (zI v3))] [0, 1, 2, 3] rfl ?_
  exact w_X12_laysBefore_56 hc hap k1 k2 h
def J_X12_laysBefore_b19 (v1 v2 v3 : Int) (st : z_St) : Option ((Int × z_St) ⊕ z_St) :=
  z_g (z32 v3 ∧ z32 (st 168 18)) (if v3 < st 168 18 then
    z_g (z32 v1 ∧ z32 1) (if v1 = 1 then
      z_g (z32 v2) (if 0 < v2 then
        z_b (J_X12_tableOf v3 0 v2 st) fun r1 =>
        z_b (J_X12_dear 5 v3 st) fun r3 =>
        J_X12_laysBefore_56 v1 v2 v3 (r1 + r3) st
      else
        J_X12_laysBefore_53 v1 v2 v3 st)
    else
      J_X12_laysBefore_53 v1 v2 v3 st)
  else
    some (.inr st))
set_option maxRecDepth 100000 in
set_option maxHeartbeats 4000000 in
theorem w_X12_laysBefore_b19 {κ : zK} {a : Nat → Nat} {v1 v2 v3 : Int} {st : z_St} {mc9 ms9 : Nat} {o : (Int × z_St) ⊕ z_St} (hc : z_C κ RX12 cX12_laysBefore 8 11 mc9 ms9) (hap : z_AP κ a z_N) (k1 : ∀ s9 : (Int × z_St), o = .inl s9 → z_V κ z_T z_N a 0 0 19 [(0, .ref (a 168)), (1, .int (zI v1)), (2, .int (zI v2)), (3, .int (zI s9.1))] [] s9.2) (k2 : ∀ x9 : z_St, o = .inr x9 → z_V κ z_T z_N a 0 0 172 [(0, .ref (a 168)), (1, .int (zI v1)), (2, .int (zI v2))] [] x9) (h : J_X12_laysBefore_b19 v1 v2 v3 st = some o) : z_V κ z_T z_N a 0 0 19 [(0, .ref (a 168)), (1, .int (zI v1)), (2, .int (zI v2)), (3, .int (zI v3))] [] st := by
  unfold J_X12_laysBefore_b19 at h
  refine z_iload_n (i := 3) 3 hc dX12_laysBefore_19 rfl rfl ?_
  refine z_aload_n (i := 0) 0 hc dX12_laysBefore_20 rfl rfl ?_
  refine z_getI (kI := 168) (jI := 18) hc fl_RX12_189 tT_168 (by decide) rfl rfl rfl dX12_laysBefore_21 ?_
  refine z_icmp_ge (tgt := 172) hc dX12_laysBefore_24 (by decide) h (fun c24 h => ?_) (fun c24 h => ?_)
  · refine z_iload_n (i := 1) 1 hc dX12_laysBefore_27 rfl rfl ?_
    refine z_iconst hc dX12_laysBefore_28 ?_
    refine z_icmp_ne (tgt := 53) hc dX12_laysBefore_29 (by decide) h (fun c29 h => ?_) (fun c29 h => ?_)
    · refine z_iload_n (i := 2) 2 hc dX12_laysBefore_32 rfl rfl ?_
      refine z_if_le (tgt := 53) hc dX12_laysBefore_33 (by decide) h (fun c33 h => ?_) (fun c33 h => ?_)
      · refine z_aload_n (i := 0) 0 hc dX12_laysBefore_36 rfl rfl ?_
        refine z_iload_n (i := 3) 3 hc dX12_laysBefore_37 rfl rfl ?_
        refine z_iconst hc dX12_laysBefore_38 ?_
        refine z_iload_n (i := 2) 2 hc dX12_laysBefore_39 rfl rfl ?_
        obtain ⟨r1, hr1, h⟩ := z_b_some h
        refine z_callVJ [.int (zI v3), .int (zI 0), .int (zI v2)] hc hap o_X12_tableOf ml_RX12_221 (fun l hl => c_X12_tableOf hl  hr1) (by decide) tT_168 (by decide) ⟨_, rfl, rfl⟩ rfl rfl (Nat.le_of_ble_eq_true rfl) (Nat.zero_le _) (Nat.zero_le _) dX12_laysBefore_40 ?_
        refine z_aload_n (i := 0) 0 hc dX12_laysBefore_43 rfl rfl ?_
        refine z_iconst hc dX12_laysBefore_44 ?_
        refine z_iload_n (i := 3) 3 hc dX12_laysBefore_45 rfl rfl ?_
        obtain ⟨r3, hr3, h⟩ := z_b_some h
        refine z_callVJ [.int (zI 5), .int (zI v3)] hc hap o_X12_dear ml_RX12_253 (fun l hl => c_X12_dear hl  hr3) (by decide) tT_168 (by decide) ⟨_, rfl, rfl⟩ rfl rfl (Nat.le_of_ble_eq_true rfl) (Nat.zero_le _) (Nat.zero_le _) dX12_laysBefore_46 ?_
        refine z_ladd hc dX12_laysBefore_49 ?_
        refine z_goto (tgt := 56) hc dX12_laysBefore_50 (by decide) ?_
        refine z_sub [(0, .ref (a 168)), (1, .int (zI v1)), (2, .int (zI v2)), (3, .int (zI v3))] [0, 1, 2, 3] rfl ?_
        exact w_X12_laysBefore_56 hc hap k1 k2 h
      · refine z_sub [(0, .ref (a 168)), (1, .int (zI v1)), (2, .int (zI v2)), (3, .int (zI v3))] [0, 1, 2, 3] rfl ?_
        exact w_X12_laysBefore_53 hc hap k1 k2 h
    · refine z_sub [(0, .ref (a 168)), (1, .int (zI v1)), (2, .int (zI v2)), (3, .int (zI v3))] [0, 1, 2, 3] rfl ?_
      exact w_X12_laysBefore_53 hc hap k1 k2 h
  · refine z_sub [(0, .ref (a 168)), (1, .int (zI v1)), (2, .int (zI v2))] [0, 1, 2] rfl ?_
    exact k2 st (Option.some.inj h).symm
def J_X12_laysBefore_b9 (v1 v2 : Int) (st : z_St) : Option ((Int × z_St) ⊕ z_St) :=
  z_g (z32 v2 ∧ z32 (st 168 2)) (if st 168 2 < v2 then
    some (.inr st)
  else
    z_b (z_iter z_F (fun q9 : (Int × z_St) => J_X12_laysBefore_b19 v1 v2 q9.1 q9.2) (0, st)) fun lx19 =>
      some (.inl (v2 + 1, lx19)))
set_option maxRecDepth 100000 in
set_option maxHeartbeats 4000000 in
theorem w_X12_laysBefore_b9 {κ : zK} {a : Nat → Nat} {v1 v2 : Int} {st : z_St} {mc9 ms9 : Nat} {o : (Int × z_St) ⊕ z_St} (hc : z_C κ RX12 cX12_laysBefore 8 11 mc9 ms9) (hap : z_AP κ a z_N) (k1 : ∀ s9 : (Int × z_St), o = .inl s9 → z_V κ z_T z_N a 0 0 9 [(0, .ref (a 168)), (1, .int (zI v1)), (2, .int (zI s9.1))] [] s9.2) (k2 : ∀ x9 : z_St, o = .inr x9 → z_V κ z_T z_N a 0 0 178 [(0, .ref (a 168)), (1, .int (zI v1))] [] x9) (h : J_X12_laysBefore_b9 v1 v2 st = some o) : z_V κ z_T z_N a 0 0 9 [(0, .ref (a 168)), (1, .int (zI v1)), (2, .int (zI v2))] [] st := by
  unfold J_X12_laysBefore_b9 at h
  refine z_iload_n (i := 2) 2 hc dX12_laysBefore_9 rfl rfl ?_
  refine z_aload_n (i := 0) 0 hc dX12_laysBefore_10 rfl rfl ?_
  refine z_getI (kI := 168) (jI := 2) hc fl_RX12_128 tT_168 (by decide) rfl rfl rfl dX12_laysBefore_11 ?_
  refine z_icmp_gt (tgt := 178) hc dX12_laysBefore_14 (by decide) h (fun c14 h => ?_) (fun c14 h => ?_)
  · refine z_sub [(0, .ref (a 168)), (1, .int (zI v1))] [0, 1] rfl ?_
    exact k2 st (Option.some.inj h).symm
  · refine z_iconst hc dX12_laysBefore_17 ?_
    refine z_istore_n (i := 3) [(3, .int (zI 0)), (0, .ref (a 168)), (1, .int (zI v1)), (2, .int (zI v2))] hc dX12_laysBefore_18 rfl (by decide) rfl ?_
    obtain ⟨lx19, hlx19, h⟩ := z_b_some h
    refine z_sub [(0, .ref (a 168)), (1, .int (zI v1)), (2, .int (zI v2)), (3, .int (zI 0))] [1, 2, 3, 0] rfl ?_
    refine z_loop (fun q9 : (Int × z_St) => J_X12_laysBefore_b19 v1 v2 q9.1 q9.2) (fun q9 : (Int × z_St) => z_V κ z_T z_N a 0 0 19 [(0, .ref (a 168)), (1, .int (zI v1)), (2, .int (zI v2)), (3, .int (zI q9.1))] [] q9.2) (fun x9 : z_St => z_V κ z_T z_N a 0 0 172 [(0, .ref (a 168)), (1, .int (zI v1)), (2, .int (zI v2))] [] x9) (fun q9 o9 hb k1 k2 => ?_) _ _ _ hlx19 ?_
    · exact w_X12_laysBefore_b19 hc hap k1 k2 hb
    · show z_V κ z_T z_N a 0 0 172 [(0, .ref (a 168)), (1, .int (zI v1)), (2, .int (zI v2))] [] lx19
      refine z_iinc [(2, .int (zI (v2 + 1))), (0, .ref (a 168)), (1, .int (zI v1))] 2 hc dX12_laysBefore_172 rfl (by decide) rfl ?_
      refine z_goto (tgt := 9) hc dX12_laysBefore_175 (by decide) ?_
      refine z_sub [(0, .ref (a 168)), (1, .int (zI v1)), (2, .int (zI (v2 + 1)))] [1, 2, 0] rfl ?_
      exact k1 _ (Option.some.inj h).symm
def J_X12_laysBefore_b2 (v1 : Int) (st : z_St) : Option ((Int × z_St) ⊕ z_St) :=
  z_g (z32 v1 ∧ z32 4) (if 4 < v1 then
    some (.inr st)
  else
    z_b (z_iter z_F (fun q9 : (Int × z_St) => J_X12_laysBefore_b9 v1 q9.1 q9.2) (0, st)) fun lx20 =>
      some (.inl (v1 + 1, lx20)))
set_option maxRecDepth 100000 in
set_option maxHeartbeats 4000000 in
theorem w_X12_laysBefore_b2 {κ : zK} {a : Nat → Nat} {v1 : Int} {st : z_St} {mc9 ms9 : Nat} {o : (Int × z_St) ⊕ z_St} (hc : z_C κ RX12 cX12_laysBefore 8 11 mc9 ms9) (hap : z_AP κ a z_N) (k1 : ∀ s9 : (Int × z_St), o = .inl s9 → z_V κ z_T z_N a 0 0 2 [(0, .ref (a 168)), (1, .int (zI s9.1))] [] s9.2) (k2 : ∀ x9 : z_St, o = .inr x9 → z_V κ z_T z_N a 0 0 184 [] [] x9) (h : J_X12_laysBefore_b2 v1 st = some o) : z_V κ z_T z_N a 0 0 2 [(0, .ref (a 168)), (1, .int (zI v1))] [] st := by
  unfold J_X12_laysBefore_b2 at h
  refine z_iload_n (i := 1) 1 hc dX12_laysBefore_2 rfl rfl ?_
  refine z_iconst hc dX12_laysBefore_3 ?_
  refine z_icmp_gt (tgt := 184) hc dX12_laysBefore_4 (by decide) h (fun c4 h => ?_) (fun c4 h => ?_)
  · refine z_sub [] [] rfl ?_
    exact k2 st (Option.some.inj h).symm
  · refine z_iconst hc dX12_laysBefore_7 ?_
    refine z_istore_n (i := 2) [(2, .int (zI 0)), (0, .ref (a 168)), (1, .int (zI v1))] hc dX12_laysBefore_8 rfl (by decide) rfl ?_
    obtain ⟨lx20, hlx20, h⟩ := z_b_some h
    refine z_sub [(0, .ref (a 168)), (1, .int (zI v1)), (2, .int (zI 0))] [1, 2, 0] rfl ?_
    refine z_loop (fun q9 : (Int × z_St) => J_X12_laysBefore_b9 v1 q9.1 q9.2) (fun q9 : (Int × z_St) => z_V κ z_T z_N a 0 0 9 [(0, .ref (a 168)), (1, .int (zI v1)), (2, .int (zI q9.1))] [] q9.2) (fun x9 : z_St => z_V κ z_T z_N a 0 0 178 [(0, .ref (a 168)), (1, .int (zI v1))] [] x9) (fun q9 o9 hb k1 k2 => ?_) _ _ _ hlx20 ?_
    · exact w_X12_laysBefore_b9 hc hap k1 k2 hb
    · show z_V κ z_T z_N a 0 0 178 [(0, .ref (a 168)), (1, .int (zI v1))] [] lx20
      refine z_iinc [(1, .int (zI (v1 + 1))), (0, .ref (a 168))] 1 hc dX12_laysBefore_178 rfl (by decide) rfl ?_
      refine z_goto (tgt := 2) hc dX12_laysBefore_181 (by decide) ?_
      refine z_sub [(0, .ref (a 168)), (1, .int (zI (v1 + 1)))] [1, 0] rfl ?_
      exact k1 _ (Option.some.inj h).symm
def J_X12_laysBefore (st : z_St) : Option (z_St) :=
  z_b (z_iter z_F (fun q9 : (Int × z_St) => J_X12_laysBefore_b2 q9.1 q9.2) (1, st)) fun lx21 =>
    some lx21
set_option maxRecDepth 100000 in
set_option maxHeartbeats 4000000 in
theorem w_X12_laysBefore {κ : zK} {a : Nat → Nat} {st : z_St} {o : z_St} (hc : z_C κ RX12 cX12_laysBefore 8 11 0 0) (hap : z_AP κ a z_N) (he : z_E 2 κ none z_T z_N a 0 o) (h : J_X12_laysBefore st = some o) : z_V κ z_T z_N a 0 0 0 [(0, .ref (a 168))] [] st := by
  unfold J_X12_laysBefore at h
  refine z_iconst hc dX12_laysBefore_0 ?_
  refine z_istore_n (i := 1) [(1, .int (zI 1)), (0, .ref (a 168))] hc dX12_laysBefore_1 rfl (by decide) rfl ?_
  obtain ⟨lx21, hlx21, h⟩ := z_b_some h
  refine z_sub [(0, .ref (a 168)), (1, .int (zI 1))] [1, 0] rfl ?_
  refine z_loop (fun q9 : (Int × z_St) => J_X12_laysBefore_b2 q9.1 q9.2) (fun q9 : (Int × z_St) => z_V κ z_T z_N a 0 0 2 [(0, .ref (a 168)), (1, .int (zI q9.1))] [] q9.2) (fun x9 : z_St => z_V κ z_T z_N a 0 0 184 [] [] x9) (fun q9 o9 hb k1 k2 => ?_) _ _ _ hlx21 ?_
  · exact w_X12_laysBefore_b2 hc hap k1 k2 hb
  · show z_V κ z_T z_N a 0 0 184 [] [] lx21
    have h := Option.some.inj h
    subst h
    exact z_retV hc he dX12_laysBefore_184
set_option maxRecDepth 100000 in
set_option maxHeartbeats 4000000 in
theorem c_X12_laysBefore {l : Launch} (hl : l.stackTraces = false) {a : Nat → Nat} {st : z_St} {o : z_St} (h : J_X12_laysBefore st = some o) : z_M 2 l yX12_laysBefore cX12_laysBefore 8 none 11 z_T z_N a [.ref (a 168)] st 0 o := z_of hl (by decide +kernel) (Nat.le_of_ble_eq_true rfl) (fun κ hc hap he => w_X12_laysBefore hc hap he h)
theorem dX12_laysBehind_0 : decode cX12_laysBehind 0 = .ok (.iconst 0, 1) := by decide +kernel
theorem dX12_laysBehind_1 : decode cX12_laysBehind 1 = .ok (.istore_n 1, 1) := by decide +kernel
theorem dX12_laysBehind_2 : decode cX12_laysBehind 2 = .ok (.iload_n 1, 1) := by decide +kernel
theorem dX12_laysBehind_3 : decode cX12_laysBehind 3 = .ok (.iconst 3, 1) := by decide +kernel
theorem dX12_laysBehind_4 : decode cX12_laysBehind 4 = .ok (.if_icmp .gt 180, 3) := by decide +kernel
theorem dX12_laysBehind_7 : decode cX12_laysBehind 7 = .ok (.iconst 0, 1) := by decide +kernel
theorem dX12_laysBehind_8 : decode cX12_laysBehind 8 = .ok (.istore_n 2, 1) := by decide +kernel
theorem dX12_laysBehind_9 : decode cX12_laysBehind 9 = .ok (.iload_n 2, 1) := by decide +kernel
theorem dX12_laysBehind_10 : decode cX12_laysBehind 10 = .ok (.aload_n 0, 1) := by decide +kernel
theorem dX12_laysBehind_11 : decode cX12_laysBehind 11 = .ok (.getfield 128, 3) := by decide +kernel
theorem dX12_laysBehind_14 : decode cX12_laysBehind 14 = .ok (.if_icmp .gt 164, 3) := by decide +kernel
theorem dX12_laysBehind_17 : decode cX12_laysBehind 17 = .ok (.iconst 0, 1) := by decide +kernel
theorem dX12_laysBehind_18 : decode cX12_laysBehind 18 = .ok (.istore_n 3, 1) := by decide +kernel
theorem dX12_laysBehind_19 : decode cX12_laysBehind 19 = .ok (.iload_n 3, 1) := by decide +kernel
theorem dX12_laysBehind_20 : decode cX12_laysBehind 20 = .ok (.aload_n 0, 1) := by decide +kernel
theorem dX12_laysBehind_21 : decode cX12_laysBehind 21 = .ok (.getfield 189, 3) := by decide +kernel
theorem dX12_laysBehind_24 : decode cX12_laysBehind 24 = .ok (.if_icmp .ge 148, 3) := by decide +kernel
theorem dX12_laysBehind_27 : decode cX12_laysBehind 27 = .ok (.iload_n 1, 1) := by decide +kernel
theorem dX12_laysBehind_28 : decode cX12_laysBehind 28 = .ok (.ifCond .ne 20, 3) := by decide +kernel
theorem dX12_laysBehind_31 : decode cX12_laysBehind 31 = .ok (.iload_n 2, 1) := by decide +kernel
theorem dX12_laysBehind_32 : decode cX12_laysBehind 32 = .ok (.aload_n 0, 1) := by decide +kernel
theorem dX12_laysBehind_33 : decode cX12_laysBehind 33 = .ok (.getfield 128, 3) := by decide +kernel
theorem dX12_laysBehind_36 : decode cX12_laysBehind 36 = .ok (.if_icmp .ne 12, 3) := by decide +kernel
theorem dX12_laysBehind_39 : decode cX12_laysBehind 39 = .ok (.aload_n 0, 1) := by decide +kernel
theorem dX12_laysBehind_40 : decode cX12_laysBehind 40 = .ok (.iload_n 3, 1) := by decide +kernel
theorem dX12_laysBehind_41 : decode cX12_laysBehind 41 = .ok (.iconst 5, 1) := by decide +kernel
theorem dX12_laysBehind_42 : decode cX12_laysBehind 42 = .ok (.invokevirtual 253, 3) := by decide +kernel
theorem dX12_laysBehind_45 : decode cX12_laysBehind 45 = .ok (.goto 6, 3) := by decide +kernel
theorem dX12_laysBehind_48 : decode cX12_laysBehind 48 = .ok (.ldc2_w 205, 3) := by decide +kernel
theorem dX12_laysBehind_51 : decode cX12_laysBehind 51 = .ok (.lstore 4, 2) := by decide +kernel
theorem dX12_laysBehind_53 : decode cX12_laysBehind 53 = .ok (.iload_n 2, 1) := by decide +kernel
theorem dX12_laysBehind_54 : decode cX12_laysBehind 54 = .ok (.iconst 1, 1) := by decide +kernel
theorem dX12_laysBehind_55 : decode cX12_laysBehind 55 = .ok (.iadd, 1) := by decide +kernel
theorem dX12_laysBehind_56 : decode cX12_laysBehind 56 = .ok (.istore 6, 2) := by decide +kernel
theorem dX12_laysBehind_58 : decode cX12_laysBehind 58 = .ok (.iload 6, 2) := by decide +kernel
theorem dX12_laysBehind_60 : decode cX12_laysBehind 60 = .ok (.aload_n 0, 1) := by decide +kernel
theorem dX12_laysBehind_61 : decode cX12_laysBehind 61 = .ok (.getfield 128, 3) := by decide +kernel
theorem dX12_laysBehind_64 : decode cX12_laysBehind 64 = .ok (.if_icmp .gt 73, 3) := by decide +kernel
theorem dX12_laysBehind_67 : decode cX12_laysBehind 67 = .ok (.iload_n 1, 1) := by decide +kernel
theorem dX12_laysBehind_68 : decode cX12_laysBehind 68 = .ok (.ifCond .le 69, 3) := by decide +kernel
theorem dX12_laysBehind_71 : decode cX12_laysBehind 71 = .ok (.iconst 0, 1) := by decide +kernel
theorem dX12_laysBehind_72 : decode cX12_laysBehind 72 = .ok (.istore 7, 2) := by decide +kernel
theorem dX12_laysBehind_74 : decode cX12_laysBehind 74 = .ok (.iload 7, 2) := by decide +kernel
theorem dX12_laysBehind_76 : decode cX12_laysBehind 76 = .ok (.aload_n 0, 1) := by decide +kernel
theorem dX12_laysBehind_77 : decode cX12_laysBehind 77 = .ok (.getfield 189, 3) := by decide +kernel
theorem dX12_laysBehind_80 : decode cX12_laysBehind 80 = .ok (.if_icmp .ge 51, 3) := by decide +kernel
theorem dX12_laysBehind_83 : decode cX12_laysBehind 83 = .ok (.aload_n 0, 1) := by decide +kernel
theorem dX12_laysBehind_84 : decode cX12_laysBehind 84 = .ok (.lload 4, 2) := by decide +kernel
theorem dX12_laysBehind_86 : decode cX12_laysBehind 86 = .ok (.aload_n 0, 1) := by decide +kernel
theorem dX12_laysBehind_87 : decode cX12_laysBehind 87 = .ok (.getfield 100, 3) := by decide +kernel
theorem dX12_laysBehind_90 : decode cX12_laysBehind 90 = .ok (.aload_n 0, 1) := by decide +kernel
theorem dX12_laysBehind_91 : decode cX12_laysBehind 91 = .ok (.iload_n 1, 1) := by decide +kernel
theorem dX12_laysBehind_92 : decode cX12_laysBehind 92 = .ok (.iconst 1, 1) := by decide +kernel
theorem dX12_laysBehind_93 : decode cX12_laysBehind 93 = .ok (.isub, 1) := by decide +kernel
theorem dX12_laysBehind_94 : decode cX12_laysBehind 94 = .ok (.iload 6, 2) := by decide +kernel
theorem dX12_laysBehind_96 : decode cX12_laysBehind 96 = .ok (.iload 7, 2) := by decide +kernel
theorem dX12_laysBehind_98 : decode cX12_laysBehind 98 = .ok (.invokevirtual 288, 3) := by decide +kernel
theorem dX12_laysBehind_101 : decode cX12_laysBehind 101 = .ok (.laload, 1) := by decide +kernel
theorem dX12_laysBehind_102 : decode cX12_laysBehind 102 = .ok (.aload_n 0, 1) := by decide +kernel
theorem dX12_laysBehind_103 : decode cX12_laysBehind 103 = .ok (.iload 7, 2) := by decide +kernel
theorem dX12_laysBehind_105 : decode cX12_laysBehind 105 = .ok (.iload_n 2, 1) := by decide +kernel
theorem dX12_laysBehind_106 : decode cX12_laysBehind 106 = .ok (.iload 6, 2) := by decide +kernel
theorem dX12_laysBehind_108 : decode cX12_laysBehind 108 = .ok (.invokevirtual 221, 3) := by decide +kernel
theorem dX12_laysBehind_111 : decode cX12_laysBehind 111 = .ok (.ladd, 1) := by decide +kernel
theorem dX12_laysBehind_112 : decode cX12_laysBehind 112 = .ok (.aload_n 0, 1) := by decide +kernel
theorem dX12_laysBehind_113 : decode cX12_laysBehind 113 = .ok (.iload_n 3, 1) := by decide +kernel
theorem dX12_laysBehind_114 : decode cX12_laysBehind 114 = .ok (.iload 7, 2) := by decide +kernel
theorem dX12_laysBehind_116 : decode cX12_laysBehind 116 = .ok (.invokevirtual 253, 3) := by decide +kernel
theorem dX12_laysBehind_119 : decode cX12_laysBehind 119 = .ok (.ladd, 1) := by decide +kernel
theorem dX12_laysBehind_120 : decode cX12_laysBehind 120 = .ok (.invokevirtual 207, 3) := by decide +kernel
theorem dX12_laysBehind_123 : decode cX12_laysBehind 123 = .ok (.lstore 4, 2) := by decide +kernel
theorem dX12_laysBehind_125 : decode cX12_laysBehind 125 = .ok (.iinc 7 1, 3) := by decide +kernel
theorem dX12_laysBehind_128 : decode cX12_laysBehind 128 = .ok (.goto (-54), 3) := by decide +kernel
theorem dX12_laysBehind_131 : decode cX12_laysBehind 131 = .ok (.iinc 6 1, 3) := by decide +kernel
theorem dX12_laysBehind_134 : decode cX12_laysBehind 134 = .ok (.goto (-76), 3) := by decide +kernel
theorem dX12_laysBehind_137 : decode cX12_laysBehind 137 = .ok (.aload_n 0, 1) := by decide +kernel
theorem dX12_laysBehind_138 : decode cX12_laysBehind 138 = .ok (.getfield 100, 3) := by decide +kernel
theorem dX12_laysBehind_141 : decode cX12_laysBehind 141 = .ok (.aload_n 0, 1) := by decide +kernel
theorem dX12_laysBehind_142 : decode cX12_laysBehind 142 = .ok (.iload_n 1, 1) := by decide +kernel
theorem dX12_laysBehind_143 : decode cX12_laysBehind 143 = .ok (.iload_n 2, 1) := by decide +kernel
theorem dX12_laysBehind_144 : decode cX12_laysBehind 144 = .ok (.iload_n 3, 1) := by decide +kernel
theorem dX12_laysBehind_145 : decode cX12_laysBehind 145 = .ok (.invokevirtual 288, 3) := by decide +kernel
theorem dX12_laysBehind_148 : decode cX12_laysBehind 148 = .ok (.lload 4, 2) := by decide +kernel
theorem dX12_laysBehind_150 : decode cX12_laysBehind 150 = .ok (.ldc2_w 205, 3) := by decide +kernel
theorem dX12_laysBehind_153 : decode cX12_laysBehind 153 = .ok (.lcmp, 1) := by decide +kernel
theorem dX12_laysBehind_154 : decode cX12_laysBehind 154 = .ok (.ifCond .ge 8, 3) := by decide +kernel
theorem dX12_laysBehind_157 : decode cX12_laysBehind 157 = .ok (.lload 4, 2) := by decide +kernel
theorem dX12_laysBehind_159 : decode cX12_laysBehind 159 = .ok (.goto 6, 3) := by decide +kernel
theorem dX12_laysBehind_162 : decode cX12_laysBehind 162 = .ok (.ldc2_w 205, 3) := by decide +kernel
theorem dX12_laysBehind_165 : decode cX12_laysBehind 165 = .ok (.lastore, 1) := by decide +kernel
theorem dX12_laysBehind_166 : decode cX12_laysBehind 166 = .ok (.iinc 3 1, 3) := by decide +kernel
theorem dX12_laysBehind_169 : decode cX12_laysBehind 169 = .ok (.goto (-150), 3) := by decide +kernel
theorem dX12_laysBehind_172 : decode cX12_laysBehind 172 = .ok (.iinc 2 1, 3) := by decide +kernel
theorem dX12_laysBehind_175 : decode cX12_laysBehind 175 = .ok (.goto (-166), 3) := by decide +kernel
theorem dX12_laysBehind_178 : decode cX12_laysBehind 178 = .ok (.iinc 1 1, 3) := by decide +kernel
theorem dX12_laysBehind_181 : decode cX12_laysBehind 181 = .ok (.goto (-179), 3) := by decide +kernel
theorem dX12_laysBehind_184 : decode cX12_laysBehind 184 = .ok (.return_, 1) := by decide +kernel
def J_X12_laysBehind_b74 (v1 v2 v3 v6 v4 v7 : Int) (st : z_St) : Option ((Int × Int) ⊕ Int) :=
  z_g (z32 v7 ∧ z32 (st 168 18)) (if v7 < st 168 18 then
    z_b (J_X12_row5 (v1 - 1) v6 v7 st) fun r3 =>
    z_g (0 ≤ r3 ∧ r3 < 425) <|
    z_b (J_X12_tableOf v7 v2 v6 st) fun r6 =>
    z_b (J_X12_dear v3 v7 st) fun r8 =>
    z_b (J_X12_least v4 (((st 196 r3) + r6) + r8) st) fun r10 =>
    some (.inl (r10, v7 + 1))
  else
    some (.inr v4))
set_option maxRecDepth 100000 in
set_option maxHeartbeats 4000000 in
theorem w_X12_laysBehind_b74 {κ : zK} {a : Nat → Nat} {v1 v2 v3 v4 v6 v7 : Int} {st : z_St} {mc9 ms9 : Nat} {o : (Int × Int) ⊕ Int} (hc : z_C κ RX12 cX12_laysBehind 8 11 mc9 ms9) (hap : z_AP κ a z_N) (k1 : ∀ s9 : (Int × Int), o = .inl s9 → z_V κ z_T z_N a 0 0 74 [(0, .ref (a 168)), (1, .int (zI v1)), (2, .int (zI v2)), (3, .int (zI v3)), (4, .long (zJ s9.1)), (6, .int (zI v6)), (7, .int (zI s9.2))] [] st) (k2 : ∀ x9 : Int, o = .inr x9 → z_V κ z_T z_N a 0 0 131 [(0, .ref (a 168)), (1, .int (zI v1)), (2, .int (zI v2)), (3, .int (zI v3)), (4, .long (zJ x9)), (6, .int (zI v6))] [] st) (h : J_X12_laysBehind_b74 v1 v2 v3 v6 v4 v7 st = some o) : z_V κ z_T z_N a 0 0 74 [(0, .ref (a 168)), (1, .int (zI v1)), (2, .int (zI v2)), (3, .int (zI v3)), (4, .long (zJ v4)), (6, .int (zI v6)), (7, .int (zI v7))] [] st := by
  unfold J_X12_laysBehind_b74 at h
  refine z_iload 6 hc dX12_laysBehind_74 rfl ?_
  refine z_aload_n (i := 0) 0 hc dX12_laysBehind_76 rfl rfl ?_
  refine z_getI (kI := 168) (jI := 18) hc fl_RX12_189 tT_168 (by decide) rfl rfl rfl dX12_laysBehind_77 ?_
  refine z_icmp_ge (tgt := 131) hc dX12_laysBehind_80 (by decide) h (fun c80 h => ?_) (fun c80 h => ?_)
  · refine z_aload_n (i := 0) 0 hc dX12_laysBehind_83 rfl rfl ?_
    refine z_lload 4 hc dX12_laysBehind_84 rfl ?_
    refine z_aload_n (i := 0) 0 hc dX12_laysBehind_86 rfl rfl ?_
    refine z_getA (k' := 196) hc fl_RX12_100 tT_168 (by decide) rfl rfl dX12_laysBehind_87 ?_
    refine z_aload_n (i := 0) 0 hc dX12_laysBehind_90 rfl rfl ?_
    refine z_iload_n (i := 1) 1 hc dX12_laysBehind_91 rfl rfl ?_
    refine z_iconst hc dX12_laysBehind_92 ?_
    refine z_isub hc dX12_laysBehind_93 ?_
    refine z_iload 5 hc dX12_laysBehind_94 rfl ?_
    refine z_iload 6 hc dX12_laysBehind_96 rfl ?_
    obtain ⟨r3, hr3, h⟩ := z_b_some h
    refine z_callVI [.int (zI (v1 - 1)), .int (zI v6), .int (zI v7)] hc hap o_X12_row5 ml_RX12_288 (fun l hl => c_X12_row5 hl  hr3) (by decide) tT_168 (by decide) ⟨_, rfl, rfl⟩ rfl rfl (Nat.le_of_ble_eq_true rfl) (Nat.zero_le _) (Nat.zero_le _) dX12_laysBehind_98 ?_
    refine z_lald (kI := 196) (nI9 := 425) hc tT_196 (by decide) rfl rfl (by decide) dX12_laysBehind_101 h (fun g5 h => ?_)
    refine z_aload_n (i := 0) 0 hc dX12_laysBehind_102 rfl rfl ?_
    refine z_iload 6 hc dX12_laysBehind_103 rfl ?_
    refine z_iload_n (i := 2) 2 hc dX12_laysBehind_105 rfl rfl ?_
    refine z_iload 5 hc dX12_laysBehind_106 rfl ?_
    obtain ⟨r6, hr6, h⟩ := z_b_some h
    refine z_callVJ [.int (zI v7), .int (zI v2), .int (zI v6)] hc hap o_X12_tableOf ml_RX12_221 (fun l hl => c_X12_tableOf hl  hr6) (by decide) tT_168 (by decide) ⟨_, rfl, rfl⟩ rfl rfl (Nat.le_of_ble_eq_true rfl) (Nat.zero_le _) (Nat.zero_le _) dX12_laysBehind_108 ?_
    refine z_ladd hc dX12_laysBehind_111 ?_
    refine z_aload_n (i := 0) 0 hc dX12_laysBehind_112 rfl rfl ?_
    refine z_iload_n (i := 3) 3 hc dX12_laysBehind_113 rfl rfl ?_
    refine z_iload 6 hc dX12_laysBehind_114 rfl ?_
    obtain ⟨r8, hr8, h⟩ := z_b_some h
    refine z_callVJ [.int (zI v3), .int (zI v7)] hc hap o_X12_dear ml_RX12_253 (fun l hl => c_X12_dear hl  hr8) (by decide) tT_168 (by decide) ⟨_, rfl, rfl⟩ rfl rfl (Nat.le_of_ble_eq_true rfl) (Nat.zero_le _) (Nat.zero_le _) dX12_laysBehind_116 ?_
    refine z_ladd hc dX12_laysBehind_119 ?_
    obtain ⟨r10, hr10, h⟩ := z_b_some h
    refine z_callVJ [.long (zJ v4), .long (zJ (((st 196 r3) + r6) + r8))] hc hap o_X12_least ml_RX12_207 (fun l hl => c_X12_least hl  hr10) (by decide) tT_168 (by decide) ⟨_, rfl, rfl⟩ rfl rfl (Nat.le_of_ble_eq_true rfl) (Nat.zero_le _) (Nat.zero_le _) dX12_laysBehind_120 ?_
    refine z_lstore [(4, .long (zJ r10)), (0, .ref (a 168)), (1, .int (zI v1)), (2, .int (zI v2)), (3, .int (zI v3)), (6, .int (zI v6)), (7, .int (zI v7))] hc dX12_laysBehind_123 (by decide) rfl ?_
    refine z_iinc [(7, .int (zI (v7 + 1))), (4, .long (zJ r10)), (0, .ref (a 168)), (1, .int (zI v1)), (2, .int (zI v2)), (3, .int (zI v3)), (6, .int (zI v6))] 6 hc dX12_laysBehind_125 rfl (by decide) rfl ?_
    refine z_goto (tgt := 74) hc dX12_laysBehind_128 (by decide) ?_
    refine z_sub [(0, .ref (a 168)), (1, .int (zI v1)), (2, .int (zI v2)), (3, .int (zI v3)), (4, .long (zJ r10)), (6, .int (zI v6)), (7, .int (zI (v7 + 1)))] [2, 3, 4, 5, 1, 6, 0] rfl ?_
    exact k1 _ (Option.some.inj h).symm
  · refine z_sub [(0, .ref (a 168)), (1, .int (zI v1)), (2, .int (zI v2)), (3, .int (zI v3)), (4, .long (zJ v4)), (6, .int (zI v6))] [0, 1, 2, 3, 4, 5] rfl ?_
    exact k2 v4 (Option.some.inj h).symm
def J_X12_laysBehind_b58 (v1 v2 v3 v4 v6 : Int) (st : z_St) : Option ((Int × Int) ⊕ Int) :=
  z_g (z32 v6 ∧ z32 (st 168 2)) (if st 168 2 < v6 then
    some (.inr v4)
  else
    z_g (z32 v1) (if 0 < v1 then
      z_b (z_iter z_F (fun q9 : (Int × Int) => J_X12_laysBehind_b74 v1 v2 v3 v6 q9.1 q9.2 st) (v4, 0)) fun lx12 =>
        some (.inl (lx12, v6 + 1))
    else
      some (.inr v4)))
set_option maxRecDepth 100000 in
set_option maxHeartbeats 4000000 in
theorem w_X12_laysBehind_b58 {κ : zK} {a : Nat → Nat} {v1 v2 v3 v4 v6 : Int} {st : z_St} {mc9 ms9 : Nat} {o : (Int × Int) ⊕ Int} (hc : z_C κ RX12 cX12_laysBehind 8 11 mc9 ms9) (hap : z_AP κ a z_N) (k1 : ∀ s9 : (Int × Int), o = .inl s9 → z_V κ z_T z_N a 0 0 58 [(0, .ref (a 168)), (1, .int (zI v1)), (2, .int (zI v2)), (3, .int (zI v3)), (4, .long (zJ s9.1)), (6, .int (zI s9.2))] [] st) (k2 : ∀ x9 : Int, o = .inr x9 → z_V κ z_T z_N a 0 0 137 [(0, .ref (a 168)), (1, .int (zI v1)), (2, .int (zI v2)), (3, .int (zI v3)), (4, .long (zJ x9))] [] st) (h : J_X12_laysBehind_b58 v1 v2 v3 v4 v6 st = some o) : z_V κ z_T z_N a 0 0 58 [(0, .ref (a 168)), (1, .int (zI v1)), (2, .int (zI v2)), (3, .int (zI v3)), (4, .long (zJ v4)), (6, .int (zI v6))] [] st := by
  unfold J_X12_laysBehind_b58 at h
  refine z_iload 5 hc dX12_laysBehind_58 rfl ?_
  refine z_aload_n (i := 0) 0 hc dX12_laysBehind_60 rfl rfl ?_
  refine z_getI (kI := 168) (jI := 2) hc fl_RX12_128 tT_168 (by decide) rfl rfl rfl dX12_laysBehind_61 ?_
  refine z_icmp_gt (tgt := 137) hc dX12_laysBehind_64 (by decide) h (fun c64 h => ?_) (fun c64 h => ?_)
  · refine z_sub [(0, .ref (a 168)), (1, .int (zI v1)), (2, .int (zI v2)), (3, .int (zI v3)), (4, .long (zJ v4))] [0, 1, 2, 3, 4] rfl ?_
    exact k2 v4 (Option.some.inj h).symm
  · refine z_iload_n (i := 1) 1 hc dX12_laysBehind_67 rfl rfl ?_
    refine z_if_le (tgt := 137) hc dX12_laysBehind_68 (by decide) h (fun c68 h => ?_) (fun c68 h => ?_)
    · refine z_iconst hc dX12_laysBehind_71 ?_
      refine z_istore [(7, .int (zI 0)), (0, .ref (a 168)), (1, .int (zI v1)), (2, .int (zI v2)), (3, .int (zI v3)), (4, .long (zJ v4)), (6, .int (zI v6))] hc dX12_laysBehind_72 (by decide) rfl ?_
      obtain ⟨lx12, hlx12, h⟩ := z_b_some h
      refine z_sub [(0, .ref (a 168)), (1, .int (zI v1)), (2, .int (zI v2)), (3, .int (zI v3)), (4, .long (zJ v4)), (6, .int (zI v6)), (7, .int (zI 0))] [1, 2, 3, 4, 5, 6, 0] rfl ?_
      refine z_loop (fun q9 : (Int × Int) => J_X12_laysBehind_b74 v1 v2 v3 v6 q9.1 q9.2 st) (fun q9 : (Int × Int) => z_V κ z_T z_N a 0 0 74 [(0, .ref (a 168)), (1, .int (zI v1)), (2, .int (zI v2)), (3, .int (zI v3)), (4, .long (zJ q9.1)), (6, .int (zI v6)), (7, .int (zI q9.2))] [] st) (fun x9 : Int => z_V κ z_T z_N a 0 0 131 [(0, .ref (a 168)), (1, .int (zI v1)), (2, .int (zI v2)), (3, .int (zI v3)), (4, .long (zJ x9)), (6, .int (zI v6))] [] st) (fun q9 o9 hb k1 k2 => ?_) _ _ _ hlx12 ?_
      · exact w_X12_laysBehind_b74 hc hap k1 k2 hb
      · show z_V κ z_T z_N a 0 0 131 [(0, .ref (a 168)), (1, .int (zI v1)), (2, .int (zI v2)), (3, .int (zI v3)), (4, .long (zJ lx12)), (6, .int (zI v6))] [] st
        refine z_iinc [(6, .int (zI (v6 + 1))), (0, .ref (a 168)), (1, .int (zI v1)), (2, .int (zI v2)), (3, .int (zI v3)), (4, .long (zJ lx12))] 5 hc dX12_laysBehind_131 rfl (by decide) rfl ?_
        refine z_goto (tgt := 58) hc dX12_laysBehind_134 (by decide) ?_
        refine z_sub [(0, .ref (a 168)), (1, .int (zI v1)), (2, .int (zI v2)), (3, .int (zI v3)), (4, .long (zJ lx12)), (6, .int (zI (v6 + 1)))] [1, 2, 3, 4, 5, 0] rfl ?_
        exact k1 _ (Option.some.inj h).symm
    · refine z_sub [(0, .ref (a 168)), (1, .int (zI v1)), (2, .int (zI v2)), (3, .int (zI v3)), (4, .long (zJ v4))] [0, 1, 2, 3, 4] rfl ?_
      exact k2 v4 (Option.some.inj h).symm
def J_X12_laysBehind_165 (v1 v2 v3 s0 s1 : Int) (st : z_St) : Option ((Int × z_St) ⊕ z_St) :=
  z_g (0 ≤ s1 ∧ s1 < 425) <|
  z_let (z_up st 196 s1 s0) fun st16 =>
  some (.inl (v3 + 1, st16))
set_option maxRecDepth 100000 in
set_option maxHeartbeats 4000000 in
theorem w_X12_laysBehind_165 {κ : zK} {a : Nat → Nat} {v1 v2 v3 s0 s1 : Int} {st : z_St} {mc9 ms9 : Nat} {o : (Int × z_St) ⊕ z_St} (hc : z_C κ RX12 cX12_laysBehind 8 11 mc9 ms9) (hap : z_AP κ a z_N) (k1 : ∀ s9 : (Int × z_St), o = .inl s9 → z_V κ z_T z_N a 0 0 19 [(0, .ref (a 168)), (1, .int (zI v1)), (2, .int (zI v2)), (3, .int (zI s9.1))] [] s9.2) (k2 : ∀ x9 : z_St, o = .inr x9 → z_V κ z_T z_N a 0 0 172 [(0, .ref (a 168)), (1, .int (zI v1)), (2, .int (zI v2))] [] x9) (h : J_X12_laysBehind_165 v1 v2 v3 s0 s1 st = some o) : z_V κ z_T z_N a 0 0 165 [(0, .ref (a 168)), (1, .int (zI v1)), (2, .int (zI v2)), (3, .int (zI v3))] [.long (zJ s0), .int (zI s1), .ref (a 196)] st := by
  unfold J_X12_laysBehind_165 at h
  refine z_last (kI := 196) (nI9 := 425) hc hap tT_196 (by decide) rfl rfl (by decide) dX12_laysBehind_165 h (fun st16 h => ?_)
  refine z_iinc [(3, .int (zI (v3 + 1))), (0, .ref (a 168)), (1, .int (zI v1)), (2, .int (zI v2))] 3 hc dX12_laysBehind_166 rfl (by decide) rfl ?_
  refine z_goto (tgt := 19) hc dX12_laysBehind_169 (by decide) ?_
  refine z_sub [(0, .ref (a 168)), (1, .int (zI v1)), (2, .int (zI v2)), (3, .int (zI (v3 + 1)))] [1, 2, 3, 0] rfl ?_
  exact k1 _ (Option.some.inj h).symm
def J_X12_laysBehind_51 (v1 v2 v3 s0 : Int) (st : z_St) : Option ((Int × z_St) ⊕ z_St) :=
  z_b (z_iter z_F (fun q9 : (Int × Int) => J_X12_laysBehind_b58 v1 v2 v3 q9.1 q9.2 st) (s0, v2 + 1)) fun lx13 =>
    z_b (J_X12_row5 v1 v2 v3 st) fun r14 =>
    z_g (z64 lx13 ∧ z64 1000000000000000000) (if lx13 < 1000000000000000000 then
      J_X12_laysBehind_165 v1 v2 v3 lx13 r14 st
    else
      J_X12_laysBehind_165 v1 v2 v3 1000000000000000000 r14 st)
set_option maxRecDepth 100000 in
set_option maxHeartbeats 4000000 in
theorem w_X12_laysBehind_51 {κ : zK} {a : Nat → Nat} {v1 v2 v3 s0 : Int} {st : z_St} {mc9 ms9 : Nat} {o : (Int × z_St) ⊕ z_St} (hc : z_C κ RX12 cX12_laysBehind 8 11 mc9 ms9) (hap : z_AP κ a z_N) (k1 : ∀ s9 : (Int × z_St), o = .inl s9 → z_V κ z_T z_N a 0 0 19 [(0, .ref (a 168)), (1, .int (zI v1)), (2, .int (zI v2)), (3, .int (zI s9.1))] [] s9.2) (k2 : ∀ x9 : z_St, o = .inr x9 → z_V κ z_T z_N a 0 0 172 [(0, .ref (a 168)), (1, .int (zI v1)), (2, .int (zI v2))] [] x9) (h : J_X12_laysBehind_51 v1 v2 v3 s0 st = some o) : z_V κ z_T z_N a 0 0 51 [(0, .ref (a 168)), (1, .int (zI v1)), (2, .int (zI v2)), (3, .int (zI v3))] [.long (zJ s0)] st := by
  unfold J_X12_laysBehind_51 at h
  refine z_lstore [(4, .long (zJ s0)), (0, .ref (a 168)), (1, .int (zI v1)), (2, .int (zI v2)), (3, .int (zI v3))] hc dX12_laysBehind_51 (by decide) rfl ?_
  refine z_iload_n (i := 2) 3 hc dX12_laysBehind_53 rfl rfl ?_
  refine z_iconst hc dX12_laysBehind_54 ?_
  refine z_iadd hc dX12_laysBehind_55 ?_
  refine z_istore [(6, .int (zI (v2 + 1))), (4, .long (zJ s0)), (0, .ref (a 168)), (1, .int (zI v1)), (2, .int (zI v2)), (3, .int (zI v3))] hc dX12_laysBehind_56 (by decide) rfl ?_
  obtain ⟨lx13, hlx13, h⟩ := z_b_some h
  refine z_sub [(0, .ref (a 168)), (1, .int (zI v1)), (2, .int (zI v2)), (3, .int (zI v3)), (4, .long (zJ s0)), (6, .int (zI (v2 + 1)))] [2, 3, 4, 5, 1, 0] rfl ?_
  refine z_loop (fun q9 : (Int × Int) => J_X12_laysBehind_b58 v1 v2 v3 q9.1 q9.2 st) (fun q9 : (Int × Int) => z_V κ z_T z_N a 0 0 58 [(0, .ref (a 168)), (1, .int (zI v1)), (2, .int (zI v2)), (3, .int (zI v3)), (4, .long (zJ q9.1)), (6, .int (zI q9.2))] [] st) (fun x9 : Int => z_V κ z_T z_N a 0 0 137 [(0, .ref (a 168)), (1, .int (zI v1)), (2, .int (zI v2)), (3, .int (zI v3)), (4, .long (zJ x9))] [] st) (fun q9 o9 hb k1 k2 => ?_) _ _ _ hlx13 ?_
  · exact w_X12_laysBehind_b58 hc hap k1 k2 hb
  · show z_V κ z_T z_N a 0 0 137 [(0, .ref (a 168)), (1, .int (zI v1)), (2, .int (zI v2)), (3, .int (zI v3)), (4, .long (zJ lx13))] [] st
    refine z_aload_n (i := 0) 0 hc dX12_laysBehind_137 rfl rfl ?_
    refine z_getA (k' := 196) hc fl_RX12_100 tT_168 (by decide) rfl rfl dX12_laysBehind_138 ?_
    refine z_aload_n (i := 0) 0 hc dX12_laysBehind_141 rfl rfl ?_
    refine z_iload_n (i := 1) 1 hc dX12_laysBehind_142 rfl rfl ?_
    refine z_iload_n (i := 2) 2 hc dX12_laysBehind_143 rfl rfl ?_
    refine z_iload_n (i := 3) 3 hc dX12_laysBehind_144 rfl rfl ?_
    obtain ⟨r14, hr14, h⟩ := z_b_some h
    refine z_callVI [.int (zI v1), .int (zI v2), .int (zI v3)] hc hap o_X12_row5 ml_RX12_288 (fun l hl => c_X12_row5 hl  hr14) (by decide) tT_168 (by decide) ⟨_, rfl, rfl⟩ rfl rfl (Nat.le_of_ble_eq_true rfl) (Nat.zero_le _) (Nat.zero_le _) dX12_laysBehind_145 ?_
    refine z_lload 4 hc dX12_laysBehind_148 rfl ?_
    refine z_ldc2 1000000000000000000 hc kc_RX12_205 dX12_laysBehind_150 rfl ?_
    refine z_lcmp_ge (tgt := 162) hc dX12_laysBehind_153 dX12_laysBehind_154 (by decide) h (fun c153 h => ?_) (fun c153 h => ?_)
    · refine z_lload 4 hc dX12_laysBehind_157 rfl ?_
      refine z_goto (tgt := 165) hc dX12_laysBehind_159 (by decide) ?_
      refine z_sub [(0, .ref (a 168)), (1, .int (zI v1)), (2, .int (zI v2)), (3, .int (zI v3))] [0, 1, 2, 3] rfl ?_
      exact w_X12_laysBehind_165 hc hap k1 k2 h
    · refine z_ldc2 1000000000000000000 hc kc_RX12_205 dX12_laysBehind_162 rfl ?_
      refine z_sub [(0, .ref (a 168)), (1, .int (zI v1)), (2, .int (zI v2)), (3, .int (zI v3))] [0, 1, 2, 3] rfl ?_
      exact w_X12_laysBehind_165 hc hap k1 k2 h
def J_X12_laysBehind_48 (v1 v2 v3 : Int) (st : z_St) : Option ((Int × z_St) ⊕ z_St) :=
  J_X12_laysBehind_51 v1 v2 v3 1000000000000000000 st
set_option maxRecDepth 100000 in
set_option maxHeartbeats 4000000 in
theorem w_X12_laysBehind_48 {κ : zK} {a : Nat → Nat} {v1 v2 v3 : Int} {st : z_St} {mc9 ms9 : Nat} {o : (Int × z_St) ⊕ z_St} (hc : z_C κ RX12 cX12_laysBehind 8 11 mc9 ms9) (hap : z_AP κ a z_N) (k1 : ∀ s9 : (Int × z_St), o = .inl s9 → z_V κ z_T z_N a 0 0 19 [(0, .ref (a 168)), (1, .int (zI v1)), (2, .int (zI v2)), (3, .int (zI s9.1))] [] s9.2) (k2 : ∀ x9 : z_St, o = .inr x9 → z_V κ z_T z_N a 0 0 172 [(0, .ref (a 168)), (1, .int (zI v1)), (2, .int (zI v2))] [] x9) (h : J_X12_laysBehind_48 v1 v2 v3 st = some o) : z_V κ z_T z_N a 0 0 48 [(0, .ref (a 168)), (1, .int (zI v1)), (2, .int (zI v2)), (3, .int (zI v3))] [] st := by
  unfold J_X12_laysBehind_48 at h
  refine z_ldc2 1000000000000000000 hc kc_RX12_205 dX12_laysBehind_48 rfl ?_
  refine z_sub [(0, .ref (a 168)), (1, .int (zI v1)), (2, .int (zI v2)), (3, .int (zI v3))] [0, 1, 2, 3] rfl ?_
  exact w_X12_laysBehind_51 hc hap k1 k2 h
def J_X12_laysBehind_b19 (v1 v2 v3 : Int) (st : z_St) : Option ((Int × z_St) ⊕ z_St) :=
  z_g (z32 v3 ∧ z32 (st 168 18)) (if v3 < st 168 18 then
    z_g (z32 v1) (if v1 = 0 then
      z_g (z32 v2 ∧ z32 (st 168 2)) (if v2 = st 168 2 then
        z_b (J_X12_dear v3 5 st) fun r1 =>
        J_X12_laysBehind_51 v1 v2 v3 r1 st
      else
        J_X12_laysBehind_48 v1 v2 v3 st)
    else
      J_X12_laysBehind_48 v1 v2 v3 st)
  else
    some (.inr st))
set_option maxRecDepth 100000 in
set_option maxHeartbeats 4000000 in
theorem w_X12_laysBehind_b19 {κ : zK} {a : Nat → Nat} {v1 v2 v3 : Int} {st : z_St} {mc9 ms9 : Nat} {o : (Int × z_St) ⊕ z_St} (hc : z_C κ RX12 cX12_laysBehind 8 11 mc9 ms9) (hap : z_AP κ a z_N) (k1 : ∀ s9 : (Int × z_St), o = .inl s9 → z_V κ z_T z_N a 0 0 19 [(0, .ref (a 168)), (1, .int (zI v1)), (2, .int (zI v2)), (3, .int (zI s9.1))] [] s9.2) (k2 : ∀ x9 : z_St, o = .inr x9 → z_V κ z_T z_N a 0 0 172 [(0, .ref (a 168)), (1, .int (zI v1)), (2, .int (zI v2))] [] x9) (h : J_X12_laysBehind_b19 v1 v2 v3 st = some o) : z_V κ z_T z_N a 0 0 19 [(0, .ref (a 168)), (1, .int (zI v1)), (2, .int (zI v2)), (3, .int (zI v3))] [] st := by
  unfold J_X12_laysBehind_b19 at h
  refine z_iload_n (i := 3) 3 hc dX12_laysBehind_19 rfl rfl ?_
  refine z_aload_n (i := 0) 0 hc dX12_laysBehind_20 rfl rfl ?_
  refine z_getI (kI := 168) (jI := 18) hc fl_RX12_189 tT_168 (by decide) rfl rfl rfl dX12_laysBehind_21 ?_
  refine z_icmp_ge (tgt := 172) hc dX12_laysBehind_24 (by decide) h (fun c24 h => ?_) (fun c24 h => ?_)
  · refine z_iload_n (i := 1) 1 hc dX12_laysBehind_27 rfl rfl ?_
    refine z_if_ne (tgt := 48) hc dX12_laysBehind_28 (by decide) h (fun c28 h => ?_) (fun c28 h => ?_)
    · refine z_iload_n (i := 2) 2 hc dX12_laysBehind_31 rfl rfl ?_
      refine z_aload_n (i := 0) 0 hc dX12_laysBehind_32 rfl rfl ?_
      refine z_getI (kI := 168) (jI := 2) hc fl_RX12_128 tT_168 (by decide) rfl rfl rfl dX12_laysBehind_33 ?_
      refine z_icmp_ne (tgt := 48) hc dX12_laysBehind_36 (by decide) h (fun c36 h => ?_) (fun c36 h => ?_)
      · refine z_aload_n (i := 0) 0 hc dX12_laysBehind_39 rfl rfl ?_
        refine z_iload_n (i := 3) 3 hc dX12_laysBehind_40 rfl rfl ?_
        refine z_iconst hc dX12_laysBehind_41 ?_
        obtain ⟨r1, hr1, h⟩ := z_b_some h
        refine z_callVJ [.int (zI v3), .int (zI 5)] hc hap o_X12_dear ml_RX12_253 (fun l hl => c_X12_dear hl  hr1) (by decide) tT_168 (by decide) ⟨_, rfl, rfl⟩ rfl rfl (Nat.le_of_ble_eq_true rfl) (Nat.zero_le _) (Nat.zero_le _) dX12_laysBehind_42 ?_
        refine z_goto (tgt := 51) hc dX12_laysBehind_45 (by decide) ?_
        refine z_sub [(0, .ref (a 168)), (1, .int (zI v1)), (2, .int (zI v2)), (3, .int (zI v3))] [0, 1, 2, 3] rfl ?_
        exact w_X12_laysBehind_51 hc hap k1 k2 h
      · refine z_sub [(0, .ref (a 168)), (1, .int (zI v1)), (2, .int (zI v2)), (3, .int (zI v3))] [0, 1, 2, 3] rfl ?_
        exact w_X12_laysBehind_48 hc hap k1 k2 h
    · refine z_sub [(0, .ref (a 168)), (1, .int (zI v1)), (2, .int (zI v2)), (3, .int (zI v3))] [0, 1, 2, 3] rfl ?_
      exact w_X12_laysBehind_48 hc hap k1 k2 h
  · refine z_sub [(0, .ref (a 168)), (1, .int (zI v1)), (2, .int (zI v2))] [0, 1, 2] rfl ?_
    exact k2 st (Option.some.inj h).symm
def J_X12_laysBehind_b9 (v1 v2 : Int) (st : z_St) : Option ((Int × z_St) ⊕ z_St) :=
  z_g (z32 v2 ∧ z32 (st 168 2)) (if st 168 2 < v2 then
    some (.inr st)
  else
    z_b (z_iter z_F (fun q9 : (Int × z_St) => J_X12_laysBehind_b19 v1 v2 q9.1 q9.2) (0, st)) fun lx17 =>
      some (.inl (v2 + 1, lx17)))
set_option maxRecDepth 100000 in
set_option maxHeartbeats 4000000 in
theorem w_X12_laysBehind_b9 {κ : zK} {a : Nat → Nat} {v1 v2 : Int} {st : z_St} {mc9 ms9 : Nat} {o : (Int × z_St) ⊕ z_St} (hc : z_C κ RX12 cX12_laysBehind 8 11 mc9 ms9) (hap : z_AP κ a z_N) (k1 : ∀ s9 : (Int × z_St), o = .inl s9 → z_V κ z_T z_N a 0 0 9 [(0, .ref (a 168)), (1, .int (zI v1)), (2, .int (zI s9.1))] [] s9.2) (k2 : ∀ x9 : z_St, o = .inr x9 → z_V κ z_T z_N a 0 0 178 [(0, .ref (a 168)), (1, .int (zI v1))] [] x9) (h : J_X12_laysBehind_b9 v1 v2 st = some o) : z_V κ z_T z_N a 0 0 9 [(0, .ref (a 168)), (1, .int (zI v1)), (2, .int (zI v2))] [] st := by
  unfold J_X12_laysBehind_b9 at h
  refine z_iload_n (i := 2) 2 hc dX12_laysBehind_9 rfl rfl ?_
  refine z_aload_n (i := 0) 0 hc dX12_laysBehind_10 rfl rfl ?_
  refine z_getI (kI := 168) (jI := 2) hc fl_RX12_128 tT_168 (by decide) rfl rfl rfl dX12_laysBehind_11 ?_
  refine z_icmp_gt (tgt := 178) hc dX12_laysBehind_14 (by decide) h (fun c14 h => ?_) (fun c14 h => ?_)
  · refine z_sub [(0, .ref (a 168)), (1, .int (zI v1))] [0, 1] rfl ?_
    exact k2 st (Option.some.inj h).symm
  · refine z_iconst hc dX12_laysBehind_17 ?_
    refine z_istore_n (i := 3) [(3, .int (zI 0)), (0, .ref (a 168)), (1, .int (zI v1)), (2, .int (zI v2))] hc dX12_laysBehind_18 rfl (by decide) rfl ?_
    obtain ⟨lx17, hlx17, h⟩ := z_b_some h
    refine z_sub [(0, .ref (a 168)), (1, .int (zI v1)), (2, .int (zI v2)), (3, .int (zI 0))] [1, 2, 3, 0] rfl ?_
    refine z_loop (fun q9 : (Int × z_St) => J_X12_laysBehind_b19 v1 v2 q9.1 q9.2) (fun q9 : (Int × z_St) => z_V κ z_T z_N a 0 0 19 [(0, .ref (a 168)), (1, .int (zI v1)), (2, .int (zI v2)), (3, .int (zI q9.1))] [] q9.2) (fun x9 : z_St => z_V κ z_T z_N a 0 0 172 [(0, .ref (a 168)), (1, .int (zI v1)), (2, .int (zI v2))] [] x9) (fun q9 o9 hb k1 k2 => ?_) _ _ _ hlx17 ?_
    · exact w_X12_laysBehind_b19 hc hap k1 k2 hb
    · show z_V κ z_T z_N a 0 0 172 [(0, .ref (a 168)), (1, .int (zI v1)), (2, .int (zI v2))] [] lx17
      refine z_iinc [(2, .int (zI (v2 + 1))), (0, .ref (a 168)), (1, .int (zI v1))] 2 hc dX12_laysBehind_172 rfl (by decide) rfl ?_
      refine z_goto (tgt := 9) hc dX12_laysBehind_175 (by decide) ?_
      refine z_sub [(0, .ref (a 168)), (1, .int (zI v1)), (2, .int (zI (v2 + 1)))] [1, 2, 0] rfl ?_
      exact k1 _ (Option.some.inj h).symm
def J_X12_laysBehind_b2 (v1 : Int) (st : z_St) : Option ((Int × z_St) ⊕ z_St) :=
  z_g (z32 v1 ∧ z32 3) (if 3 < v1 then
    some (.inr st)
  else
    z_b (z_iter z_F (fun q9 : (Int × z_St) => J_X12_laysBehind_b9 v1 q9.1 q9.2) (0, st)) fun lx18 =>
      some (.inl (v1 + 1, lx18)))
set_option maxRecDepth 100000 in
set_option maxHeartbeats 4000000 in
theorem w_X12_laysBehind_b2 {κ : zK} {a : Nat → Nat} {v1 : Int} {st : z_St} {mc9 ms9 : Nat} {o : (Int × z_St) ⊕ z_St} (hc : z_C κ RX12 cX12_laysBehind 8 11 mc9 ms9) (hap : z_AP κ a z_N) (k1 : ∀ s9 : (Int × z_St), o = .inl s9 → z_V κ z_T z_N a 0 0 2 [(0, .ref (a 168)), (1, .int (zI s9.1))] [] s9.2) (k2 : ∀ x9 : z_St, o = .inr x9 → z_V κ z_T z_N a 0 0 184 [] [] x9) (h : J_X12_laysBehind_b2 v1 st = some o) : z_V κ z_T z_N a 0 0 2 [(0, .ref (a 168)), (1, .int (zI v1))] [] st := by
  unfold J_X12_laysBehind_b2 at h
  refine z_iload_n (i := 1) 1 hc dX12_laysBehind_2 rfl rfl ?_
  refine z_iconst hc dX12_laysBehind_3 ?_
  refine z_icmp_gt (tgt := 184) hc dX12_laysBehind_4 (by decide) h (fun c4 h => ?_) (fun c4 h => ?_)
  · refine z_sub [] [] rfl ?_
    exact k2 st (Option.some.inj h).symm
  · refine z_iconst hc dX12_laysBehind_7 ?_
    refine z_istore_n (i := 2) [(2, .int (zI 0)), (0, .ref (a 168)), (1, .int (zI v1))] hc dX12_laysBehind_8 rfl (by decide) rfl ?_
    obtain ⟨lx18, hlx18, h⟩ := z_b_some h
    refine z_sub [(0, .ref (a 168)), (1, .int (zI v1)), (2, .int (zI 0))] [1, 2, 0] rfl ?_
    refine z_loop (fun q9 : (Int × z_St) => J_X12_laysBehind_b9 v1 q9.1 q9.2) (fun q9 : (Int × z_St) => z_V κ z_T z_N a 0 0 9 [(0, .ref (a 168)), (1, .int (zI v1)), (2, .int (zI q9.1))] [] q9.2) (fun x9 : z_St => z_V κ z_T z_N a 0 0 178 [(0, .ref (a 168)), (1, .int (zI v1))] [] x9) (fun q9 o9 hb k1 k2 => ?_) _ _ _ hlx18 ?_
    · exact w_X12_laysBehind_b9 hc hap k1 k2 hb
    · show z_V κ z_T z_N a 0 0 178 [(0, .ref (a 168)), (1, .int (zI v1))] [] lx18
      refine z_iinc [(1, .int (zI (v1 + 1))), (0, .ref (a 168))] 1 hc dX12_laysBehind_178 rfl (by decide) rfl ?_
      refine z_goto (tgt := 2) hc dX12_laysBehind_181 (by decide) ?_
      refine z_sub [(0, .ref (a 168)), (1, .int (zI (v1 + 1)))] [1, 0] rfl ?_
      exact k1 _ (Option.some.inj h).symm
def J_X12_laysBehind (st : z_St) : Option (z_St) :=
  z_b (z_iter z_F (fun q9 : (Int × z_St) => J_X12_laysBehind_b2 q9.1 q9.2) (0, st)) fun lx19 =>
    some lx19
set_option maxRecDepth 100000 in
set_option maxHeartbeats 4000000 in
theorem w_X12_laysBehind {κ : zK} {a : Nat → Nat} {st : z_St} {o : z_St} (hc : z_C κ RX12 cX12_laysBehind 8 11 0 0) (hap : z_AP κ a z_N) (he : z_E 2 κ none z_T z_N a 0 o) (h : J_X12_laysBehind st = some o) : z_V κ z_T z_N a 0 0 0 [(0, .ref (a 168))] [] st := by
  unfold J_X12_laysBehind at h
  refine z_iconst hc dX12_laysBehind_0 ?_
  refine z_istore_n (i := 1) [(1, .int (zI 0)), (0, .ref (a 168))] hc dX12_laysBehind_1 rfl (by decide) rfl ?_
  obtain ⟨lx19, hlx19, h⟩ := z_b_some h
  refine z_sub [(0, .ref (a 168)), (1, .int (zI 0))] [1, 0] rfl ?_
  refine z_loop (fun q9 : (Int × z_St) => J_X12_laysBehind_b2 q9.1 q9.2) (fun q9 : (Int × z_St) => z_V κ z_T z_N a 0 0 2 [(0, .ref (a 168)), (1, .int (zI q9.1))] [] q9.2) (fun x9 : z_St => z_V κ z_T z_N a 0 0 184 [] [] x9) (fun q9 o9 hb k1 k2 => ?_) _ _ _ hlx19 ?_
  · exact w_X12_laysBehind_b2 hc hap k1 k2 hb
  · show z_V κ z_T z_N a 0 0 184 [] [] lx19
    have h := Option.some.inj h
    subst h
    exact z_retV hc he dX12_laysBehind_184
set_option maxRecDepth 100000 in
set_option maxHeartbeats 4000000 in
theorem c_X12_laysBehind {l : Launch} (hl : l.stackTraces = false) {a : Nat → Nat} {st : z_St} {o : z_St} (h : J_X12_laysBehind st = some o) : z_M 2 l yX12_laysBehind cX12_laysBehind 8 none 11 z_T z_N a [.ref (a 168)] st 0 o := z_of hl (by decide +kernel) (Nat.le_of_ble_eq_true rfl) (fun κ hc hap he => w_X12_laysBehind hc hap he h)
theorem dX12_rest_0 : decode cX12_rest 0 = .ok (.ldc2_w 205, 3) := by decide +kernel
theorem dX12_rest_3 : decode cX12_rest 3 = .ok (.lstore 4, 2) := by decide +kernel
theorem dX12_rest_5 : decode cX12_rest 5 = .ok (.iconst 0, 1) := by decide +kernel
theorem dX12_rest_6 : decode cX12_rest 6 = .ok (.istore 6, 2) := by decide +kernel
theorem dX12_rest_8 : decode cX12_rest 8 = .ok (.iload 6, 2) := by decide +kernel
theorem dX12_rest_10 : decode cX12_rest 10 = .ok (.iload_n 3, 1) := by decide +kernel
theorem dX12_rest_11 : decode cX12_rest 11 = .ok (.if_icmp .gt 30, 3) := by decide +kernel
theorem dX12_rest_14 : decode cX12_rest 14 = .ok (.aload_n 0, 1) := by decide +kernel
theorem dX12_rest_15 : decode cX12_rest 15 = .ok (.lload 4, 2) := by decide +kernel
theorem dX12_rest_17 : decode cX12_rest 17 = .ok (.aload_n 0, 1) := by decide +kernel
theorem dX12_rest_18 : decode cX12_rest 18 = .ok (.getfield 100, 3) := by decide +kernel
theorem dX12_rest_21 : decode cX12_rest 21 = .ok (.aload_n 0, 1) := by decide +kernel
theorem dX12_rest_22 : decode cX12_rest 22 = .ok (.iload 6, 2) := by decide +kernel
theorem dX12_rest_24 : decode cX12_rest 24 = .ok (.iload_n 2, 1) := by decide +kernel
theorem dX12_rest_25 : decode cX12_rest 25 = .ok (.iload_n 1, 1) := by decide +kernel
theorem dX12_rest_26 : decode cX12_rest 26 = .ok (.invokevirtual 288, 3) := by decide +kernel
theorem dX12_rest_29 : decode cX12_rest 29 = .ok (.laload, 1) := by decide +kernel
theorem dX12_rest_30 : decode cX12_rest 30 = .ok (.invokevirtual 207, 3) := by decide +kernel
theorem dX12_rest_33 : decode cX12_rest 33 = .ok (.lstore 4, 2) := by decide +kernel
theorem dX12_rest_35 : decode cX12_rest 35 = .ok (.iinc 6 1, 3) := by decide +kernel
theorem dX12_rest_38 : decode cX12_rest 38 = .ok (.goto (-30), 3) := by decide +kernel
theorem dX12_rest_41 : decode cX12_rest 41 = .ok (.lload 4, 2) := by decide +kernel
theorem dX12_rest_43 : decode cX12_rest 43 = .ok (.lreturn, 1) := by decide +kernel
def J_X12_rest_b8 (v1 v2 v3 v4 v6 : Int) (st : z_St) : Option ((Int × Int) ⊕ Int) :=
  z_g (z32 v6 ∧ z32 v3) (if v3 < v6 then
    some (.inr v4)
  else
    z_b (J_X12_row5 v6 v2 v1 st) fun r1 =>
    z_g (0 ≤ r1 ∧ r1 < 425) <|
    z_b (J_X12_least v4 (st 196 r1) st) fun r4 =>
    some (.inl (r4, v6 + 1)))
set_option maxRecDepth 100000 in
set_option maxHeartbeats 4000000 in
theorem w_X12_rest_b8 {κ : zK} {a : Nat → Nat} {v1 v2 v3 v4 v6 : Int} {st : z_St} {mc9 ms9 : Nat} {o : (Int × Int) ⊕ Int} (hc : z_C κ RX12 cX12_rest 7 9 mc9 ms9) (hap : z_AP κ a z_N) (k1 : ∀ s9 : (Int × Int), o = .inl s9 → z_V κ z_T z_N a 0 0 8 [(0, .ref (a 168)), (1, .int (zI v1)), (2, .int (zI v2)), (3, .int (zI v3)), (4, .long (zJ s9.1)), (6, .int (zI s9.2))] [] st) (k2 : ∀ x9 : Int, o = .inr x9 → z_V κ z_T z_N a 0 0 41 [(4, .long (zJ x9))] [] st) (h : J_X12_rest_b8 v1 v2 v3 v4 v6 st = some o) : z_V κ z_T z_N a 0 0 8 [(0, .ref (a 168)), (1, .int (zI v1)), (2, .int (zI v2)), (3, .int (zI v3)), (4, .long (zJ v4)), (6, .int (zI v6))] [] st := by
  unfold J_X12_rest_b8 at h
  refine z_iload 5 hc dX12_rest_8 rfl ?_
  refine z_iload_n (i := 3) 3 hc dX12_rest_10 rfl rfl ?_
  refine z_icmp_gt (tgt := 41) hc dX12_rest_11 (by decide) h (fun c11 h => ?_) (fun c11 h => ?_)
  · refine z_sub [(4, .long (zJ v4))] [4] rfl ?_
    exact k2 v4 (Option.some.inj h).symm
  · refine z_aload_n (i := 0) 0 hc dX12_rest_14 rfl rfl ?_
    refine z_lload 4 hc dX12_rest_15 rfl ?_
    refine z_aload_n (i := 0) 0 hc dX12_rest_17 rfl rfl ?_
    refine z_getA (k' := 196) hc fl_RX12_100 tT_168 (by decide) rfl rfl dX12_rest_18 ?_
    refine z_aload_n (i := 0) 0 hc dX12_rest_21 rfl rfl ?_
    refine z_iload 5 hc dX12_rest_22 rfl ?_
    refine z_iload_n (i := 2) 2 hc dX12_rest_24 rfl rfl ?_
    refine z_iload_n (i := 1) 1 hc dX12_rest_25 rfl rfl ?_
    obtain ⟨r1, hr1, h⟩ := z_b_some h
    refine z_callVI [.int (zI v6), .int (zI v2), .int (zI v1)] hc hap o_X12_row5 ml_RX12_288 (fun l hl => c_X12_row5 hl  hr1) (by decide) tT_168 (by decide) ⟨_, rfl, rfl⟩ rfl rfl (Nat.le_of_ble_eq_true rfl) (Nat.zero_le _) (Nat.zero_le _) dX12_rest_26 ?_
    refine z_lald (kI := 196) (nI9 := 425) hc tT_196 (by decide) rfl rfl (by decide) dX12_rest_29 h (fun g3 h => ?_)
    obtain ⟨r4, hr4, h⟩ := z_b_some h
    refine z_callVJ [.long (zJ v4), .long (zJ (st 196 r1))] hc hap o_X12_least ml_RX12_207 (fun l hl => c_X12_least hl  hr4) (by decide) tT_168 (by decide) ⟨_, rfl, rfl⟩ rfl rfl (Nat.le_of_ble_eq_true rfl) (Nat.zero_le _) (Nat.zero_le _) dX12_rest_30 ?_
    refine z_lstore [(4, .long (zJ r4)), (0, .ref (a 168)), (1, .int (zI v1)), (2, .int (zI v2)), (3, .int (zI v3)), (6, .int (zI v6))] hc dX12_rest_33 (by decide) rfl ?_
    refine z_iinc [(6, .int (zI (v6 + 1))), (4, .long (zJ r4)), (0, .ref (a 168)), (1, .int (zI v1)), (2, .int (zI v2)), (3, .int (zI v3))] 5 hc dX12_rest_35 rfl (by decide) rfl ?_
    refine z_goto (tgt := 8) hc dX12_rest_38 (by decide) ?_
    refine z_sub [(0, .ref (a 168)), (1, .int (zI v1)), (2, .int (zI v2)), (3, .int (zI v3)), (4, .long (zJ r4)), (6, .int (zI (v6 + 1)))] [2, 3, 4, 5, 1, 0] rfl ?_
    exact k1 _ (Option.some.inj h).symm
def J_X12_rest (x1 x2 x3 : Int) (st : z_St) : Option (Int) :=
  z_b (z_iter z_F (fun q9 : (Int × Int) => J_X12_rest_b8 x1 x2 x3 q9.1 q9.2 st) (1000000000000000000, 0)) fun lx6 =>
    some lx6
set_option maxRecDepth 100000 in
set_option maxHeartbeats 4000000 in
theorem w_X12_rest {κ : zK} {a : Nat → Nat} {x1 x2 x3 : Int} {st : z_St} {o : Int} (hc : z_C κ RX12 cX12_rest 7 9 0 0) (hap : z_AP κ a z_N) (he : z_E 1 κ (some .long) z_T z_N a o st) (h : J_X12_rest x1 x2 x3 st = some o) : z_V κ z_T z_N a 0 0 0 [(0, .ref (a 168)), (1, .int (zI x1)), (2, .int (zI x2)), (3, .int (zI x3))] [] st := by
  unfold J_X12_rest at h
  refine z_ldc2 1000000000000000000 hc kc_RX12_205 dX12_rest_0 rfl ?_
  refine z_lstore [(4, .long (zJ 1000000000000000000)), (0, .ref (a 168)), (1, .int (zI x1)), (2, .int (zI x2)), (3, .int (zI x3))] hc dX12_rest_3 (by decide) rfl ?_
  refine z_iconst hc dX12_rest_5 ?_
  refine z_istore [(6, .int (zI 0)), (4, .long (zJ 1000000000000000000)), (0, .ref (a 168)), (1, .int (zI x1)), (2, .int (zI x2)), (3, .int (zI x3))] hc dX12_rest_6 (by decide) rfl ?_
  obtain ⟨lx6, hlx6, h⟩ := z_b_some h
  refine z_sub [(0, .ref (a 168)), (1, .int (zI x1)), (2, .int (zI x2)), (3, .int (zI x3)), (4, .long (zJ 1000000000000000000)), (6, .int (zI 0))] [2, 3, 4, 5, 1, 0] rfl ?_
  refine z_loop (fun q9 : (Int × Int) => J_X12_rest_b8 x1 x2 x3 q9.1 q9.2 st) (fun q9 : (Int × Int) => z_V κ z_T z_N a 0 0 8 [(0, .ref (a 168)), (1, .int (zI x1)), (2, .int (zI x2)), (3, .int (zI x3)), (4, .long (zJ q9.1)), (6, .int (zI q9.2))] [] st) (fun x9 : Int => z_V κ z_T z_N a 0 0 41 [(4, .long (zJ x9))] [] st) (fun q9 o9 hb k1 k2 => ?_) _ _ _ hlx6 ?_
  · exact w_X12_rest_b8 hc hap k1 k2 hb
  · show z_V κ z_T z_N a 0 0 41 [(4, .long (zJ lx6))] [] st
    refine z_lload 0 hc dX12_rest_41 rfl ?_
    have h := Option.some.inj h
    subst h
    exact z_retJ hc he dX12_rest_43
set_option maxRecDepth 100000 in
set_option maxHeartbeats 4000000 in
theorem c_X12_rest {l : Launch} (hl : l.stackTraces = false) {a : Nat → Nat} {x1 x2 x3 : Int} {st : z_St} {o : Int} (h : J_X12_rest x1 x2 x3 st = some o) : z_M 1 l yX12_rest cX12_rest 7 (some .long) 9 z_T z_N a [.ref (a 168), .int (zI x1), .int (zI x2), .int (zI x3)] st o st := z_of hl (by decide +kernel) (Nat.le_of_ble_eq_true rfl) (fun κ hc hap he => w_X12_rest hc hap he h)
theorem dX12_through_0 : decode cX12_through 0 = .ok (.iload_n 2, 1) := by decide +kernel
theorem dX12_through_1 : decode cX12_through 1 = .ok (.ifCond .ne 20, 3) := by decide +kernel
theorem dX12_through_4 : decode cX12_through 4 = .ok (.aload_n 0, 1) := by decide +kernel
theorem dX12_through_5 : decode cX12_through 5 = .ok (.iconst 5, 1) := by decide +kernel
theorem dX12_through_6 : decode cX12_through 6 = .ok (.iload_n 1, 1) := by decide +kernel
theorem dX12_through_7 : decode cX12_through 7 = .ok (.invokevirtual 253, 3) := by decide +kernel
theorem dX12_through_10 : decode cX12_through 10 = .ok (.aload_n 0, 1) := by decide +kernel
theorem dX12_through_11 : decode cX12_through 11 = .ok (.iload_n 1, 1) := by decide +kernel
theorem dX12_through_12 : decode cX12_through 12 = .ok (.iload_n 3, 1) := by decide +kernel
theorem dX12_through_13 : decode cX12_through 13 = .ok (.iconst 3, 1) := by decide +kernel
theorem dX12_through_14 : decode cX12_through 14 = .ok (.invokevirtual 291, 3) := by decide +kernel
theorem dX12_through_17 : decode cX12_through 17 = .ok (.ladd, 1) := by decide +kernel
theorem dX12_through_18 : decode cX12_through 18 = .ok (.goto 6, 3) := by decide +kernel
theorem dX12_through_21 : decode cX12_through 21 = .ok (.ldc2_w 205, 3) := by decide +kernel
theorem dX12_through_24 : decode cX12_through 24 = .ok (.lstore 4, 2) := by decide +kernel
theorem dX12_through_26 : decode cX12_through 26 = .ok (.iconst 1, 1) := by decide +kernel
theorem dX12_through_27 : decode cX12_through 27 = .ok (.istore 6, 2) := by decide +kernel
theorem dX12_through_29 : decode cX12_through 29 = .ok (.iload 6, 2) := by decide +kernel
theorem dX12_through_31 : decode cX12_through 31 = .ok (.iconst 3, 1) := by decide +kernel
theorem dX12_through_32 : decode cX12_through 32 = .ok (.if_icmp .gt 72, 3) := by decide +kernel
theorem dX12_through_35 : decode cX12_through 35 = .ok (.iload_n 2, 1) := by decide +kernel
theorem dX12_through_36 : decode cX12_through 36 = .ok (.ifCond .le 68, 3) := by decide +kernel
theorem dX12_through_39 : decode cX12_through 39 = .ok (.iconst 0, 1) := by decide +kernel
theorem dX12_through_40 : decode cX12_through 40 = .ok (.istore 7, 2) := by decide +kernel
theorem dX12_through_42 : decode cX12_through 42 = .ok (.iload 7, 2) := by decide +kernel
theorem dX12_through_44 : decode cX12_through 44 = .ok (.aload_n 0, 1) := by decide +kernel
theorem dX12_through_45 : decode cX12_through 45 = .ok (.getfield 189, 3) := by decide +kernel
theorem dX12_through_48 : decode cX12_through 48 = .ok (.if_icmp .ge 50, 3) := by decide +kernel
theorem dX12_through_51 : decode cX12_through 51 = .ok (.aload_n 0, 1) := by decide +kernel
theorem dX12_through_52 : decode cX12_through 52 = .ok (.lload 4, 2) := by decide +kernel
theorem dX12_through_54 : decode cX12_through 54 = .ok (.aload_n 0, 1) := by decide +kernel
theorem dX12_through_55 : decode cX12_through 55 = .ok (.getfield 97, 3) := by decide +kernel
theorem dX12_through_58 : decode cX12_through 58 = .ok (.aload_n 0, 1) := by decide +kernel
theorem dX12_through_59 : decode cX12_through 59 = .ok (.iload 6, 2) := by decide +kernel
theorem dX12_through_61 : decode cX12_through 61 = .ok (.iload_n 2, 1) := by decide +kernel
theorem dX12_through_62 : decode cX12_through 62 = .ok (.iload 7, 2) := by decide +kernel
theorem dX12_through_64 : decode cX12_through 64 = .ok (.invokevirtual 288, 3) := by decide +kernel
theorem dX12_through_67 : decode cX12_through 67 = .ok (.laload, 1) := by decide +kernel
theorem dX12_through_68 : decode cX12_through 68 = .ok (.aload_n 0, 1) := by decide +kernel
theorem dX12_through_69 : decode cX12_through 69 = .ok (.iload 7, 2) := by decide +kernel
theorem dX12_through_71 : decode cX12_through 71 = .ok (.iload_n 1, 1) := by decide +kernel
theorem dX12_through_72 : decode cX12_through 72 = .ok (.invokevirtual 253, 3) := by decide +kernel
theorem dX12_through_75 : decode cX12_through 75 = .ok (.ladd, 1) := by decide +kernel
theorem dX12_through_76 : decode cX12_through 76 = .ok (.aload_n 0, 1) := by decide +kernel
theorem dX12_through_77 : decode cX12_through 77 = .ok (.iload_n 1, 1) := by decide +kernel
theorem dX12_through_78 : decode cX12_through 78 = .ok (.iload_n 3, 1) := by decide +kernel
theorem dX12_through_79 : decode cX12_through 79 = .ok (.iconst 3, 1) := by decide +kernel
theorem dX12_through_80 : decode cX12_through 80 = .ok (.iload 6, 2) := by decide +kernel
theorem dX12_through_82 : decode cX12_through 82 = .ok (.isub, 1) := by decide +kernel
theorem dX12_through_83 : decode cX12_through 83 = .ok (.invokevirtual 291, 3) := by decide +kernel
theorem dX12_through_86 : decode cX12_through 86 = .ok (.ladd, 1) := by decide +kernel
theorem dX12_through_87 : decode cX12_through 87 = .ok (.invokevirtual 207, 3) := by decide +kernel
theorem dX12_through_90 : decode cX12_through 90 = .ok (.lstore 4, 2) := by decide +kernel
theorem dX12_through_92 : decode cX12_through 92 = .ok (.iinc 7 1, 3) := by decide +kernel
theorem dX12_through_95 : decode cX12_through 95 = .ok (.goto (-53), 3) := by decide +kernel
theorem dX12_through_98 : decode cX12_through 98 = .ok (.iinc 6 1, 3) := by decide +kernel
theorem dX12_through_101 : decode cX12_through 101 = .ok (.goto (-72), 3) := by decide +kernel
theorem dX12_through_104 : decode cX12_through 104 = .ok (.lload 4, 2) := by decide +kernel
theorem dX12_through_106 : decode cX12_through 106 = .ok (.aload_n 0, 1) := by decide +kernel
theorem dX12_through_107 : decode cX12_through 107 = .ok (.iload_n 1, 1) := by decide +kernel
theorem dX12_through_108 : decode cX12_through 108 = .ok (.iload_n 2, 1) := by decide +kernel
theorem dX12_through_109 : decode cX12_through 109 = .ok (.iload_n 3, 1) := by decide +kernel
theorem dX12_through_110 : decode cX12_through 110 = .ok (.invokevirtual 221, 3) := by decide +kernel
theorem dX12_through_113 : decode cX12_through 113 = .ok (.ladd, 1) := by decide +kernel
theorem dX12_through_114 : decode cX12_through 114 = .ok (.lstore 4, 2) := by decide +kernel
theorem dX12_through_116 : decode cX12_through 116 = .ok (.lload 4, 2) := by decide +kernel
theorem dX12_through_118 : decode cX12_through 118 = .ok (.ldc2_w 205, 3) := by decide +kernel
theorem dX12_through_121 : decode cX12_through 121 = .ok (.lcmp, 1) := by decide +kernel
theorem dX12_through_122 : decode cX12_through 122 = .ok (.ifCond .ge 8, 3) := by decide +kernel
theorem dX12_through_125 : decode cX12_through 125 = .ok (.lload 4, 2) := by decide +kernel
theorem dX12_through_127 : decode cX12_through 127 = .ok (.goto 6, 3) := by decide +kernel
theorem dX12_through_130 : decode cX12_through 130 = .ok (.ldc2_w 205, 3) := by decide +kernel
theorem dX12_through_133 : decode cX12_through 133 = .ok (.lreturn, 1) := by decide +kernel
def J_X12_through_b42 (v1 v2 v3 v6 v4 v7 : Int) (st : z_St) : Option ((Int × Int) ⊕ Int) :=
  z_g (z32 v7 ∧ z32 (st 168 18)) (if v7 < st 168 18 then
    z_b (J_X12_row5 v6 v2 v7 st) fun r5 =>
    z_g (0 ≤ r5 ∧ r5 < 425) <|
    z_b (J_X12_dear v7 v1 st) fun r8 =>
    z_b (J_X12_rest v1 v3 (3 - v6) st) fun r10 =>
    z_b (J_X12_least v4 (((st 195 r5) + r8) + r10) st) fun r12 =>
    some (.inl (r12, v7 + 1))
  else
    some (.inr v4))
set_option maxRecDepth 100000 in
set_option maxHeartbeats 4000000 in
theorem w_X12_through_b42 {κ : zK} {a : Nat → Nat} {v1 v2 v3 v4 v6 v7 : Int} {st : z_St} {mc9 ms9 : Nat} {o : (Int × Int) ⊕ Int} (hc : z_C κ RX12 cX12_through 8 11 mc9 ms9) (hap : z_AP κ a z_N) (k1 : ∀ s9 : (Int × Int), o = .inl s9 → z_V κ z_T z_N a 0 0 42 [(0, .ref (a 168)), (1, .int (zI v1)), (2, .int (zI v2)), (3, .int (zI v3)), (4, .long (zJ s9.1)), (6, .int (zI v6)), (7, .int (zI s9.2))] [] st) (k2 : ∀ x9 : Int, o = .inr x9 → z_V κ z_T z_N a 0 0 98 [(0, .ref (a 168)), (1, .int (zI v1)), (2, .int (zI v2)), (3, .int (zI v3)), (4, .long (zJ x9)), (6, .int (zI v6))] [] st) (h : J_X12_through_b42 v1 v2 v3 v6 v4 v7 st = some o) : z_V κ z_T z_N a 0 0 42 [(0, .ref (a 168)), (1, .int (zI v1)), (2, .int (zI v2)), (3, .int (zI v3)), (4, .long (zJ v4)), (6, .int (zI v6)), (7, .int (zI v7))] [] st := by
  unfold J_X12_through_b42 at h
  refine z_iload 6 hc dX12_through_42 rfl ?_
  refine z_aload_n (i := 0) 0 hc dX12_through_44 rfl rfl ?_
  refine z_getI (kI := 168) (jI := 18) hc fl_RX12_189 tT_168 (by decide) rfl rfl rfl dX12_through_45 ?_
  refine z_icmp_ge (tgt := 98) hc dX12_through_48 (by decide) h (fun c48 h => ?_) (fun c48 h => ?_)
  · refine z_aload_n (i := 0) 0 hc dX12_through_51 rfl rfl ?_
    refine z_lload 4 hc dX12_through_52 rfl ?_
    refine z_aload_n (i := 0) 0 hc dX12_through_54 rfl rfl ?_
    refine z_getA (k' := 195) hc fl_RX12_97 tT_168 (by decide) rfl rfl dX12_through_55 ?_
    refine z_aload_n (i := 0) 0 hc dX12_through_58 rfl rfl ?_
    refine z_iload 5 hc dX12_through_59 rfl ?_
    refine z_iload_n (i := 2) 2 hc dX12_through_61 rfl rfl ?_
    refine z_iload 6 hc dX12_through_62 rfl ?_
    obtain ⟨r5, hr5, h⟩ := z_b_some h
    refine z_callVI [.int (zI v6), .int (zI v2), .int (zI v7)] hc hap o_X12_row5 ml_RX12_288 (fun l hl => c_X12_row5 hl  hr5) (by decide) tT_168 (by decide) ⟨_, rfl, rfl⟩ rfl rfl (Nat.le_of_ble_eq_true rfl) (Nat.zero_le _) (Nat.zero_le _) dX12_through_64 ?_
    refine z_lald (kI := 195) (nI9 := 425) hc tT_195 (by decide) rfl rfl (by decide) dX12_through_67 h (fun g7 h => ?_)
    refine z_aload_n (i := 0) 0 hc dX12_through_68 rfl rfl ?_
    refine z_iload 6 hc dX12_through_69 rfl ?_
    refine z_iload_n (i := 1) 1 hc dX12_through_71 rfl rfl ?_
    obtain ⟨r8, hr8, h⟩ := z_b_some h
    refine z_callVJ [.int (zI v7), .int (zI v1)] hc hap o_X12_dear ml_RX12_253 (fun l hl => c_X12_dear hl  hr8) (by decide) tT_168 (by decide) ⟨_, rfl, rfl⟩ rfl rfl (Nat.le_of_ble_eq_true rfl) (Nat.zero_le _) (Nat.zero_le _) dX12_through_72 ?_
    refine z_ladd hc dX12_through_75 ?_
    refine z_aload_n (i := 0) 0 hc dX12_through_76 rfl rfl ?_
    refine z_iload_n (i := 1) 1 hc dX12_through_77 rfl rfl ?_
    refine z_iload_n (i := 3) 3 hc dX12_through_78 rfl rfl ?_
    refine z_iconst hc dX12_through_79 ?_
    refine z_iload 5 hc dX12_through_80 rfl ?_
    refine z_isub hc dX12_through_82 ?_
    obtain ⟨r10, hr10, h⟩ := z_b_some h
    refine z_callVJ [.int (zI v1), .int (zI v3), .int (zI (3 - v6))] hc hap o_X12_rest ml_RX12_291 (fun l hl => c_X12_rest hl  hr10) (by decide) tT_168 (by decide) ⟨_, rfl, rfl⟩ rfl rfl (Nat.le_of_ble_eq_true rfl) (Nat.zero_le _) (Nat.zero_le _) dX12_through_83 ?_
    refine z_ladd hc dX12_through_86 ?_
    obtain ⟨r12, hr12, h⟩ := z_b_some h
    refine z_callVJ [.long (zJ v4), .long (zJ (((st 195 r5) + r8) + r10))] hc hap o_X12_least ml_RX12_207 (fun l hl => c_X12_least hl  hr12) (by decide) tT_168 (by decide) ⟨_, rfl, rfl⟩ rfl rfl (Nat.le_of_ble_eq_true rfl) (Nat.zero_le _) (Nat.zero_le _) dX12_through_87 ?_
    refine z_lstore [(4, .long (zJ r12)), (0, .ref (a 168)), (1, .int (zI v1)), (2, .int (zI v2)), (3, .int (zI v3)), (6, .int (zI v6)), (7, .int (zI v7))] hc dX12_through_90 (by decide) rfl ?_
    refine z_iinc [(7, .int (zI (v7 + 1))), (4, .long (zJ r12)), (0, .ref (a 168)), (1, .int (zI v1)), (2, .int (zI v2)), (3, .int (zI v3)), (6, .int (zI v6))] 6 hc dX12_through_92 rfl (by decide) rfl ?_
    refine z_goto (tgt := 42) hc dX12_through_95 (by decide) ?_
    refine z_sub [(0, .ref (a 168)), (1, .int (zI v1)), (2, .int (zI v2)), (3, .int (zI v3)), (4, .long (zJ r12)), (6, .int (zI v6)), (7, .int (zI (v7 + 1)))] [2, 3, 4, 5, 1, 6, 0] rfl ?_
    exact k1 _ (Option.some.inj h).symm
  · refine z_sub [(0, .ref (a 168)), (1, .int (zI v1)), (2, .int (zI v2)), (3, .int (zI v3)), (4, .long (zJ v4)), (6, .int (zI v6))] [0, 1, 2, 3, 4, 5] rfl ?_
    exact k2 v4 (Option.some.inj h).symm
def J_X12_through_b29 (v1 v2 v3 v4 v6 : Int) (st : z_St) : Option ((Int × Int) ⊕ Int) :=
  z_g (z32 v6 ∧ z32 3) (if 3 < v6 then
    some (.inr v4)
  else
    z_g (z32 v2) (if 0 < v2 then
      z_b (z_iter z_F (fun q9 : (Int × Int) => J_X12_through_b42 v1 v2 v3 v6 q9.1 q9.2 st) (v4, 0)) fun lx14 =>
        some (.inl (lx14, v6 + 1))
    else
      some (.inr v4)))
set_option maxRecDepth 100000 in
set_option maxHeartbeats 4000000 in
theorem w_X12_through_b29 {κ : zK} {a : Nat → Nat} {v1 v2 v3 v4 v6 : Int} {st : z_St} {mc9 ms9 : Nat} {o : (Int × Int) ⊕ Int} (hc : z_C κ RX12 cX12_through 8 11 mc9 ms9) (hap : z_AP κ a z_N) (k1 : ∀ s9 : (Int × Int), o = .inl s9 → z_V κ z_T z_N a 0 0 29 [(0, .ref (a 168)), (1, .int (zI v1)), (2, .int (zI v2)), (3, .int (zI v3)), (4, .long (zJ s9.1)), (6, .int (zI s9.2))] [] st) (k2 : ∀ x9 : Int, o = .inr x9 → z_V κ z_T z_N a 0 0 104 [(0, .ref (a 168)), (1, .int (zI v1)), (2, .int (zI v2)), (3, .int (zI v3)), (4, .long (zJ x9))] [] st) (h : J_X12_through_b29 v1 v2 v3 v4 v6 st = some o) : z_V κ z_T z_N a 0 0 29 [(0, .ref (a 168)), (1, .int (zI v1)), (2, .int (zI v2)), (3, .int (zI v3)), (4, .long (zJ v4)), (6, .int (zI v6))] [] st := by
  unfold J_X12_through_b29 at h
  refine z_iload 5 hc dX12_through_29 rfl ?_
  refine z_iconst hc dX12_through_31 ?_
  refine z_icmp_gt (tgt := 104) hc dX12_through_32 (by decide) h (fun c32 h => ?_) (fun c32 h => ?_)
  · refine z_sub [(0, .ref (a 168)), (1, .int (zI v1)), (2, .int (zI v2)), (3, .int (zI v3)), (4, .long (zJ v4))] [0, 1, 2, 3, 4] rfl ?_
    exact k2 v4 (Option.some.inj h).symm
  · refine z_iload_n (i := 2) 2 hc dX12_through_35 rfl rfl ?_
    refine z_if_le (tgt := 104) hc dX12_through_36 (by decide) h (fun c36 h => ?_) (fun c36 h => ?_)
    · refine z_iconst hc dX12_through_39 ?_
      refine z_istore [(7, .int (zI 0)), (0, .ref (a 168)), (1, .int (zI v1)), (2, .int (zI v2)), (3, .int (zI v3)), (4, .long (zJ v4)), (6, .int (zI v6))] hc dX12_through_40 (by decide) rfl ?_
      obtain ⟨lx14, hlx14, h⟩ := z_b_some h
      refine z_sub [(0, .ref (a 168)), (1, .int (zI v1)), (2, .int (zI v2)), (3, .int (zI v3)), (4, .long (zJ v4)), (6, .int (zI v6)), (7, .int (zI 0))] [1, 2, 3, 4, 5, 6, 0] rfl ?_
      refine z_loop (fun q9 : (Int × Int) => J_X12_through_b42 v1 v2 v3 v6 q9.1 q9.2 st) (fun q9 : (Int × Int) => z_V κ z_T z_N a 0 0 42 [(0, .ref (a 168)), (1, .int (zI v1)), (2, .int (zI v2)), (3, .int (zI v3)), (4, .long (zJ q9.1)), (6, .int (zI v6)), (7, .int (zI q9.2))] [] st) (fun x9 : Int => z_V κ z_T z_N a 0 0 98 [(0, .ref (a 168)), (1, .int (zI v1)), (2, .int (zI v2)), (3, .int (zI v3)), (4, .long (zJ x9)), (6, .int (zI v6))] [] st) (fun q9 o9 hb k1 k2 => ?_) _ _ _ hlx14 ?_
      · exact w_X12_through_b42 hc hap k1 k2 hb
      · show z_V κ z_T z_N a 0 0 98 [(0, .ref (a 168)), (1, .int (zI v1)), (2, .int (zI v2)), (3, .int (zI v3)), (4, .long (zJ lx14)), (6, .int (zI v6))] [] st
        refine z_iinc [(6, .int (zI (v6 + 1))), (0, .ref (a 168)), (1, .int (zI v1)), (2, .int (zI v2)), (3, .int (zI v3)), (4, .long (zJ lx14))] 5 hc dX12_through_98 rfl (by decide) rfl ?_
        refine z_goto (tgt := 29) hc dX12_through_101 (by decide) ?_
        refine z_sub [(0, .ref (a 168)), (1, .int (zI v1)), (2, .int (zI v2)), (3, .int (zI v3)), (4, .long (zJ lx14)), (6, .int (zI (v6 + 1)))] [1, 2, 3, 4, 5, 0] rfl ?_
        exact k1 _ (Option.some.inj h).symm
    · refine z_sub [(0, .ref (a 168)), (1, .int (zI v1)), (2, .int (zI v2)), (3, .int (zI v3)), (4, .long (zJ v4))] [0, 1, 2, 3, 4] rfl ?_
      exact k2 v4 (Option.some.inj h).symm
def J_X12_through_133 (s0 : Int) (st : z_St) : Option (Int) :=
  some s0
set_option maxRecDepth 100000 in
set_option maxHeartbeats 4000000 in
theorem w_X12_through_133 {κ : zK} {a : Nat → Nat} {s0 : Int} {st : z_St} {o : Int} (hc : z_C κ RX12 cX12_through 8 11 0 0) (hap : z_AP κ a z_N) (he : z_E 1 κ (some .long) z_T z_N a o st) (h : J_X12_through_133 s0 st = some o) : z_V κ z_T z_N a 0 0 133 [] [.long (zJ s0)] st := by
  unfold J_X12_through_133 at h
  have h := Option.some.inj h
  subst h
  exact z_retJ hc he dX12_through_133
def J_X12_through_24 (v1 v2 v3 s0 : Int) (st : z_St) : Option (Int) :=
  z_b (z_iter z_F (fun q9 : (Int × Int) => J_X12_through_b29 v1 v2 v3 q9.1 q9.2 st) (s0, 1)) fun lx15 =>
    z_b (J_X12_tableOf v1 v2 v3 st) fun r16 =>
    z_g (z64 (lx15 + r16) ∧ z64 1000000000000000000) (if lx15 + r16 < 1000000000000000000 then
      J_X12_through_133 (lx15 + r16) st
    else
      J_X12_through_133 1000000000000000000 st)
set_option maxRecDepth 100000 in
set_option maxHeartbeats 4000000 in
theorem w_X12_through_24 {κ : zK} {a : Nat → Nat} {v1 v2 v3 s0 : Int} {st : z_St} {o : Int} (hc : z_C κ RX12 cX12_through 8 11 0 0) (hap : z_AP κ a z_N) (he : z_E 1 κ (some .long) z_T z_N a o st) (h : J_X12_through_24 v1 v2 v3 s0 st = some o) : z_V κ z_T z_N a 0 0 24 [(0, .ref (a 168)), (1, .int (zI v1)), (2, .int (zI v2)), (3, .int (zI v3))] [.long (zJ s0)] st := by
  unfold J_X12_through_24 at h
  refine z_lstore [(4, .long (zJ s0)), (0, .ref (a 168)), (1, .int (zI v1)), (2, .int (zI v2)), (3, .int (zI v3))] hc dX12_through_24 (by decide) rfl ?_
  refine z_iconst hc dX12_through_26 ?_
  refine z_istore [(6, .int (zI 1)), (4, .long (zJ s0)), (0, .ref (a 168)), (1, .int (zI v1)), (2, .int (zI v2)), (3, .int (zI v3))] hc dX12_through_27 (by decide) rfl ?_
  obtain ⟨lx15, hlx15, h⟩ := z_b_some h
  refine z_sub [(0, .ref (a 168)), (1, .int (zI v1)), (2, .int (zI v2)), (3, .int (zI v3)), (4, .long (zJ s0)), (6, .int (zI 1))] [2, 3, 4, 5, 1, 0] rfl ?_
  refine z_loop (fun q9 : (Int × Int) => J_X12_through_b29 v1 v2 v3 q9.1 q9.2 st) (fun q9 : (Int × Int) => z_V κ z_T z_N a 0 0 29 [(0, .ref (a 168)), (1, .int (zI v1)), (2, .int (zI v2)), (3, .int (zI v3)), (4, .long (zJ q9.1)), (6, .int (zI q9.2))] [] st) (fun x9 : Int => z_V κ z_T z_N a 0 0 104 [(0, .ref (a 168)), (1, .int (zI v1)), (2, .int (zI v2)), (3, .int (zI v3)), (4, .long (zJ x9))] [] st) (fun q9 o9 hb k1 k2 => ?_) _ _ _ hlx15 ?_
  · exact w_X12_through_b29 hc hap k1 k2 hb
  · show z_V κ z_T z_N a 0 0 104 [(0, .ref (a 168)), (1, .int (zI v1)), (2, .int (zI v2)), (3, .int (zI v3)), (4, .long (zJ lx15))] [] st
    refine z_lload 4 hc dX12_through_104 rfl ?_
    refine z_aload_n (i := 0) 0 hc dX12_through_106 rfl rfl ?_
    refine z_iload_n (i := 1) 1 hc dX12_through_107 rfl rfl ?_
    refine z_iload_n (i := 2) 2 hc dX12_through_108 rfl rfl ?_
    refine z_iload_n (i := 3) 3 hc dX12_through_109 rfl rfl ?_
    obtain ⟨r16, hr16, h⟩ := z_b_some h
    refine z_callVJ [.int (zI v1), .int (zI v2), .int (zI v3)] hc hap o_X12_tableOf ml_RX12_221 (fun l hl => c_X12_tableOf hl  hr16) (by decide) tT_168 (by decide) ⟨_, rfl, rfl⟩ rfl rfl (Nat.le_of_ble_eq_true rfl) (Nat.zero_le _) (Nat.zero_le _) dX12_through_110 ?_
    refine z_ladd hc dX12_through_113 ?_
    refine z_lstore [(4, .long (zJ (lx15 + r16))), (0, .ref (a 168)), (1, .int (zI v1)), (2, .int (zI v2)), (3, .int (zI v3))] hc dX12_through_114 (by decide) rfl ?_
    refine z_lload 0 hc dX12_through_116 rfl ?_
    refine z_ldc2 1000000000000000000 hc kc_RX12_205 dX12_through_118 rfl ?_
    refine z_lcmp_ge (tgt := 130) hc dX12_through_121 dX12_through_122 (by decide) h (fun c121 h => ?_) (fun c121 h => ?_)
    · refine z_lload 0 hc dX12_through_125 rfl ?_
      refine z_goto (tgt := 133) hc dX12_through_127 (by decide) ?_
      refine z_sub [] [] rfl ?_
      exact w_X12_through_133 hc hap he h
    · refine z_ldc2 1000000000000000000 hc kc_RX12_205 dX12_through_130 rfl ?_
      refine z_sub [] [] rfl ?_
      exact w_X12_through_133 hc hap he h
def J_X12_through (x1 x2 x3 : Int) (st : z_St) : Option (Int) :=
  z_g (z32 x2) (if x2 = 0 then
    z_b (J_X12_dear 5 x1 st) fun r1 =>
    z_b (J_X12_rest x1 x3 3 st) fun r3 =>
    J_X12_through_24 x1 x2 x3 (r1 + r3) st
  else
    J_X12_through_24 x1 x2 x3 1000000000000000000 st)
set_option maxRecDepth 100000 in
set_option maxHeartbeats 4000000 in
theorem w_X12_through {κ : zK} {a : Nat → Nat} {x1 x2 x3 : Int} {st : z_St} {o : Int} (hc : z_C κ RX12 cX12_through 8 11 0 0) (hap : z_AP κ a z_N) (he : z_E 1 κ (some .long) z_T z_N a o st) (h : J_X12_through x1 x2 x3 st = some o) : z_V κ z_T z_N a 0 0 0 [(0, .ref (a 168)), (1, .int (zI x1)), (2, .int (zI x2)), (3, .int (zI x3))] [] st := by
  unfold J_X12_through at h
  refine z_iload_n (i := 2) 2 hc dX12_through_0 rfl rfl ?_
  refine z_if_ne (tgt := 21) hc dX12_through_1 (by decide) h (fun c1 h => ?_) (fun c1 h => ?_)
  · refine z_aload_n (i := 0) 0 hc dX12_through_4 rfl rfl ?_
    refine z_iconst hc dX12_through_5 ?_
    refine z_iload_n (i := 1) 1 hc dX12_through_6 rfl rfl ?_
    obtain ⟨r1, hr1, h⟩ := z_b_some h
    refine z_callVJ [.int (zI 5), .int (zI x1)] hc hap o_X12_dear ml_RX12_253 (fun l hl => c_X12_dear hl  hr1) (by decide) tT_168 (by decide) ⟨_, rfl, rfl⟩ rfl rfl (Nat.le_of_ble_eq_true rfl) (Nat.zero_le _) (Nat.zero_le _) dX12_through_7 ?_
    refine z_aload_n (i := 0) 0 hc dX12_through_10 rfl rfl ?_
    refine z_iload_n (i := 1) 1 hc dX12_through_11 rfl rfl ?_
    refine z_iload_n (i := 3) 3 hc dX12_through_12 rfl rfl ?_
    refine z_iconst hc dX12_through_13 ?_
    obtain ⟨r3, hr3, h⟩ := z_b_some h
    refine z_callVJ [.int (zI x1), .int (zI x3), .int (zI 3)] hc hap o_X12_rest ml_RX12_291 (fun l hl => c_X12_rest hl  hr3) (by decide) tT_168 (by decide) ⟨_, rfl, rfl⟩ rfl rfl (Nat.le_of_ble_eq_true rfl) (Nat.zero_le _) (Nat.zero_le _) dX12_through_14 ?_
    refine z_ladd hc dX12_through_17 ?_
    refine z_goto (tgt := 24) hc dX12_through_18 (by decide) ?_
    refine z_sub [(0, .ref (a 168)), (1, .int (zI x1)), (2, .int (zI x2)), (3, .int (zI x3))] [0, 1, 2, 3] rfl ?_
    exact w_X12_through_24 hc hap he h
  · refine z_ldc2 1000000000000000000 hc kc_RX12_205 dX12_through_21 rfl ?_
    refine z_sub [(0, .ref (a 168)), (1, .int (zI x1)), (2, .int (zI x2)), (3, .int (zI x3))] [0, 1, 2, 3] rfl ?_
    exact w_X12_through_24 hc hap he h
set_option maxRecDepth 100000 in
set_option maxHeartbeats 4000000 in
theorem c_X12_through {l : Launch} (hl : l.stackTraces = false) {a : Nat → Nat} {x1 x2 x3 : Int} {st : z_St} {o : Int} (h : J_X12_through x1 x2 x3 st = some o) : z_M 1 l yX12_through cX12_through 8 (some .long) 11 z_T z_N a [.ref (a 168), .int (zI x1), .int (zI x2), .int (zI x3)] st o st := z_of hl (by decide +kernel) (Nat.le_of_ble_eq_true rfl) (fun κ hc hap he => w_X12_through hc hap he h)
theorem dX12_laysArcs_0 : decode cX12_laysArcs 0 = .ok (.aload_n 0, 1) := by decide +kernel
theorem dX12_laysArcs_1 : decode cX12_laysArcs 1 = .ok (.invokevirtual 159, 3) := by decide +kernel
theorem dX12_laysArcs_4 : decode cX12_laysArcs 4 = .ok (.istore_n 1, 1) := by decide +kernel
theorem dX12_laysArcs_5 : decode cX12_laysArcs 5 = .ok (.aload_n 0, 1) := by decide +kernel
theorem dX12_laysArcs_6 : decode cX12_laysArcs 6 = .ok (.invokevirtual 294, 3) := by decide +kernel
theorem dX12_laysArcs_9 : decode cX12_laysArcs 9 = .ok (.aload_n 0, 1) := by decide +kernel
theorem dX12_laysArcs_10 : decode cX12_laysArcs 10 = .ok (.invokevirtual 297, 3) := by decide +kernel
theorem dX12_laysArcs_13 : decode cX12_laysArcs 13 = .ok (.iconst 0, 1) := by decide +kernel
theorem dX12_laysArcs_14 : decode cX12_laysArcs 14 = .ok (.istore_n 2, 1) := by decide +kernel
theorem dX12_laysArcs_15 : decode cX12_laysArcs 15 = .ok (.iload_n 2, 1) := by decide +kernel
theorem dX12_laysArcs_16 : decode cX12_laysArcs 16 = .ok (.aload_n 0, 1) := by decide +kernel
theorem dX12_laysArcs_17 : decode cX12_laysArcs 17 = .ok (.getfield 189, 3) := by decide +kernel
theorem dX12_laysArcs_20 : decode cX12_laysArcs 20 = .ok (.if_icmp .ge 92, 3) := by decide +kernel
theorem dX12_laysArcs_23 : decode cX12_laysArcs 23 = .ok (.iconst 0, 1) := by decide +kernel
theorem dX12_laysArcs_24 : decode cX12_laysArcs 24 = .ok (.istore_n 3, 1) := by decide +kernel
theorem dX12_laysArcs_25 : decode cX12_laysArcs 25 = .ok (.iload_n 3, 1) := by decide +kernel
theorem dX12_laysArcs_26 : decode cX12_laysArcs 26 = .ok (.aload_n 0, 1) := by decide +kernel
theorem dX12_laysArcs_27 : decode cX12_laysArcs 27 = .ok (.getfield 128, 3) := by decide +kernel
theorem dX12_laysArcs_30 : decode cX12_laysArcs 30 = .ok (.if_icmp .ge 76, 3) := by decide +kernel
theorem dX12_laysArcs_33 : decode cX12_laysArcs 33 = .ok (.iload_n 3, 1) := by decide +kernel
theorem dX12_laysArcs_34 : decode cX12_laysArcs 34 = .ok (.iconst 1, 1) := by decide +kernel
theorem dX12_laysArcs_35 : decode cX12_laysArcs 35 = .ok (.iadd, 1) := by decide +kernel
theorem dX12_laysArcs_36 : decode cX12_laysArcs 36 = .ok (.istore 4, 2) := by decide +kernel
theorem dX12_laysArcs_38 : decode cX12_laysArcs 38 = .ok (.iload 4, 2) := by decide +kernel
theorem dX12_laysArcs_40 : decode cX12_laysArcs 40 = .ok (.aload_n 0, 1) := by decide +kernel
theorem dX12_laysArcs_41 : decode cX12_laysArcs 41 = .ok (.getfield 128, 3) := by decide +kernel
theorem dX12_laysArcs_44 : decode cX12_laysArcs 44 = .ok (.if_icmp .gt 56, 3) := by decide +kernel
theorem dX12_laysArcs_47 : decode cX12_laysArcs 47 = .ok (.aload_n 0, 1) := by decide +kernel
theorem dX12_laysArcs_48 : decode cX12_laysArcs 48 = .ok (.iload_n 2, 1) := by decide +kernel
theorem dX12_laysArcs_49 : decode cX12_laysArcs 49 = .ok (.iload_n 3, 1) := by decide +kernel
theorem dX12_laysArcs_50 : decode cX12_laysArcs 50 = .ok (.iload 4, 2) := by decide +kernel
theorem dX12_laysArcs_52 : decode cX12_laysArcs 52 = .ok (.invokevirtual 300, 3) := by decide +kernel
theorem dX12_laysArcs_55 : decode cX12_laysArcs 55 = .ok (.lstore 5, 2) := by decide +kernel
theorem dX12_laysArcs_57 : decode cX12_laysArcs 57 = .ok (.aload_n 0, 1) := by decide +kernel
theorem dX12_laysArcs_58 : decode cX12_laysArcs 58 = .ok (.getfield 103, 3) := by decide +kernel
theorem dX12_laysArcs_61 : decode cX12_laysArcs 61 = .ok (.aload_n 0, 1) := by decide +kernel
theorem dX12_laysArcs_62 : decode cX12_laysArcs 62 = .ok (.iload_n 2, 1) := by decide +kernel
theorem dX12_laysArcs_63 : decode cX12_laysArcs 63 = .ok (.iload_n 3, 1) := by decide +kernel
theorem dX12_laysArcs_64 : decode cX12_laysArcs 64 = .ok (.iload 4, 2) := by decide +kernel
theorem dX12_laysArcs_66 : decode cX12_laysArcs 66 = .ok (.invokevirtual 211, 3) := by decide +kernel
theorem dX12_laysArcs_69 : decode cX12_laysArcs 69 = .ok (.lload 5, 2) := by decide +kernel
theorem dX12_laysArcs_71 : decode cX12_laysArcs 71 = .ok (.ldc2_w 205, 3) := by decide +kernel
theorem dX12_laysArcs_74 : decode cX12_laysArcs 74 = .ok (.lcmp, 1) := by decide +kernel
theorem dX12_laysArcs_75 : decode cX12_laysArcs 75 = .ok (.ifCond .ge 15, 3) := by decide +kernel
theorem dX12_laysArcs_78 : decode cX12_laysArcs 78 = .ok (.lload 5, 2) := by decide +kernel
theorem dX12_laysArcs_80 : decode cX12_laysArcs 80 = .ok (.aload_n 0, 1) := by decide +kernel
theorem dX12_laysArcs_81 : decode cX12_laysArcs 81 = .ok (.getfield 78, 3) := by decide +kernel
theorem dX12_laysArcs_84 : decode cX12_laysArcs 84 = .ok (.iload_n 1, 1) := by decide +kernel
theorem dX12_laysArcs_85 : decode cX12_laysArcs 85 = .ok (.laload, 1) := by decide +kernel
theorem dX12_laysArcs_86 : decode cX12_laysArcs 86 = .ok (.lsub, 1) := by decide +kernel
theorem dX12_laysArcs_87 : decode cX12_laysArcs 87 = .ok (.goto 6, 3) := by decide +kernel
theorem dX12_laysArcs_90 : decode cX12_laysArcs 90 = .ok (.ldc2_w 205, 3) := by decide +kernel
theorem dX12_laysArcs_93 : decode cX12_laysArcs 93 = .ok (.lastore, 1) := by decide +kernel
theorem dX12_laysArcs_94 : decode cX12_laysArcs 94 = .ok (.iinc 4 1, 3) := by decide +kernel
theorem dX12_laysArcs_97 : decode cX12_laysArcs 97 = .ok (.goto (-59), 3) := by decide +kernel
theorem dX12_laysArcs_100 : decode cX12_laysArcs 100 = .ok (.iinc 3 1, 3) := by decide +kernel
theorem dX12_laysArcs_103 : decode cX12_laysArcs 103 = .ok (.goto (-78), 3) := by decide +kernel
theorem dX12_laysArcs_106 : decode cX12_laysArcs 106 = .ok (.iinc 2 1, 3) := by decide +kernel
theorem dX12_laysArcs_109 : decode cX12_laysArcs 109 = .ok (.goto (-94), 3) := by decide +kernel
theorem dX12_laysArcs_112 : decode cX12_laysArcs 112 = .ok (.iload_n 1, 1) := by decide +kernel
theorem dX12_laysArcs_113 : decode cX12_laysArcs 113 = .ok (.ireturn, 1) := by decide +kernel
def J_X12_laysArcs_93 (v1 v2 v3 v4 s0 s1 : Int) (st : z_St) : Option ((Int × z_St) ⊕ z_St) :=
  z_g (0 ≤ s1 ∧ s1 < 1445) <|
  z_let (z_up st 197 s1 s0) fun st12 =>
  some (.inl (v4 + 1, st12))
set_option maxRecDepth 100000 in
set_option maxHeartbeats 4000000 in
theorem w_X12_laysArcs_93 {κ : zK} {a : Nat → Nat} {v1 v2 v3 v4 s0 s1 : Int} {st : z_St} {mc9 ms9 : Nat} {o : (Int × z_St) ⊕ z_St} (hc : z_C κ RX12 cX12_laysArcs 7 13 mc9 ms9) (hap : z_AP κ a z_N) (k1 : ∀ s9 : (Int × z_St), o = .inl s9 → z_V κ z_T z_N a 0 0 38 [(0, .ref (a 168)), (1, .int (zI v1)), (2, .int (zI v2)), (3, .int (zI v3)), (4, .int (zI s9.1))] [] s9.2) (k2 : ∀ x9 : z_St, o = .inr x9 → z_V κ z_T z_N a 0 0 100 [(0, .ref (a 168)), (1, .int (zI v1)), (2, .int (zI v2)), (3, .int (zI v3))] [] x9) (h : J_X12_laysArcs_93 v1 v2 v3 v4 s0 s1 st = some o) : z_V κ z_T z_N a 0 0 93 [(0, .ref (a 168)), (1, .int (zI v1)), (2, .int (zI v2)), (3, .int (zI v3)), (4, .int (zI v4))] [.long (zJ s0), .int (zI s1), .ref (a 197)] st := by
  unfold J_X12_laysArcs_93 at h
  refine z_last (kI := 197) (nI9 := 1445) hc hap tT_197 (by decide) rfl rfl (by decide) dX12_laysArcs_93 h (fun st12 h => ?_)
  refine z_iinc [(4, .int (zI (v4 + 1))), (0, .ref (a 168)), (1, .int (zI v1)), (2, .int (zI v2)), (3, .int (zI v3))] 4 hc dX12_laysArcs_94 rfl (by decide) rfl ?_
  refine z_goto (tgt := 38) hc dX12_laysArcs_97 (by decide) ?_
  refine z_sub [(0, .ref (a 168)), (1, .int (zI v1)), (2, .int (zI v2)), (3, .int (zI v3)), (4, .int (zI (v4 + 1)))] [1, 2, 3, 4, 0] rfl ?_
  exact k1 _ (Option.some.inj h).symm
def J_X12_laysArcs_b38 (v1 v2 v3 v4 : Int) (st : z_St) : Option ((Int × z_St) ⊕ z_St) :=
  z_g (z32 v4 ∧ z32 (st 168 2)) (if st 168 2 < v4 then
    some (.inr st)
  else
    z_b (J_X12_through v2 v3 v4 st) fun r7 =>
    z_b (J_X12_span v2 v3 v4 st) fun r9 =>
    z_g (z64 r7 ∧ z64 1000000000000000000) (if r7 < 1000000000000000000 then
      z_g (0 ≤ v1 ∧ v1 < 780) <|
      J_X12_laysArcs_93 v1 v2 v3 v4 (r7 - (st 189 v1)) r9 st
    else
      J_X12_laysArcs_93 v1 v2 v3 v4 1000000000000000000 r9 st))
set_option maxRecDepth 100000 in
set_option maxHeartbeats 4000000 in
theorem w_X12_laysArcs_b38 {κ : zK} {a : Nat → Nat} {v1 v2 v3 v4 : Int} {st : z_St} {mc9 ms9 : Nat} {o : (Int × z_St) ⊕ z_St} (hc : z_C κ RX12 cX12_laysArcs 7 13 mc9 ms9) (hap : z_AP κ a z_N) (k1 : ∀ s9 : (Int × z_St), o = .inl s9 → z_V κ z_T z_N a 0 0 38 [(0, .ref (a 168)), (1, .int (zI v1)), (2, .int (zI v2)), (3, .int (zI v3)), (4, .int (zI s9.1))] [] s9.2) (k2 : ∀ x9 : z_St, o = .inr x9 → z_V κ z_T z_N a 0 0 100 [(0, .ref (a 168)), (1, .int (zI v1)), (2, .int (zI v2)), (3, .int (zI v3))] [] x9) (h : J_X12_laysArcs_b38 v1 v2 v3 v4 st = some o) : z_V κ z_T z_N a 0 0 38 [(0, .ref (a 168)), (1, .int (zI v1)), (2, .int (zI v2)), (3, .int (zI v3)), (4, .int (zI v4))] [] st := by
  unfold J_X12_laysArcs_b38 at h
  refine z_iload 4 hc dX12_laysArcs_38 rfl ?_
  refine z_aload_n (i := 0) 0 hc dX12_laysArcs_40 rfl rfl ?_
  refine z_getI (kI := 168) (jI := 2) hc fl_RX12_128 tT_168 (by decide) rfl rfl rfl dX12_laysArcs_41 ?_
  refine z_icmp_gt (tgt := 100) hc dX12_laysArcs_44 (by decide) h (fun c44 h => ?_) (fun c44 h => ?_)
  · refine z_sub [(0, .ref (a 168)), (1, .int (zI v1)), (2, .int (zI v2)), (3, .int (zI v3))] [0, 1, 2, 3] rfl ?_
    exact k2 st (Option.some.inj h).symm
  · refine z_aload_n (i := 0) 0 hc dX12_laysArcs_47 rfl rfl ?_
    refine z_iload_n (i := 2) 2 hc dX12_laysArcs_48 rfl rfl ?_
    refine z_iload_n (i := 3) 3 hc dX12_laysArcs_49 rfl rfl ?_
    refine z_iload 4 hc dX12_laysArcs_50 rfl ?_
    obtain ⟨r7, hr7, h⟩ := z_b_some h
    refine z_callVJ [.int (zI v2), .int (zI v3), .int (zI v4)] hc hap o_X12_through ml_RX12_300 (fun l hl => c_X12_through hl  hr7) (by decide) tT_168 (by decide) ⟨_, rfl, rfl⟩ rfl rfl (Nat.le_of_ble_eq_true rfl) (Nat.zero_le _) (Nat.zero_le _) dX12_laysArcs_52 ?_
    refine z_lstore [(5, .long (zJ r7)), (0, .ref (a 168)), (1, .int (zI v1)), (2, .int (zI v2)), (3, .int (zI v3)), (4, .int (zI v4))] hc dX12_laysArcs_55 (by decide) rfl ?_
    refine z_aload_n (i := 0) 1 hc dX12_laysArcs_57 rfl rfl ?_
    refine z_getA (k' := 197) hc fl_RX12_103 tT_168 (by decide) rfl rfl dX12_laysArcs_58 ?_
    refine z_aload_n (i := 0) 1 hc dX12_laysArcs_61 rfl rfl ?_
    refine z_iload_n (i := 2) 3 hc dX12_laysArcs_62 rfl rfl ?_
    refine z_iload_n (i := 3) 4 hc dX12_laysArcs_63 rfl rfl ?_
    refine z_iload 5 hc dX12_laysArcs_64 rfl ?_
    obtain ⟨r9, hr9, h⟩ := z_b_some h
    refine z_callVI [.int (zI v2), .int (zI v3), .int (zI v4)] hc hap o_X12_span ml_RX12_211 (fun l hl => c_X12_span hl  hr9) (by decide) tT_168 (by decide) ⟨_, rfl, rfl⟩ rfl rfl (Nat.le_of_ble_eq_true rfl) (Nat.zero_le _) (Nat.zero_le _) dX12_laysArcs_66 ?_
    refine z_lload 0 hc dX12_laysArcs_69 rfl ?_
    refine z_ldc2 1000000000000000000 hc kc_RX12_205 dX12_laysArcs_71 rfl ?_
    refine z_lcmp_ge (tgt := 90) hc dX12_laysArcs_74 dX12_laysArcs_75 (by decide) h (fun c74 h => ?_) (fun c74 h => ?_)
    · refine z_lload 0 hc dX12_laysArcs_78 rfl ?_
      refine z_aload_n (i := 0) 1 hc dX12_laysArcs_80 rfl rfl ?_
      refine z_getA (k' := 189) hc fl_RX12_78 tT_168 (by decide) rfl rfl dX12_laysArcs_81 ?_
      refine z_iload_n (i := 1) 2 hc dX12_laysArcs_84 rfl rfl ?_
      refine z_lald (kI := 189) (nI9 := 780) hc tT_189 (by decide) rfl rfl (by decide) dX12_laysArcs_85 h (fun g11 h => ?_)
      refine z_lsub hc dX12_laysArcs_86 ?_
      refine z_goto (tgt := 93) hc dX12_laysArcs_87 (by decide) ?_
      refine z_sub [(0, .ref (a 168)), (1, .int (zI v1)), (2, .int (zI v2)), (3, .int (zI v3)), (4, .int (zI v4))] [1, 2, 3, 4, 5] rfl ?_
      exact w_X12_laysArcs_93 hc hap k1 k2 h
    · refine z_ldc2 1000000000000000000 hc kc_RX12_205 dX12_laysArcs_90 rfl ?_
      refine z_sub [(0, .ref (a 168)), (1, .int (zI v1)), (2, .int (zI v2)), (3, .int (zI v3)), (4, .int (zI v4))] [1, 2, 3, 4, 5] rfl ?_
      exact w_X12_laysArcs_93 hc hap k1 k2 h
def J_X12_laysArcs_b25 (v1 v2 v3 : Int) (st : z_St) : Option ((Int × z_St) ⊕ z_St) :=
  z_g (z32 v3 ∧ z32 (st 168 2)) (if v3 < st 168 2 then
    z_b (z_iter z_F (fun q9 : (Int × z_St) => J_X12_laysArcs_b38 v1 v2 v3 q9.1 q9.2) (v3 + 1, st)) fun lx13 =>
      some (.inl (v3 + 1, lx13))
  else
    some (.inr st))
set_option maxRecDepth 100000 in
set_option maxHeartbeats 4000000 in
theorem w_X12_laysArcs_b25 {κ : zK} {a : Nat → Nat} {v1 v2 v3 : Int} {st : z_St} {mc9 ms9 : Nat} {o : (Int × z_St) ⊕ z_St} (hc : z_C κ RX12 cX12_laysArcs 7 13 mc9 ms9) (hap : z_AP κ a z_N) (k1 : ∀ s9 : (Int × z_St), o = .inl s9 → z_V κ z_T z_N a 0 0 25 [(0, .ref (a 168)), (1, .int (zI v1)), (2, .int (zI v2)), (3, .int (zI s9.1))] [] s9.2) (k2 : ∀ x9 : z_St, o = .inr x9 → z_V κ z_T z_N a 0 0 106 [(0, .ref (a 168)), (1, .int (zI v1)), (2, .int (zI v2))] [] x9) (h : J_X12_laysArcs_b25 v1 v2 v3 st = some o) : z_V κ z_T z_N a 0 0 25 [(0, .ref (a 168)), (1, .int (zI v1)), (2, .int (zI v2)), (3, .int (zI v3))] [] st := by
  unfold J_X12_laysArcs_b25 at h
  refine z_iload_n (i := 3) 3 hc dX12_laysArcs_25 rfl rfl ?_
  refine z_aload_n (i := 0) 0 hc dX12_laysArcs_26 rfl rfl ?_
  refine z_getI (kI := 168) (jI := 2) hc fl_RX12_128 tT_168 (by decide) rfl rfl rfl dX12_laysArcs_27 ?_
  refine z_icmp_ge (tgt := 106) hc dX12_laysArcs_30 (by decide) h (fun c30 h => ?_) (fun c30 h => ?_)
  · refine z_iload_n (i := 3) 3 hc dX12_laysArcs_33 rfl rfl ?_
    refine z_iconst hc dX12_laysArcs_34 ?_
    refine z_iadd hc dX12_laysArcs_35 ?_
    refine z_istore [(4, .int (zI (v3 + 1))), (0, .ref (a 168)), (1, .int (zI v1)), (2, .int (zI v2)), (3, .int (zI v3))] hc dX12_laysArcs_36 (by decide) rfl ?_
    obtain ⟨lx13, hlx13, h⟩ := z_b_some h
    refine z_sub [(0, .ref (a 168)), (1, .int (zI v1)), (2, .int (zI v2)), (3, .int (zI v3)), (4, .int (zI (v3 + 1)))] [1, 2, 3, 4, 0] rfl ?_
    refine z_loop (fun q9 : (Int × z_St) => J_X12_laysArcs_b38 v1 v2 v3 q9.1 q9.2) (fun q9 : (Int × z_St) => z_V κ z_T z_N a 0 0 38 [(0, .ref (a 168)), (1, .int (zI v1)), (2, .int (zI v2)), (3, .int (zI v3)), (4, .int (zI q9.1))] [] q9.2) (fun x9 : z_St => z_V κ z_T z_N a 0 0 100 [(0, .ref (a 168)), (1, .int (zI v1)), (2, .int (zI v2)), (3, .int (zI v3))] [] x9) (fun q9 o9 hb k1 k2 => ?_) _ _ _ hlx13 ?_
    · exact w_X12_laysArcs_b38 hc hap k1 k2 hb
    · show z_V κ z_T z_N a 0 0 100 [(0, .ref (a 168)), (1, .int (zI v1)), (2, .int (zI v2)), (3, .int (zI v3))] [] lx13
      refine z_iinc [(3, .int (zI (v3 + 1))), (0, .ref (a 168)), (1, .int (zI v1)), (2, .int (zI v2))] 3 hc dX12_laysArcs_100 rfl (by decide) rfl ?_
      refine z_goto (tgt := 25) hc dX12_laysArcs_103 (by decide) ?_
      refine z_sub [(0, .ref (a 168)), (1, .int (zI v1)), (2, .int (zI v2)), (3, .int (zI (v3 + 1)))] [1, 2, 3, 0] rfl ?_
      exact k1 _ (Option.some.inj h).symm
  · refine z_sub [(0, .ref (a 168)), (1, .int (zI v1)), (2, .int (zI v2))] [0, 1, 2] rfl ?_
    exact k2 st (Option.some.inj h).symm
def J_X12_laysArcs_b15 (v1 v2 : Int) (st : z_St) : Option ((Int × z_St) ⊕ z_St) :=
  z_g (z32 v2 ∧ z32 (st 168 18)) (if v2 < st 168 18 then
    z_b (z_iter z_F (fun q9 : (Int × z_St) => J_X12_laysArcs_b25 v1 v2 q9.1 q9.2) (0, st)) fun lx14 =>
      some (.inl (v2 + 1, lx14))
  else
    some (.inr st))
set_option maxRecDepth 100000 in
set_option maxHeartbeats 4000000 in
theorem w_X12_laysArcs_b15 {κ : zK} {a : Nat → Nat} {v1 v2 : Int} {st : z_St} {mc9 ms9 : Nat} {o : (Int × z_St) ⊕ z_St} (hc : z_C κ RX12 cX12_laysArcs 7 13 mc9 ms9) (hap : z_AP κ a z_N) (k1 : ∀ s9 : (Int × z_St), o = .inl s9 → z_V κ z_T z_N a 0 0 15 [(0, .ref (a 168)), (1, .int (zI v1)), (2, .int (zI s9.1))] [] s9.2) (k2 : ∀ x9 : z_St, o = .inr x9 → z_V κ z_T z_N a 0 0 112 [(1, .int (zI v1))] [] x9) (h : J_X12_laysArcs_b15 v1 v2 st = some o) : z_V κ z_T z_N a 0 0 15 [(0, .ref (a 168)), (1, .int (zI v1)), (2, .int (zI v2))] [] st := by
  unfold J_X12_laysArcs_b15 at h
  refine z_iload_n (i := 2) 2 hc dX12_laysArcs_15 rfl rfl ?_
  refine z_aload_n (i := 0) 0 hc dX12_laysArcs_16 rfl rfl ?_
  refine z_getI (kI := 168) (jI := 18) hc fl_RX12_189 tT_168 (by decide) rfl rfl rfl dX12_laysArcs_17 ?_
  refine z_icmp_ge (tgt := 112) hc dX12_laysArcs_20 (by decide) h (fun c20 h => ?_) (fun c20 h => ?_)
  · refine z_iconst hc dX12_laysArcs_23 ?_
    refine z_istore_n (i := 3) [(3, .int (zI 0)), (0, .ref (a 168)), (1, .int (zI v1)), (2, .int (zI v2))] hc dX12_laysArcs_24 rfl (by decide) rfl ?_
    obtain ⟨lx14, hlx14, h⟩ := z_b_some h
    refine z_sub [(0, .ref (a 168)), (1, .int (zI v1)), (2, .int (zI v2)), (3, .int (zI 0))] [1, 2, 3, 0] rfl ?_
    refine z_loop (fun q9 : (Int × z_St) => J_X12_laysArcs_b25 v1 v2 q9.1 q9.2) (fun q9 : (Int × z_St) => z_V κ z_T z_N a 0 0 25 [(0, .ref (a 168)), (1, .int (zI v1)), (2, .int (zI v2)), (3, .int (zI q9.1))] [] q9.2) (fun x9 : z_St => z_V κ z_T z_N a 0 0 106 [(0, .ref (a 168)), (1, .int (zI v1)), (2, .int (zI v2))] [] x9) (fun q9 o9 hb k1 k2 => ?_) _ _ _ hlx14 ?_
    · exact w_X12_laysArcs_b25 hc hap k1 k2 hb
    · show z_V κ z_T z_N a 0 0 106 [(0, .ref (a 168)), (1, .int (zI v1)), (2, .int (zI v2))] [] lx14
      refine z_iinc [(2, .int (zI (v2 + 1))), (0, .ref (a 168)), (1, .int (zI v1))] 2 hc dX12_laysArcs_106 rfl (by decide) rfl ?_
      refine z_goto (tgt := 15) hc dX12_laysArcs_109 (by decide) ?_
      refine z_sub [(0, .ref (a 168)), (1, .int (zI v1)), (2, .int (zI (v2 + 1)))] [1, 2, 0] rfl ?_
      exact k1 _ (Option.some.inj h).symm
  · refine z_sub [(1, .int (zI v1))] [1] rfl ?_
    exact k2 st (Option.some.inj h).symm
def J_X12_laysArcs (st : z_St) : Option (Int × z_St) :=
  z_b (J_X12_laysRows st) fun r1 =>
  z_b (J_X12_laysBefore r1.2) fun st4 =>
  z_b (J_X12_laysBehind st4) fun st6 =>
  z_b (z_iter z_F (fun q9 : (Int × z_St) => J_X12_laysArcs_b15 r1.1 q9.1 q9.2) (0, st6)) fun lx15 =>
    some (r1.1, lx15)
set_option maxRecDepth 100000 in
set_option maxHeartbeats 4000000 in
theorem w_X12_laysArcs {κ : zK} {a : Nat → Nat} {st : z_St} {o : Int × z_St} (hc : z_C κ RX12 cX12_laysArcs 7 13 0 0) (hap : z_AP κ a z_N) (he : z_E 0 κ (some .int) z_T z_N a o.1 o.2) (h : J_X12_laysArcs st = some o) : z_V κ z_T z_N a 0 0 0 [(0, .ref (a 168))] [] st := by
  unfold J_X12_laysArcs at h
  refine z_aload_n (i := 0) 0 hc dX12_laysArcs_0 rfl rfl ?_
  obtain ⟨r1, hr1, h⟩ := z_b_some h
  refine z_callVI [] hc hap o_X12_laysRows ml_RX12_159 (fun l hl => c_X12_laysRows hl  hr1) (by decide) tT_168 (by decide) ⟨_, rfl, rfl⟩ rfl rfl (Nat.le_of_ble_eq_true rfl) (Nat.zero_le _) (Nat.zero_le _) dX12_laysArcs_1 ?_
  refine z_istore_n (i := 1) [(1, .int (zI r1.1)), (0, .ref (a 168))] hc dX12_laysArcs_4 rfl (by decide) rfl ?_
  refine z_aload_n (i := 0) 1 hc dX12_laysArcs_5 rfl rfl ?_
  obtain ⟨st4, hr3, h⟩ := z_b_some h
  refine z_callVV [] hc hap o_X12_laysBefore ml_RX12_294 (fun l hl => c_X12_laysBefore hl  hr3) (by decide) tT_168 (by decide) ⟨_, rfl, rfl⟩ rfl rfl (Nat.le_of_ble_eq_true rfl) (Nat.zero_le _) (Nat.zero_le _) dX12_laysArcs_6 ?_
  refine z_aload_n (i := 0) 1 hc dX12_laysArcs_9 rfl rfl ?_
  obtain ⟨st6, hr5, h⟩ := z_b_some h
  refine z_callVV [] hc hap o_X12_laysBehind ml_RX12_297 (fun l hl => c_X12_laysBehind hl  hr5) (by decide) tT_168 (by decide) ⟨_, rfl, rfl⟩ rfl rfl (Nat.le_of_ble_eq_true rfl) (Nat.zero_le _) (Nat.zero_le _) dX12_laysArcs_10 ?_
  refine z_iconst hc dX12_laysArcs_13 ?_
  refine z_istore_n (i := 2) [(2, .int (zI 0)), (1, .int (zI r1.1)), (0, .ref (a 168))] hc dX12_laysArcs_14 rfl (by decide) rfl ?_
  obtain ⟨lx15, hlx15, h⟩ := z_b_some h
  refine z_sub [(0, .ref (a 168)), (1, .int (zI r1.1)), (2, .int (zI 0))] [2, 1, 0] rfl ?_
  refine z_loop (fun q9 : (Int × z_St) => J_X12_laysArcs_b15 r1.1 q9.1 q9.2) (fun q9 : (Int × z_St) => z_V κ z_T z_N a 0 0 15 [(0, .ref (a 168)), (1, .int (zI r1.1)), (2, .int (zI q9.1))] [] q9.2) (fun x9 : z_St => z_V κ z_T z_N a 0 0 112 [(1, .int (zI r1.1))] [] x9) (fun q9 o9 hb k1 k2 => ?_) _ _ _ hlx15 ?_
  · exact w_X12_laysArcs_b15 hc hap k1 k2 hb
  · show z_V κ z_T z_N a 0 0 112 [(1, .int (zI r1.1))] [] lx15
    refine z_iload_n (i := 1) 0 hc dX12_laysArcs_112 rfl rfl ?_
    have h := Option.some.inj h
    subst h
    exact z_retI hc he dX12_laysArcs_113
set_option maxRecDepth 100000 in
set_option maxHeartbeats 4000000 in
theorem c_X12_laysArcs {l : Launch} (hl : l.stackTraces = false) {a : Nat → Nat} {st : z_St} {o : Int × z_St} (h : J_X12_laysArcs st = some o) : z_M 0 l yX12_laysArcs cX12_laysArcs 7 (some .int) 13 z_T z_N a [.ref (a 168)] st o.1 o.2 := z_of hl (by decide +kernel) (Nat.le_of_ble_eq_true rfl) (fun κ hc hap he => w_X12_laysArcs hc hap he h)
theorem dX12_isArc_0 : decode cX12_isArc 0 = .ok (.aload_n 0, 1) := by decide +kernel
theorem dX12_isArc_1 : decode cX12_isArc 1 = .ok (.getfield 103, 3) := by decide +kernel
theorem dX12_isArc_4 : decode cX12_isArc 4 = .ok (.aload_n 0, 1) := by decide +kernel
theorem dX12_isArc_5 : decode cX12_isArc 5 = .ok (.iload_n 1, 1) := by decide +kernel
theorem dX12_isArc_6 : decode cX12_isArc 6 = .ok (.iload_n 2, 1) := by decide +kernel
theorem dX12_isArc_7 : decode cX12_isArc 7 = .ok (.iload_n 3, 1) := by decide +kernel
theorem dX12_isArc_8 : decode cX12_isArc 8 = .ok (.invokevirtual 211, 3) := by decide +kernel
theorem dX12_isArc_11 : decode cX12_isArc 11 = .ok (.laload, 1) := by decide +kernel
theorem dX12_isArc_12 : decode cX12_isArc 12 = .ok (.ldc2_w 205, 3) := by decide +kernel
theorem dX12_isArc_15 : decode cX12_isArc 15 = .ok (.lcmp, 1) := by decide +kernel
theorem dX12_isArc_16 : decode cX12_isArc 16 = .ok (.ifCond .ge 25, 3) := by decide +kernel
theorem dX12_isArc_19 : decode cX12_isArc 19 = .ok (.aload_n 0, 1) := by decide +kernel
theorem dX12_isArc_20 : decode cX12_isArc 20 = .ok (.getfield 103, 3) := by decide +kernel
theorem dX12_isArc_23 : decode cX12_isArc 23 = .ok (.aload_n 0, 1) := by decide +kernel
theorem dX12_isArc_24 : decode cX12_isArc 24 = .ok (.iload_n 1, 1) := by decide +kernel
theorem dX12_isArc_25 : decode cX12_isArc 25 = .ok (.iload_n 2, 1) := by decide +kernel
theorem dX12_isArc_26 : decode cX12_isArc 26 = .ok (.iload_n 3, 1) := by decide +kernel
theorem dX12_isArc_27 : decode cX12_isArc 27 = .ok (.invokevirtual 211, 3) := by decide +kernel
theorem dX12_isArc_30 : decode cX12_isArc 30 = .ok (.laload, 1) := by decide +kernel
theorem dX12_isArc_31 : decode cX12_isArc 31 = .ok (.lload 4, 2) := by decide +kernel
theorem dX12_isArc_33 : decode cX12_isArc 33 = .ok (.lcmp, 1) := by decide +kernel
theorem dX12_isArc_34 : decode cX12_isArc 34 = .ok (.ifCond .gt 7, 3) := by decide +kernel
theorem dX12_isArc_37 : decode cX12_isArc 37 = .ok (.iconst 1, 1) := by decide +kernel
theorem dX12_isArc_38 : decode cX12_isArc 38 = .ok (.goto 4, 3) := by decide +kernel
theorem dX12_isArc_41 : decode cX12_isArc 41 = .ok (.iconst 0, 1) := by decide +kernel
theorem dX12_isArc_42 : decode cX12_isArc 42 = .ok (.ireturn, 1) := by decide +kernel
def J_X12_isArc_42 (s0 : Int) (st : z_St) : Option (Int) :=
  z_g (s0 = 0 ∨ s0 = 1) <|
  some s0
set_option maxRecDepth 100000 in
set_option maxHeartbeats 4000000 in
theorem w_X12_isArc_42 {κ : zK} {a : Nat → Nat} {s0 : Int} {st : z_St} {o : Int} (hc : z_C κ RX12 cX12_isArc 6 9 0 0) (hap : z_AP κ a z_N) (he : z_E 0 κ (some .boolean) z_T z_N a o st) (h : J_X12_isArc_42 s0 st = some o) : z_V κ z_T z_N a 0 0 42 [] [.int (zI s0)] st := by
  unfold J_X12_isArc_42 at h
  obtain ⟨hz, h⟩ := z_g_some h
  have h := Option.some.inj h
  subst h
  exact z_retZ hc he hz dX12_isArc_42
def J_X12_isArc_41 (st : z_St) : Option (Int) :=
  J_X12_isArc_42 0 st
set_option maxRecDepth 100000 in
set_option maxHeartbeats 4000000 in
theorem w_X12_isArc_41 {κ : zK} {a : Nat → Nat} {st : z_St} {o : Int} (hc : z_C κ RX12 cX12_isArc 6 9 0 0) (hap : z_AP κ a z_N) (he : z_E 0 κ (some .boolean) z_T z_N a o st) (h : J_X12_isArc_41 st = some o) : z_V κ z_T z_N a 0 0 41 [] [] st := by
  unfold J_X12_isArc_41 at h
  refine z_iconst hc dX12_isArc_41 ?_
  refine z_sub [] [] rfl ?_
  exact w_X12_isArc_42 hc hap he h
def J_X12_isArc (x1 x2 x3 x4 : Int) (st : z_St) : Option (Int) :=
  z_b (J_X12_span x1 x2 x3 st) fun r1 =>
  z_g (0 ≤ r1 ∧ r1 < 1445) <|
  z_g (z64 (st 197 r1) ∧ z64 1000000000000000000) (if st 197 r1 < 1000000000000000000 then
    z_b (J_X12_span x1 x2 x3 st) fun r4 =>
    z_g (0 ≤ r4 ∧ r4 < 1445) <|
    z_g (z64 (st 197 r4) ∧ z64 x4) (if x4 < st 197 r4 then
      J_X12_isArc_41 st
    else
      J_X12_isArc_42 1 st)
  else
    J_X12_isArc_41 st)
set_option maxRecDepth 100000 in
set_option maxHeartbeats 4000000 in
theorem w_X12_isArc {κ : zK} {a : Nat → Nat} {x1 x2 x3 x4 : Int} {st : z_St} {o : Int} (hc : z_C κ RX12 cX12_isArc 6 9 0 0) (hap : z_AP κ a z_N) (he : z_E 0 κ (some .boolean) z_T z_N a o st) (h : J_X12_isArc x1 x2 x3 x4 st = some o) : z_V κ z_T z_N a 0 0 0 [(0, .ref (a 168)), (1, .int (zI x1)), (2, .int (zI x2)), (3, .int (zI x3)), (4, .long (zJ x4))] [] st := by
  unfold J_X12_isArc at h
  refine z_aload_n (i := 0) 0 hc dX12_isArc_0 rfl rfl ?_
  refine z_getA (k' := 197) hc fl_RX12_103 tT_168 (by decide) rfl rfl dX12_isArc_1 ?_
  refine z_aload_n (i := 0) 0 hc dX12_isArc_4 rfl rfl ?_
  refine z_iload_n (i := 1) 1 hc dX12_isArc_5 rfl rfl ?_
  refine z_iload_n (i := 2) 2 hc dX12_isArc_6 rfl rfl ?_
  refine z_iload_n (i := 3) 3 hc dX12_isArc_7 rfl rfl ?_
  obtain ⟨r1, hr1, h⟩ := z_b_some h
  refine z_callVI [.int (zI x1), .int (zI x2), .int (zI x3)] hc hap o_X12_span ml_RX12_211 (fun l hl => c_X12_span hl  hr1) (by decide) tT_168 (by decide) ⟨_, rfl, rfl⟩ rfl rfl (Nat.le_of_ble_eq_true rfl) (Nat.zero_le _) (Nat.zero_le _) dX12_isArc_8 ?_
  refine z_lald (kI := 197) (nI9 := 1445) hc tT_197 (by decide) rfl rfl (by decide) dX12_isArc_11 h (fun g3 h => ?_)
  refine z_ldc2 1000000000000000000 hc kc_RX12_205 dX12_isArc_12 rfl ?_
  refine z_lcmp_ge (tgt := 41) hc dX12_isArc_15 dX12_isArc_16 (by decide) h (fun c15 h => ?_) (fun c15 h => ?_)
  · refine z_aload_n (i := 0) 0 hc dX12_isArc_19 rfl rfl ?_
    refine z_getA (k' := 197) hc fl_RX12_103 tT_168 (by decide) rfl rfl dX12_isArc_20 ?_
    refine z_aload_n (i := 0) 0 hc dX12_isArc_23 rfl rfl ?_
    refine z_iload_n (i := 1) 1 hc dX12_isArc_24 rfl rfl ?_
    refine z_iload_n (i := 2) 2 hc dX12_isArc_25 rfl rfl ?_
    refine z_iload_n (i := 3) 3 hc dX12_isArc_26 rfl rfl ?_
    obtain ⟨r4, hr4, h⟩ := z_b_some h
    refine z_callVI [.int (zI x1), .int (zI x2), .int (zI x3)] hc hap o_X12_span ml_RX12_211 (fun l hl => c_X12_span hl  hr4) (by decide) tT_168 (by decide) ⟨_, rfl, rfl⟩ rfl rfl (Nat.le_of_ble_eq_true rfl) (Nat.zero_le _) (Nat.zero_le _) dX12_isArc_27 ?_
    refine z_lald (kI := 197) (nI9 := 1445) hc tT_197 (by decide) rfl rfl (by decide) dX12_isArc_30 h (fun g6 h => ?_)
    refine z_lload 4 hc dX12_isArc_31 rfl ?_
    refine z_lcmp_gt (tgt := 41) hc dX12_isArc_33 dX12_isArc_34 (by decide) h (fun c33 h => ?_) (fun c33 h => ?_)
    · refine z_sub [] [] rfl ?_
      exact w_X12_isArc_41 hc hap he h
    · refine z_iconst hc dX12_isArc_37 ?_
      refine z_goto (tgt := 42) hc dX12_isArc_38 (by decide) ?_
      refine z_sub [] [] rfl ?_
      exact w_X12_isArc_42 hc hap he h
  · refine z_sub [] [] rfl ?_
    exact w_X12_isArc_41 hc hap he h
set_option maxRecDepth 100000 in
set_option maxHeartbeats 4000000 in
theorem c_X12_isArc {l : Launch} (hl : l.stackTraces = false) {a : Nat → Nat} {x1 x2 x3 x4 : Int} {st : z_St} {o : Int} (h : J_X12_isArc x1 x2 x3 x4 st = some o) : z_M 0 l yX12_isArc cX12_isArc 6 (some .boolean) 9 z_T z_N a [.ref (a 168), .int (zI x1), .int (zI x2), .int (zI x3), .long (zJ x4)] st o st := z_of hl (by decide +kernel) (Nat.le_of_ble_eq_true rfl) (fun κ hc hap he => w_X12_isArc hc hap he h)
theorem dX12_arcs_0 : decode cX12_arcs 0 = .ok (.aload_n 0, 1) := by decide +kernel
theorem dX12_arcs_1 : decode cX12_arcs 1 = .ok (.lload_n 1, 1) := by decide +kernel
theorem dX12_arcs_2 : decode cX12_arcs 2 = .ok (.lconst 0, 1) := by decide +kernel
theorem dX12_arcs_3 : decode cX12_arcs 3 = .ok (.lcmp, 1) := by decide +kernel
theorem dX12_arcs_4 : decode cX12_arcs 4 = .ok (.ifCond .ge 7, 3) := by decide +kernel
theorem dX12_arcs_7 : decode cX12_arcs 7 = .ok (.iconst 1, 1) := by decide +kernel
theorem dX12_arcs_8 : decode cX12_arcs 8 = .ok (.goto 4, 3) := by decide +kernel
theorem dX12_arcs_11 : decode cX12_arcs 11 = .ok (.iconst 0, 1) := by decide +kernel
theorem dX12_arcs_12 : decode cX12_arcs 12 = .ok (.invokevirtual 131, 3) := by decide +kernel
theorem dX12_arcs_15 : decode cX12_arcs 15 = .ok (.ifCond .eq 5, 3) := by decide +kernel
theorem dX12_arcs_18 : decode cX12_arcs 18 = .ok (.iconst (-1), 1) := by decide +kernel
theorem dX12_arcs_19 : decode cX12_arcs 19 = .ok (.ireturn, 1) := by decide +kernel
theorem dX12_arcs_20 : decode cX12_arcs 20 = .ok (.iconst 0, 1) := by decide +kernel
theorem dX12_arcs_21 : decode cX12_arcs 21 = .ok (.istore_n 3, 1) := by decide +kernel
theorem dX12_arcs_22 : decode cX12_arcs 22 = .ok (.aload_n 0, 1) := by decide +kernel
theorem dX12_arcs_23 : decode cX12_arcs 23 = .ok (.invokevirtual 303, 3) := by decide +kernel
theorem dX12_arcs_26 : decode cX12_arcs 26 = .ok (.ifCond .lt 7, 3) := by decide +kernel
theorem dX12_arcs_29 : decode cX12_arcs 29 = .ok (.iconst 1, 1) := by decide +kernel
theorem dX12_arcs_30 : decode cX12_arcs 30 = .ok (.goto 4, 3) := by decide +kernel
theorem dX12_arcs_33 : decode cX12_arcs 33 = .ok (.iconst 0, 1) := by decide +kernel
theorem dX12_arcs_34 : decode cX12_arcs 34 = .ok (.istore 4, 2) := by decide +kernel
theorem dX12_arcs_36 : decode cX12_arcs 36 = .ok (.iconst 0, 1) := by decide +kernel
theorem dX12_arcs_37 : decode cX12_arcs 37 = .ok (.istore 5, 2) := by decide +kernel
theorem dX12_arcs_39 : decode cX12_arcs 39 = .ok (.iload 5, 2) := by decide +kernel
theorem dX12_arcs_41 : decode cX12_arcs 41 = .ok (.aload_n 0, 1) := by decide +kernel
theorem dX12_arcs_42 : decode cX12_arcs 42 = .ok (.getfield 189, 3) := by decide +kernel
theorem dX12_arcs_45 : decode cX12_arcs 45 = .ok (.if_icmp .ge 75, 3) := by decide +kernel
theorem dX12_arcs_48 : decode cX12_arcs 48 = .ok (.iload 4, 2) := by decide +kernel
theorem dX12_arcs_50 : decode cX12_arcs 50 = .ok (.ifCond .eq 70, 3) := by decide +kernel
theorem dX12_arcs_53 : decode cX12_arcs 53 = .ok (.iconst 0, 1) := by decide +kernel
theorem dX12_arcs_54 : decode cX12_arcs 54 = .ok (.istore 6, 2) := by decide +kernel
theorem dX12_arcs_56 : decode cX12_arcs 56 = .ok (.iload 6, 2) := by decide +kernel
theorem dX12_arcs_58 : decode cX12_arcs 58 = .ok (.aload_n 0, 1) := by decide +kernel
theorem dX12_arcs_59 : decode cX12_arcs 59 = .ok (.getfield 128, 3) := by decide +kernel
theorem dX12_arcs_62 : decode cX12_arcs 62 = .ok (.if_icmp .ge 52, 3) := by decide +kernel
theorem dX12_arcs_65 : decode cX12_arcs 65 = .ok (.iload 6, 2) := by decide +kernel
theorem dX12_arcs_67 : decode cX12_arcs 67 = .ok (.iconst 1, 1) := by decide +kernel
theorem dX12_arcs_68 : decode cX12_arcs 68 = .ok (.iadd, 1) := by decide +kernel
theorem dX12_arcs_69 : decode cX12_arcs 69 = .ok (.istore 7, 2) := by decide +kernel
theorem dX12_arcs_71 : decode cX12_arcs 71 = .ok (.iload 7, 2) := by decide +kernel
theorem dX12_arcs_73 : decode cX12_arcs 73 = .ok (.aload_n 0, 1) := by decide +kernel
theorem dX12_arcs_74 : decode cX12_arcs 74 = .ok (.getfield 128, 3) := by decide +kernel
theorem dX12_arcs_77 : decode cX12_arcs 77 = .ok (.if_icmp .gt 31, 3) := by decide +kernel
theorem dX12_arcs_80 : decode cX12_arcs 80 = .ok (.iload_n 3, 1) := by decide +kernel
theorem dX12_arcs_81 : decode cX12_arcs 81 = .ok (.aload_n 0, 1) := by decide +kernel
theorem dX12_arcs_82 : decode cX12_arcs 82 = .ok (.iload 5, 2) := by decide +kernel
theorem dX12_arcs_84 : decode cX12_arcs 84 = .ok (.iload 6, 2) := by decide +kernel
theorem dX12_arcs_86 : decode cX12_arcs 86 = .ok (.iload 7, 2) := by decide +kernel
theorem dX12_arcs_88 : decode cX12_arcs 88 = .ok (.lload_n 1, 1) := by decide +kernel
theorem dX12_arcs_89 : decode cX12_arcs 89 = .ok (.invokevirtual 306, 3) := by decide +kernel
theorem dX12_arcs_92 : decode cX12_arcs 92 = .ok (.ifCond .eq 7, 3) := by decide +kernel
theorem dX12_arcs_95 : decode cX12_arcs 95 = .ok (.iconst 1, 1) := by decide +kernel
theorem dX12_arcs_96 : decode cX12_arcs 96 = .ok (.goto 4, 3) := by decide +kernel
theorem dX12_arcs_99 : decode cX12_arcs 99 = .ok (.iconst 0, 1) := by decide +kernel
theorem dX12_arcs_100 : decode cX12_arcs 100 = .ok (.iadd, 1) := by decide +kernel
theorem dX12_arcs_101 : decode cX12_arcs 101 = .ok (.istore_n 3, 1) := by decide +kernel
theorem dX12_arcs_102 : decode cX12_arcs 102 = .ok (.iinc 7 1, 3) := by decide +kernel
theorem dX12_arcs_105 : decode cX12_arcs 105 = .ok (.goto (-34), 3) := by decide +kernel
theorem dX12_arcs_108 : decode cX12_arcs 108 = .ok (.iinc 6 1, 3) := by decide +kernel
theorem dX12_arcs_111 : decode cX12_arcs 111 = .ok (.goto (-55), 3) := by decide +kernel
theorem dX12_arcs_114 : decode cX12_arcs 114 = .ok (.iinc 5 1, 3) := by decide +kernel
theorem dX12_arcs_117 : decode cX12_arcs 117 = .ok (.goto (-78), 3) := by decide +kernel
theorem dX12_arcs_120 : decode cX12_arcs 120 = .ok (.iload_n 3, 1) := by decide +kernel
theorem dX12_arcs_121 : decode cX12_arcs 121 = .ok (.ireturn, 1) := by decide +kernel
def J_X12_arcs_100 (v1 v4 v5 v6 v7 s0 s1 : Int) (st : z_St) : Option ((Int × Int) ⊕ Int) :=
  some (.inl (s1 + s0, v7 + 1))
set_option maxRecDepth 100000 in
set_option maxHeartbeats 4000000 in
theorem w_X12_arcs_100 {κ : zK} {a : Nat → Nat} {v1 v4 v5 v6 v7 s0 s1 : Int} {st : z_St} {mc9 ms9 : Nat} {o : (Int × Int) ⊕ Int} (hc : z_C κ RX12 cX12_arcs 8 14 mc9 ms9) (hap : z_AP κ a z_N) (k1 : ∀ s9 : (Int × Int), o = .inl s9 → z_V κ z_T z_N a 0 0 71 [(0, .ref (a 168)), (1, .long (zJ v1)), (3, .int (zI s9.1)), (4, .int (zI v4)), (5, .int (zI v5)), (6, .int (zI v6)), (7, .int (zI s9.2))] [] st) (k2 : ∀ x9 : Int, o = .inr x9 → z_V κ z_T z_N a 0 0 108 [(0, .ref (a 168)), (1, .long (zJ v1)), (3, .int (zI x9)), (4, .int (zI v4)), (5, .int (zI v5)), (6, .int (zI v6))] [] st) (h : J_X12_arcs_100 v1 v4 v5 v6 v7 s0 s1 st = some o) : z_V κ z_T z_N a 0 0 100 [(0, .ref (a 168)), (1, .long (zJ v1)), (4, .int (zI v4)), (5, .int (zI v5)), (6, .int (zI v6)), (7, .int (zI v7))] [.int (zI s0), .int (zI s1)] st := by
  unfold J_X12_arcs_100 at h
  refine z_iadd hc dX12_arcs_100 ?_
  refine z_istore_n (i := 3) [(3, .int (zI (s1 + s0))), (0, .ref (a 168)), (1, .long (zJ v1)), (4, .int (zI v4)), (5, .int (zI v5)), (6, .int (zI v6)), (7, .int (zI v7))] hc dX12_arcs_101 rfl (by decide) rfl ?_
  refine z_iinc [(7, .int (zI (v7 + 1))), (3, .int (zI (s1 + s0))), (0, .ref (a 168)), (1, .long (zJ v1)), (4, .int (zI v4)), (5, .int (zI v5)), (6, .int (zI v6))] 6 hc dX12_arcs_102 rfl (by decide) rfl ?_
  refine z_goto (tgt := 71) hc dX12_arcs_105 (by decide) ?_
  refine z_sub [(0, .ref (a 168)), (1, .long (zJ v1)), (3, .int (zI (s1 + s0))), (4, .int (zI v4)), (5, .int (zI v5)), (6, .int (zI v6)), (7, .int (zI (v7 + 1)))] [2, 3, 1, 4, 5, 6, 0] rfl ?_
  exact k1 _ (Option.some.inj h).symm
def J_X12_arcs_b71 (v1 v4 v5 v6 v3 v7 : Int) (st : z_St) : Option ((Int × Int) ⊕ Int) :=
  z_g (z32 v7 ∧ z32 (st 168 2)) (if st 168 2 < v7 then
    some (.inr v3)
  else
    z_b (J_X12_isArc v5 v6 v7 v1 st) fun r5 =>
    z_g (z32 r5) (if r5 = 0 then
      J_X12_arcs_100 v1 v4 v5 v6 v7 0 v3 st
    else
      J_X12_arcs_100 v1 v4 v5 v6 v7 1 v3 st))
set_option maxRecDepth 100000 in
set_option maxHeartbeats 4000000 in
theorem w_X12_arcs_b71 {κ : zK} {a : Nat → Nat} {v1 v3 v4 v5 v6 v7 : Int} {st : z_St} {mc9 ms9 : Nat} {o : (Int × Int) ⊕ Int} (hc : z_C κ RX12 cX12_arcs 8 14 mc9 ms9) (hap : z_AP κ a z_N) (k1 : ∀ s9 : (Int × Int), o = .inl s9 → z_V κ z_T z_N a 0 0 71 [(0, .ref (a 168)), (1, .long (zJ v1)), (3, .int (zI s9.1)), (4, .int (zI v4)), (5, .int (zI v5)), (6, .int (zI v6)), (7, .int (zI s9.2))] [] st) (k2 : ∀ x9 : Int, o = .inr x9 → z_V κ z_T z_N a 0 0 108 [(0, .ref (a 168)), (1, .long (zJ v1)), (3, .int (zI x9)), (4, .int (zI v4)), (5, .int (zI v5)), (6, .int (zI v6))] [] st) (h : J_X12_arcs_b71 v1 v4 v5 v6 v3 v7 st = some o) : z_V κ z_T z_N a 0 0 71 [(0, .ref (a 168)), (1, .long (zJ v1)), (3, .int (zI v3)), (4, .int (zI v4)), (5, .int (zI v5)), (6, .int (zI v6)), (7, .int (zI v7))] [] st := by
  unfold J_X12_arcs_b71 at h
  refine z_iload 6 hc dX12_arcs_71 rfl ?_
  refine z_aload_n (i := 0) 0 hc dX12_arcs_73 rfl rfl ?_
  refine z_getI (kI := 168) (jI := 2) hc fl_RX12_128 tT_168 (by decide) rfl rfl rfl dX12_arcs_74 ?_
  refine z_icmp_gt (tgt := 108) hc dX12_arcs_77 (by decide) h (fun c77 h => ?_) (fun c77 h => ?_)
  · refine z_sub [(0, .ref (a 168)), (1, .long (zJ v1)), (3, .int (zI v3)), (4, .int (zI v4)), (5, .int (zI v5)), (6, .int (zI v6))] [0, 1, 2, 3, 4, 5] rfl ?_
    exact k2 v3 (Option.some.inj h).symm
  · refine z_iload_n (i := 3) 2 hc dX12_arcs_80 rfl rfl ?_
    refine z_aload_n (i := 0) 0 hc dX12_arcs_81 rfl rfl ?_
    refine z_iload 4 hc dX12_arcs_82 rfl ?_
    refine z_iload 5 hc dX12_arcs_84 rfl ?_
    refine z_iload 6 hc dX12_arcs_86 rfl ?_
    refine z_lload_n (i := 1) 1 hc dX12_arcs_88 rfl rfl ?_
    obtain ⟨r5, hr5, h⟩ := z_b_some h
    refine z_callVI [.int (zI v5), .int (zI v6), .int (zI v7), .long (zJ v1)] hc hap o_X12_isArc ml_RX12_306 (fun l hl => c_X12_isArc hl  hr5) (by decide) tT_168 (by decide) ⟨_, rfl, rfl⟩ rfl rfl (Nat.le_of_ble_eq_true rfl) (Nat.zero_le _) (Nat.zero_le _) dX12_arcs_89 ?_
    refine z_if_eq (tgt := 99) hc dX12_arcs_92 (by decide) h (fun c92 h => ?_) (fun c92 h => ?_)
    · refine z_iconst hc dX12_arcs_99 ?_
      refine z_sub [(0, .ref (a 168)), (1, .long (zJ v1)), (4, .int (zI v4)), (5, .int (zI v5)), (6, .int (zI v6)), (7, .int (zI v7))] [0, 1, 3, 4, 5, 6] rfl ?_
      exact w_X12_arcs_100 hc hap k1 k2 h
    · refine z_iconst hc dX12_arcs_95 ?_
      refine z_goto (tgt := 100) hc dX12_arcs_96 (by decide) ?_
      refine z_sub [(0, .ref (a 168)), (1, .long (zJ v1)), (4, .int (zI v4)), (5, .int (zI v5)), (6, .int (zI v6)), (7, .int (zI v7))] [0, 1, 3, 4, 5, 6] rfl ?_
      exact w_X12_arcs_100 hc hap k1 k2 h
def J_X12_arcs_b56 (v1 v4 v5 v3 v6 : Int) (st : z_St) : Option ((Int × Int) ⊕ Int) :=
  z_g (z32 v6 ∧ z32 (st 168 2)) (if v6 < st 168 2 then
    z_b (z_iter z_F (fun q9 : (Int × Int) => J_X12_arcs_b71 v1 v4 v5 v6 q9.1 q9.2 st) (v3, v6 + 1)) fun lx7 =>
      some (.inl (lx7, v6 + 1))
  else
    some (.inr v3))
set_option maxRecDepth 100000 in
set_option maxHeartbeats 4000000 in
theorem w_X12_arcs_b56 {κ : zK} {a : Nat → Nat} {v1 v3 v4 v5 v6 : Int} {st : z_St} {mc9 ms9 : Nat} {o : (Int × Int) ⊕ Int} (hc : z_C κ RX12 cX12_arcs 8 14 mc9 ms9) (hap : z_AP κ a z_N) (k1 : ∀ s9 : (Int × Int), o = .inl s9 → z_V κ z_T z_N a 0 0 56 [(0, .ref (a 168)), (1, .long (zJ v1)), (3, .int (zI s9.1)), (4, .int (zI v4)), (5, .int (zI v5)), (6, .int (zI s9.2))] [] st) (k2 : ∀ x9 : Int, o = .inr x9 → z_V κ z_T z_N a 0 0 114 [(0, .ref (a 168)), (1, .long (zJ v1)), (3, .int (zI x9)), (4, .int (zI v4)), (5, .int (zI v5))] [] st) (h : J_X12_arcs_b56 v1 v4 v5 v3 v6 st = some o) : z_V κ z_T z_N a 0 0 56 [(0, .ref (a 168)), (1, .long (zJ v1)), (3, .int (zI v3)), (4, .int (zI v4)), (5, .int (zI v5)), (6, .int (zI v6))] [] st := by
  unfold J_X12_arcs_b56 at h
  refine z_iload 5 hc dX12_arcs_56 rfl ?_
  refine z_aload_n (i := 0) 0 hc dX12_arcs_58 rfl rfl ?_
  refine z_getI (kI := 168) (jI := 2) hc fl_RX12_128 tT_168 (by decide) rfl rfl rfl dX12_arcs_59 ?_
  refine z_icmp_ge (tgt := 114) hc dX12_arcs_62 (by decide) h (fun c62 h => ?_) (fun c62 h => ?_)
  · refine z_iload 5 hc dX12_arcs_65 rfl ?_
    refine z_iconst hc dX12_arcs_67 ?_
    refine z_iadd hc dX12_arcs_68 ?_
    refine z_istore [(7, .int (zI (v6 + 1))), (0, .ref (a 168)), (1, .long (zJ v1)), (3, .int (zI v3)), (4, .int (zI v4)), (5, .int (zI v5)), (6, .int (zI v6))] hc dX12_arcs_69 (by decide) rfl ?_
    obtain ⟨lx7, hlx7, h⟩ := z_b_some h
    refine z_sub [(0, .ref (a 168)), (1, .long (zJ v1)), (3, .int (zI v3)), (4, .int (zI v4)), (5, .int (zI v5)), (6, .int (zI v6)), (7, .int (zI (v6 + 1)))] [1, 2, 3, 4, 5, 6, 0] rfl ?_
    refine z_loop (fun q9 : (Int × Int) => J_X12_arcs_b71 v1 v4 v5 v6 q9.1 q9.2 st) (fun q9 : (Int × Int) => z_V κ z_T z_N a 0 0 71 [(0, .ref (a 168)), (1, .long (zJ v1)), (3, .int (zI q9.1)), (4, .int (zI v4)), (5, .int (zI v5)), (6, .int (zI v6)), (7, .int (zI q9.2))] [] st) (fun x9 : Int => z_V κ z_T z_N a 0 0 108 [(0, .ref (a 168)), (1, .long (zJ v1)), (3, .int (zI x9)), (4, .int (zI v4)), (5, .int (zI v5)), (6, .int (zI v6))] [] st) (fun q9 o9 hb k1 k2 => ?_) _ _ _ hlx7 ?_
    · exact w_X12_arcs_b71 hc hap k1 k2 hb
    · show z_V κ z_T z_N a 0 0 108 [(0, .ref (a 168)), (1, .long (zJ v1)), (3, .int (zI lx7)), (4, .int (zI v4)), (5, .int (zI v5)), (6, .int (zI v6))] [] st
      refine z_iinc [(6, .int (zI (v6 + 1))), (0, .ref (a 168)), (1, .long (zJ v1)), (3, .int (zI lx7)), (4, .int (zI v4)), (5, .int (zI v5))] 5 hc dX12_arcs_108 rfl (by decide) rfl ?_
      refine z_goto (tgt := 56) hc dX12_arcs_111 (by decide) ?_
      refine z_sub [(0, .ref (a 168)), (1, .long (zJ v1)), (3, .int (zI lx7)), (4, .int (zI v4)), (5, .int (zI v5)), (6, .int (zI (v6 + 1)))] [1, 2, 3, 4, 5, 0] rfl ?_
      exact k1 _ (Option.some.inj h).symm
  · refine z_sub [(0, .ref (a 168)), (1, .long (zJ v1)), (3, .int (zI v3)), (4, .int (zI v4)), (5, .int (zI v5))] [0, 1, 2, 3, 4] rfl ?_
    exact k2 v3 (Option.some.inj h).symm
def J_X12_arcs_b39 (v1 v4 v3 v5 : Int) (st : z_St) : Option ((Int × Int) ⊕ Int) :=
  z_g (z32 v5 ∧ z32 (st 168 18)) (if v5 < st 168 18 then
    z_g (z32 v4) (if v4 = 0 then
      some (.inr v3)
    else
      z_b (z_iter z_F (fun q9 : (Int × Int) => J_X12_arcs_b56 v1 v4 v5 q9.1 q9.2 st) (v3, 0)) fun lx8 =>
        some (.inl (lx8, v5 + 1)))
  else
    some (.inr v3))
set_option maxRecDepth 100000 in
set_option maxHeartbeats 4000000 in
theorem w_X12_arcs_b39 {κ : zK} {a : Nat → Nat} {v1 v3 v4 v5 : Int} {st : z_St} {mc9 ms9 : Nat} {o : (Int × Int) ⊕ Int} (hc : z_C κ RX12 cX12_arcs 8 14 mc9 ms9) (hap : z_AP κ a z_N) (k1 : ∀ s9 : (Int × Int), o = .inl s9 → z_V κ z_T z_N a 0 0 39 [(0, .ref (a 168)), (1, .long (zJ v1)), (3, .int (zI s9.1)), (4, .int (zI v4)), (5, .int (zI s9.2))] [] st) (k2 : ∀ x9 : Int, o = .inr x9 → z_V κ z_T z_N a 0 0 120 [(3, .int (zI x9))] [] st) (h : J_X12_arcs_b39 v1 v4 v3 v5 st = some o) : z_V κ z_T z_N a 0 0 39 [(0, .ref (a 168)), (1, .long (zJ v1)), (3, .int (zI v3)), (4, .int (zI v4)), (5, .int (zI v5))] [] st := by
  unfold J_X12_arcs_b39 at h
  refine z_iload 4 hc dX12_arcs_39 rfl ?_
  refine z_aload_n (i := 0) 0 hc dX12_arcs_41 rfl rfl ?_
  refine z_getI (kI := 168) (jI := 18) hc fl_RX12_189 tT_168 (by decide) rfl rfl rfl dX12_arcs_42 ?_
  refine z_icmp_ge (tgt := 120) hc dX12_arcs_45 (by decide) h (fun c45 h => ?_) (fun c45 h => ?_)
  · refine z_iload 3 hc dX12_arcs_48 rfl ?_
    refine z_if_eq (tgt := 120) hc dX12_arcs_50 (by decide) h (fun c50 h => ?_) (fun c50 h => ?_)
    · refine z_sub [(3, .int (zI v3))] [2] rfl ?_
      exact k2 v3 (Option.some.inj h).symm
    · refine z_iconst hc dX12_arcs_53 ?_
      refine z_istore [(6, .int (zI 0)), (0, .ref (a 168)), (1, .long (zJ v1)), (3, .int (zI v3)), (4, .int (zI v4)), (5, .int (zI v5))] hc dX12_arcs_54 (by decide) rfl ?_
      obtain ⟨lx8, hlx8, h⟩ := z_b_some h
      refine z_sub [(0, .ref (a 168)), (1, .long (zJ v1)), (3, .int (zI v3)), (4, .int (zI v4)), (5, .int (zI v5)), (6, .int (zI 0))] [1, 2, 3, 4, 5, 0] rfl ?_
      refine z_loop (fun q9 : (Int × Int) => J_X12_arcs_b56 v1 v4 v5 q9.1 q9.2 st) (fun q9 : (Int × Int) => z_V κ z_T z_N a 0 0 56 [(0, .ref (a 168)), (1, .long (zJ v1)), (3, .int (zI q9.1)), (4, .int (zI v4)), (5, .int (zI v5)), (6, .int (zI q9.2))] [] st) (fun x9 : Int => z_V κ z_T z_N a 0 0 114 [(0, .ref (a 168)), (1, .long (zJ v1)), (3, .int (zI x9)), (4, .int (zI v4)), (5, .int (zI v5))] [] st) (fun q9 o9 hb k1 k2 => ?_) _ _ _ hlx8 ?_
      · exact w_X12_arcs_b56 hc hap k1 k2 hb
      · show z_V κ z_T z_N a 0 0 114 [(0, .ref (a 168)), (1, .long (zJ v1)), (3, .int (zI lx8)), (4, .int (zI v4)), (5, .int (zI v5))] [] st
        refine z_iinc [(5, .int (zI (v5 + 1))), (0, .ref (a 168)), (1, .long (zJ v1)), (3, .int (zI lx8)), (4, .int (zI v4))] 4 hc dX12_arcs_114 rfl (by decide) rfl ?_
        refine z_goto (tgt := 39) hc dX12_arcs_117 (by decide) ?_
        refine z_sub [(0, .ref (a 168)), (1, .long (zJ v1)), (3, .int (zI lx8)), (4, .int (zI v4)), (5, .int (zI (v5 + 1)))] [1, 2, 3, 4, 0] rfl ?_
        exact k1 _ (Option.some.inj h).symm
  · refine z_sub [(3, .int (zI v3))] [2] rfl ?_
    exact k2 v3 (Option.some.inj h).symm
def J_X12_arcs_34 (v1 v3 s0 : Int) (st : z_St) : Option (Int × z_St) :=
  z_b (z_iter z_F (fun q9 : (Int × Int) => J_X12_arcs_b39 v1 s0 q9.1 q9.2 st) (v3, 0)) fun lx9 =>
    some (lx9, st)
set_option maxRecDepth 100000 in
set_option maxHeartbeats 4000000 in
theorem w_X12_arcs_34 {κ : zK} {a : Nat → Nat} {v1 v3 s0 : Int} {st : z_St} {o : Int × z_St} (hc : z_C κ RX12 cX12_arcs 8 14 0 0) (hap : z_AP κ a z_N) (he : z_E 0 κ (some .int) z_T z_N a o.1 o.2) (h : J_X12_arcs_34 v1 v3 s0 st = some o) : z_V κ z_T z_N a 0 0 34 [(0, .ref (a 168)), (1, .long (zJ v1)), (3, .int (zI v3))] [.int (zI s0)] st := by
  unfold J_X12_arcs_34 at h
  refine z_istore [(4, .int (zI s0)), (0, .ref (a 168)), (1, .long (zJ v1)), (3, .int (zI v3))] hc dX12_arcs_34 (by decide) rfl ?_
  refine z_iconst hc dX12_arcs_36 ?_
  refine z_istore [(5, .int (zI 0)), (4, .int (zI s0)), (0, .ref (a 168)), (1, .long (zJ v1)), (3, .int (zI v3))] hc dX12_arcs_37 (by decide) rfl ?_
  obtain ⟨lx9, hlx9, h⟩ := z_b_some h
  refine z_sub [(0, .ref (a 168)), (1, .long (zJ v1)), (3, .int (zI v3)), (4, .int (zI s0)), (5, .int (zI 0))] [2, 3, 4, 1, 0] rfl ?_
  refine z_loop (fun q9 : (Int × Int) => J_X12_arcs_b39 v1 s0 q9.1 q9.2 st) (fun q9 : (Int × Int) => z_V κ z_T z_N a 0 0 39 [(0, .ref (a 168)), (1, .long (zJ v1)), (3, .int (zI q9.1)), (4, .int (zI s0)), (5, .int (zI q9.2))] [] st) (fun x9 : Int => z_V κ z_T z_N a 0 0 120 [(3, .int (zI x9))] [] st) (fun q9 o9 hb k1 k2 => ?_) _ _ _ hlx9 ?_
  · exact w_X12_arcs_b39 hc hap k1 k2 hb
  · show z_V κ z_T z_N a 0 0 120 [(3, .int (zI lx9))] [] st
    refine z_iload_n (i := 3) 0 hc dX12_arcs_120 rfl rfl ?_
    have h := Option.some.inj h
    subst h
    exact z_retI hc he dX12_arcs_121
def J_X12_arcs_12 (v1 s0 : Int) (st : z_St) : Option (Int × z_St) :=
  z_b (J_X12_holds s0 st) fun r1 =>
  z_g (z32 r1.1) (if r1.1 = 0 then
    z_b (J_X12_laysArcs r1.2) fun r3 =>
    z_g (z32 r3.1) (if r3.1 < 0 then
      J_X12_arcs_34 v1 0 0 r3.2
    else
      J_X12_arcs_34 v1 0 1 r3.2)
  else
    some ((-1), r1.2))
set_option maxRecDepth 100000 in
set_option maxHeartbeats 4000000 in
theorem w_X12_arcs_12 {κ : zK} {a : Nat → Nat} {v1 s0 : Int} {st : z_St} {o : Int × z_St} (hc : z_C κ RX12 cX12_arcs 8 14 0 0) (hap : z_AP κ a z_N) (he : z_E 0 κ (some .int) z_T z_N a o.1 o.2) (h : J_X12_arcs_12 v1 s0 st = some o) : z_V κ z_T z_N a 0 0 12 [(0, .ref (a 168)), (1, .long (zJ v1))] [.int (zI s0), .ref (a 168)] st := by
  unfold J_X12_arcs_12 at h
  obtain ⟨r1, hr1, h⟩ := z_b_some h
  refine z_callVI [.int (zI s0)] hc hap o_X12_holds ml_RX12_131 (fun l hl => c_X12_holds hl  hr1) (by decide) tT_168 (by decide) ⟨_, rfl, rfl⟩ rfl rfl (Nat.le_of_ble_eq_true rfl) (Nat.zero_le _) (Nat.zero_le _) dX12_arcs_12 ?_
  refine z_if_eq (tgt := 20) hc dX12_arcs_15 (by decide) h (fun c15 h => ?_) (fun c15 h => ?_)
  · refine z_iconst hc dX12_arcs_20 ?_
    refine z_istore_n (i := 3) [(3, .int (zI 0)), (0, .ref (a 168)), (1, .long (zJ v1))] hc dX12_arcs_21 rfl (by decide) rfl ?_
    refine z_aload_n (i := 0) 1 hc dX12_arcs_22 rfl rfl ?_
    obtain ⟨r3, hr3, h⟩ := z_b_some h
    refine z_callVI [] hc hap o_X12_laysArcs ml_RX12_303 (fun l hl => c_X12_laysArcs hl  hr3) (by decide) tT_168 (by decide) ⟨_, rfl, rfl⟩ rfl rfl (Nat.le_of_ble_eq_true rfl) (Nat.zero_le _) (Nat.zero_le _) dX12_arcs_23 ?_
    refine z_if_lt (tgt := 33) hc dX12_arcs_26 (by decide) h (fun c26 h => ?_) (fun c26 h => ?_)
    · refine z_iconst hc dX12_arcs_33 ?_
      refine z_sub [(0, .ref (a 168)), (1, .long (zJ v1)), (3, .int (zI 0))] [1, 2, 0] rfl ?_
      exact w_X12_arcs_34 hc hap he h
    · refine z_iconst hc dX12_arcs_29 ?_
      refine z_goto (tgt := 34) hc dX12_arcs_30 (by decide) ?_
      refine z_sub [(0, .ref (a 168)), (1, .long (zJ v1)), (3, .int (zI 0))] [1, 2, 0] rfl ?_
      exact w_X12_arcs_34 hc hap he h
  · refine z_iconst hc dX12_arcs_18 ?_
    have h := Option.some.inj h
    subst h
    exact z_retI hc he dX12_arcs_19
def J_X12_arcs (x1 : Int) (st : z_St) : Option (Int × z_St) :=
  z_g (z64 x1 ∧ z64 0) (if x1 < 0 then
    J_X12_arcs_12 x1 1 st
  else
    J_X12_arcs_12 x1 0 st)
set_option maxRecDepth 100000 in
set_option maxHeartbeats 4000000 in
theorem w_X12_arcs {κ : zK} {a : Nat → Nat} {x1 : Int} {st : z_St} {o : Int × z_St} (hc : z_C κ RX12 cX12_arcs 8 14 0 0) (hap : z_AP κ a z_N) (he : z_E 0 κ (some .int) z_T z_N a o.1 o.2) (h : J_X12_arcs x1 st = some o) : z_V κ z_T z_N a 0 0 0 [(0, .ref (a 168)), (1, .long (zJ x1))] [] st := by
  unfold J_X12_arcs at h
  refine z_aload_n (i := 0) 0 hc dX12_arcs_0 rfl rfl ?_
  refine z_lload_n (i := 1) 1 hc dX12_arcs_1 rfl rfl ?_
  refine z_lconst 0 hc dX12_arcs_2 rfl ?_
  refine z_lcmp_ge (tgt := 11) hc dX12_arcs_3 dX12_arcs_4 (by decide) h (fun c3 h => ?_) (fun c3 h => ?_)
  · refine z_iconst hc dX12_arcs_7 ?_
    refine z_goto (tgt := 12) hc dX12_arcs_8 (by decide) ?_
    refine z_sub [(0, .ref (a 168)), (1, .long (zJ x1))] [0, 1] rfl ?_
    exact w_X12_arcs_12 hc hap he h
  · refine z_iconst hc dX12_arcs_11 ?_
    refine z_sub [(0, .ref (a 168)), (1, .long (zJ x1))] [0, 1] rfl ?_
    exact w_X12_arcs_12 hc hap he h
set_option maxRecDepth 100000 in
set_option maxHeartbeats 4000000 in
theorem c_X12_arcs {l : Launch} (hl : l.stackTraces = false) {a : Nat → Nat} {x1 : Int} {st : z_St} {o : Int × z_St} (h : J_X12_arcs x1 st = some o) : z_M 0 l yX12_arcs cX12_arcs 8 (some .int) 14 z_T z_N a [.ref (a 168), .long (zJ x1)] st o.1 o.2 := z_of hl (by decide +kernel) (Nat.le_of_ble_eq_true rfl) (fun κ hc hap he => w_X12_arcs hc hap he h)
theorem dX12_arc_0 : decode cX12_arc 0 = .ok (.lload_n 1, 1) := by decide +kernel
theorem dX12_arc_1 : decode cX12_arc 1 = .ok (.lconst 0, 1) := by decide +kernel
theorem dX12_arc_2 : decode cX12_arc 2 = .ok (.lcmp, 1) := by decide +kernel
theorem dX12_arc_3 : decode cX12_arc 3 = .ok (.ifCond .ge 13, 3) := by decide +kernel
theorem dX12_arc_6 : decode cX12_arc 6 = .ok (.aload_n 0, 1) := by decide +kernel
theorem dX12_arc_7 : decode cX12_arc 7 = .ok (.iconst 2, 1) := by decide +kernel
theorem dX12_arc_8 : decode cX12_arc 8 = .ok (.invokevirtual 131, 3) := by decide +kernel
theorem dX12_arc_11 : decode cX12_arc 11 = .ok (.pop, 1) := by decide +kernel
theorem dX12_arc_12 : decode cX12_arc 12 = .ok (.ldc2_w 145, 3) := by decide +kernel
theorem dX12_arc_15 : decode cX12_arc 15 = .ok (.lreturn, 1) := by decide +kernel
theorem dX12_arc_16 : decode cX12_arc 16 = .ok (.aload_n 0, 1) := by decide +kernel
theorem dX12_arc_17 : decode cX12_arc 17 = .ok (.invokevirtual 303, 3) := by decide +kernel
theorem dX12_arc_20 : decode cX12_arc 20 = .ok (.ifCond .lt 11, 3) := by decide +kernel
theorem dX12_arc_23 : decode cX12_arc 23 = .ok (.iload_n 3, 1) := by decide +kernel
theorem dX12_arc_24 : decode cX12_arc 24 = .ok (.ifCond .lt 7, 3) := by decide +kernel
theorem dX12_arc_27 : decode cX12_arc 27 = .ok (.iload_n 3, 1) := by decide +kernel
theorem dX12_arc_28 : decode cX12_arc 28 = .ok (.goto 4, 3) := by decide +kernel
theorem dX12_arc_31 : decode cX12_arc 31 = .ok (.iconst (-1), 1) := by decide +kernel
theorem dX12_arc_32 : decode cX12_arc 32 = .ok (.istore 5, 2) := by decide +kernel
theorem dX12_arc_34 : decode cX12_arc 34 = .ok (.iconst (-1), 1) := by decide +kernel
theorem dX12_arc_35 : decode cX12_arc 35 = .ok (.istore 6, 2) := by decide +kernel
theorem dX12_arc_37 : decode cX12_arc 37 = .ok (.iconst 0, 1) := by decide +kernel
theorem dX12_arc_38 : decode cX12_arc 38 = .ok (.istore 7, 2) := by decide +kernel
theorem dX12_arc_40 : decode cX12_arc 40 = .ok (.iload 7, 2) := by decide +kernel
theorem dX12_arc_42 : decode cX12_arc 42 = .ok (.sipush 1445, 3) := by decide +kernel
theorem dX12_arc_45 : decode cX12_arc 45 = .ok (.if_icmp .ge 116, 3) := by decide +kernel
theorem dX12_arc_48 : decode cX12_arc 48 = .ok (.iload 5, 2) := by decide +kernel
theorem dX12_arc_50 : decode cX12_arc 50 = .ok (.ifCond .lt 111, 3) := by decide +kernel
theorem dX12_arc_53 : decode cX12_arc 53 = .ok (.iload 7, 2) := by decide +kernel
theorem dX12_arc_55 : decode cX12_arc 55 = .ok (.iconst 5, 1) := by decide +kernel
theorem dX12_arc_56 : decode cX12_arc 56 = .ok (.irem, 1) := by decide +kernel
theorem dX12_arc_57 : decode cX12_arc 57 = .ok (.istore 8, 2) := by decide +kernel
theorem dX12_arc_59 : decode cX12_arc 59 = .ok (.iload 7, 2) := by decide +kernel
theorem dX12_arc_61 : decode cX12_arc 61 = .ok (.iconst 5, 1) := by decide +kernel
theorem dX12_arc_62 : decode cX12_arc 62 = .ok (.idiv, 1) := by decide +kernel
theorem dX12_arc_63 : decode cX12_arc 63 = .ok (.bipush 17, 2) := by decide +kernel
theorem dX12_arc_65 : decode cX12_arc 65 = .ok (.irem, 1) := by decide +kernel
theorem dX12_arc_66 : decode cX12_arc 66 = .ok (.istore 9, 2) := by decide +kernel
theorem dX12_arc_68 : decode cX12_arc 68 = .ok (.iload 7, 2) := by decide +kernel
theorem dX12_arc_70 : decode cX12_arc 70 = .ok (.bipush 85, 2) := by decide +kernel
theorem dX12_arc_72 : decode cX12_arc 72 = .ok (.idiv, 1) := by decide +kernel
theorem dX12_arc_73 : decode cX12_arc 73 = .ok (.istore 10, 2) := by decide +kernel
theorem dX12_arc_75 : decode cX12_arc 75 = .ok (.iload 8, 2) := by decide +kernel
theorem dX12_arc_77 : decode cX12_arc 77 = .ok (.aload_n 0, 1) := by decide +kernel
theorem dX12_arc_78 : decode cX12_arc 78 = .ok (.getfield 189, 3) := by decide +kernel
theorem dX12_arc_81 : decode cX12_arc 81 = .ok (.if_icmp .ge 37, 3) := by decide +kernel
theorem dX12_arc_84 : decode cX12_arc 84 = .ok (.iload 9, 2) := by decide +kernel
theorem dX12_arc_86 : decode cX12_arc 86 = .ok (.aload_n 0, 1) := by decide +kernel
theorem dX12_arc_87 : decode cX12_arc 87 = .ok (.getfield 128, 3) := by decide +kernel
theorem dX12_arc_90 : decode cX12_arc 90 = .ok (.if_icmp .gt 28, 3) := by decide +kernel
theorem dX12_arc_93 : decode cX12_arc 93 = .ok (.iload 10, 2) := by decide +kernel
theorem dX12_arc_95 : decode cX12_arc 95 = .ok (.iload 9, 2) := by decide +kernel
theorem dX12_arc_97 : decode cX12_arc 97 = .ok (.if_icmp .ge 21, 3) := by decide +kernel
theorem dX12_arc_100 : decode cX12_arc 100 = .ok (.aload_n 0, 1) := by decide +kernel
theorem dX12_arc_101 : decode cX12_arc 101 = .ok (.iload 8, 2) := by decide +kernel
theorem dX12_arc_103 : decode cX12_arc 103 = .ok (.iload 10, 2) := by decide +kernel
theorem dX12_arc_105 : decode cX12_arc 105 = .ok (.iload 9, 2) := by decide +kernel
theorem dX12_arc_107 : decode cX12_arc 107 = .ok (.lload_n 1, 1) := by decide +kernel
theorem dX12_arc_108 : decode cX12_arc 108 = .ok (.invokevirtual 306, 3) := by decide +kernel
theorem dX12_arc_111 : decode cX12_arc 111 = .ok (.ifCond .eq 7, 3) := by decide +kernel
theorem dX12_arc_114 : decode cX12_arc 114 = .ok (.iconst 1, 1) := by decide +kernel
theorem dX12_arc_115 : decode cX12_arc 115 = .ok (.goto 4, 3) := by decide +kernel
theorem dX12_arc_118 : decode cX12_arc 118 = .ok (.iconst 0, 1) := by decide +kernel
theorem dX12_arc_119 : decode cX12_arc 119 = .ok (.istore 11, 2) := by decide +kernel
theorem dX12_arc_121 : decode cX12_arc 121 = .ok (.iload 11, 2) := by decide +kernel
theorem dX12_arc_123 : decode cX12_arc 123 = .ok (.ifCond .eq 13, 3) := by decide +kernel
theorem dX12_arc_126 : decode cX12_arc 126 = .ok (.iload 5, 2) := by decide +kernel
theorem dX12_arc_128 : decode cX12_arc 128 = .ok (.ifCond .ne 8, 3) := by decide +kernel
theorem dX12_arc_131 : decode cX12_arc 131 = .ok (.iload 7, 2) := by decide +kernel
theorem dX12_arc_133 : decode cX12_arc 133 = .ok (.goto 5, 3) := by decide +kernel
theorem dX12_arc_136 : decode cX12_arc 136 = .ok (.iload 6, 2) := by decide +kernel
theorem dX12_arc_138 : decode cX12_arc 138 = .ok (.istore 6, 2) := by decide +kernel
theorem dX12_arc_140 : decode cX12_arc 140 = .ok (.iload 5, 2) := by decide +kernel
theorem dX12_arc_142 : decode cX12_arc 142 = .ok (.iload 11, 2) := by decide +kernel
theorem dX12_arc_144 : decode cX12_arc 144 = .ok (.ifCond .eq 7, 3) := by decide +kernel
theorem dX12_arc_147 : decode cX12_arc 147 = .ok (.iconst 1, 1) := by decide +kernel
theorem dX12_arc_148 : decode cX12_arc 148 = .ok (.goto 4, 3) := by decide +kernel
theorem dX12_arc_151 : decode cX12_arc 151 = .ok (.iconst 0, 1) := by decide +kernel
theorem dX12_arc_152 : decode cX12_arc 152 = .ok (.isub, 1) := by decide +kernel
theorem dX12_arc_153 : decode cX12_arc 153 = .ok (.istore 5, 2) := by decide +kernel
theorem dX12_arc_155 : decode cX12_arc 155 = .ok (.iinc 7 1, 3) := by decide +kernel
theorem dX12_arc_158 : decode cX12_arc 158 = .ok (.goto (-118), 3) := by decide +kernel
theorem dX12_arc_161 : decode cX12_arc 161 = .ok (.aload_n 0, 1) := by decide +kernel
theorem dX12_arc_162 : decode cX12_arc 162 = .ok (.iload 6, 2) := by decide +kernel
theorem dX12_arc_164 : decode cX12_arc 164 = .ok (.ifCond .ge 7, 3) := by decide +kernel
theorem dX12_arc_167 : decode cX12_arc 167 = .ok (.iconst 1, 1) := by decide +kernel
theorem dX12_arc_168 : decode cX12_arc 168 = .ok (.goto 22, 3) := by decide +kernel
theorem dX12_arc_171 : decode cX12_arc 171 = .ok (.aload_n 0, 1) := by decide +kernel
theorem dX12_arc_172 : decode cX12_arc 172 = .ok (.iload 4, 2) := by decide +kernel
theorem dX12_arc_174 : decode cX12_arc 174 = .ok (.i2l, 1) := by decide +kernel
theorem dX12_arc_175 : decode cX12_arc 175 = .ok (.lconst 0, 1) := by decide +kernel
theorem dX12_arc_176 : decode cX12_arc 176 = .ok (.ldc2_w 134, 3) := by decide +kernel
theorem dX12_arc_179 : decode cX12_arc 179 = .ok (.invokevirtual 116, 3) := by decide +kernel
theorem dX12_arc_182 : decode cX12_arc 182 = .ok (.ifCond .eq 7, 3) := by decide +kernel
theorem dX12_arc_185 : decode cX12_arc 185 = .ok (.iconst 0, 1) := by decide +kernel
theorem dX12_arc_186 : decode cX12_arc 186 = .ok (.goto 4, 3) := by decide +kernel
theorem dX12_arc_189 : decode cX12_arc 189 = .ok (.iconst 2, 1) := by decide +kernel
theorem dX12_arc_190 : decode cX12_arc 190 = .ok (.invokevirtual 131, 3) := by decide +kernel
theorem dX12_arc_193 : decode cX12_arc 193 = .ok (.ifCond .eq 7, 3) := by decide +kernel
theorem dX12_arc_196 : decode cX12_arc 196 = .ok (.ldc2_w 145, 3) := by decide +kernel
theorem dX12_arc_199 : decode cX12_arc 199 = .ok (.lreturn, 1) := by decide +kernel
theorem dX12_arc_200 : decode cX12_arc 200 = .ok (.iload 4, 2) := by decide +kernel
theorem dX12_arc_202 : decode cX12_arc 202 = .ok (.ifCond .ne 11, 3) := by decide +kernel
theorem dX12_arc_205 : decode cX12_arc 205 = .ok (.iload 6, 2) := by decide +kernel
theorem dX12_arc_207 : decode cX12_arc 207 = .ok (.iconst 5, 1) := by decide +kernel
theorem dX12_arc_208 : decode cX12_arc 208 = .ok (.irem, 1) := by decide +kernel
theorem dX12_arc_209 : decode cX12_arc 209 = .ok (.i2l, 1) := by decide +kernel
theorem dX12_arc_210 : decode cX12_arc 210 = .ok (.goto 60, 3) := by decide +kernel
theorem dX12_arc_213 : decode cX12_arc 213 = .ok (.iload 4, 2) := by decide +kernel
theorem dX12_arc_215 : decode cX12_arc 215 = .ok (.iconst 1, 1) := by decide +kernel
theorem dX12_arc_216 : decode cX12_arc 216 = .ok (.if_icmp .ne 12, 3) := by decide +kernel
theorem dX12_arc_219 : decode cX12_arc 219 = .ok (.iload 6, 2) := by decide +kernel
theorem dX12_arc_221 : decode cX12_arc 221 = .ok (.bipush 85, 2) := by decide +kernel
theorem dX12_arc_223 : decode cX12_arc 223 = .ok (.idiv, 1) := by decide +kernel
theorem dX12_arc_224 : decode cX12_arc 224 = .ok (.i2l, 1) := by decide +kernel
theorem dX12_arc_225 : decode cX12_arc 225 = .ok (.goto 45, 3) := by decide +kernel
theorem dX12_arc_228 : decode cX12_arc 228 = .ok (.iload 4, 2) := by decide +kernel
theorem dX12_arc_230 : decode cX12_arc 230 = .ok (.iconst 2, 1) := by decide +kernel
theorem dX12_arc_231 : decode cX12_arc 231 = .ok (.if_icmp .ne 14, 3) := by decide +kernel
theorem dX12_arc_234 : decode cX12_arc 234 = .ok (.iload 6, 2) := by decide +kernel
theorem dX12_arc_236 : decode cX12_arc 236 = .ok (.iconst 5, 1) := by decide +kernel
theorem dX12_arc_237 : decode cX12_arc 237 = .ok (.idiv, 1) := by decide +kernel
theorem dX12_arc_238 : decode cX12_arc 238 = .ok (.bipush 17, 2) := by decide +kernel
theorem dX12_arc_240 : decode cX12_arc 240 = .ok (.irem, 1) := by decide +kernel
theorem dX12_arc_241 : decode cX12_arc 241 = .ok (.i2l, 1) := by decide +kernel
theorem dX12_arc_242 : decode cX12_arc 242 = .ok (.goto 28, 3) := by decide +kernel
theorem dX12_arc_245 : decode cX12_arc 245 = .ok (.aload_n 0, 1) := by decide +kernel
theorem dX12_arc_246 : decode cX12_arc 246 = .ok (.getfield 103, 3) := by decide +kernel
theorem dX12_arc_249 : decode cX12_arc 249 = .ok (.aload_n 0, 1) := by decide +kernel
theorem dX12_arc_250 : decode cX12_arc 250 = .ok (.iload 6, 2) := by decide +kernel
theorem dX12_arc_252 : decode cX12_arc 252 = .ok (.iconst 5, 1) := by decide +kernel
theorem dX12_arc_253 : decode cX12_arc 253 = .ok (.irem, 1) := by decide +kernel
theorem dX12_arc_254 : decode cX12_arc 254 = .ok (.iload 6, 2) := by decide +kernel
theorem dX12_arc_256 : decode cX12_arc 256 = .ok (.bipush 85, 2) := by decide +kernel
theorem dX12_arc_258 : decode cX12_arc 258 = .ok (.idiv, 1) := by decide +kernel
theorem dX12_arc_259 : decode cX12_arc 259 = .ok (.iload 6, 2) := by decide +kernel
theorem dX12_arc_261 : decode cX12_arc 261 = .ok (.iconst 5, 1) := by decide +kernel
theorem dX12_arc_262 : decode cX12_arc 262 = .ok (.idiv, 1) := by decide +kernel
theorem dX12_arc_263 : decode cX12_arc 263 = .ok (.bipush 17, 2) := by decide +kernel
theorem dX12_arc_265 : decode cX12_arc 265 = .ok (.irem, 1) := by decide +kernel
theorem dX12_arc_266 : decode cX12_arc 266 = .ok (.invokevirtual 211, 3) := by decide +kernel
theorem dX12_arc_269 : decode cX12_arc 269 = .ok (.laload, 1) := by decide +kernel
theorem dX12_arc_270 : decode cX12_arc 270 = .ok (.lreturn, 1) := by decide +kernel
def J_X12_arc_152 (v1 v4 v6 v7 s0 s1 : Int) (st : z_St) : Option ((Int × Int × Int) ⊕ Int) :=
  some (.inl (s1 - s0, v6, v7 + 1))
set_option maxRecDepth 100000 in
set_option maxHeartbeats 4000000 in
theorem w_X12_arc_152 {κ : zK} {a : Nat → Nat} {v1 v4 v6 v7 s0 s1 : Int} {st : z_St} {mc9 ms9 : Nat} {o : (Int × Int × Int) ⊕ Int} (hc : z_C κ RX12 cX12_arc 12 14 mc9 ms9) (hap : z_AP κ a z_N) (k1 : ∀ s9 : (Int × Int × Int), o = .inl s9 → z_V κ z_T z_N a 0 0 40 [(0, .ref (a 168)), (1, .long (zJ v1)), (4, .int (zI v4)), (5, .int (zI s9.1)), (6, .int (zI s9.2.1)), (7, .int (zI s9.2.2))] [] st) (k2 : ∀ x9 : Int, o = .inr x9 → z_V κ z_T z_N a 0 0 161 [(0, .ref (a 168)), (4, .int (zI v4)), (6, .int (zI x9))] [] st) (h : J_X12_arc_152 v1 v4 v6 v7 s0 s1 st = some o) : z_V κ z_T z_N a 0 0 152 [(0, .ref (a 168)), (1, .long (zJ v1)), (4, .int (zI v4)), (6, .int (zI v6)), (7, .int (zI v7))] [.int (zI s0), .int (zI s1)] st := by
  unfold J_X12_arc_152 at h
  refine z_isub hc dX12_arc_152 ?_
  refine z_istore [(5, .int (zI (s1 - s0))), (0, .ref (a 168)), (1, .long (zJ v1)), (4, .int (zI v4)), (6, .int (zI v6)), (7, .int (zI v7))] hc dX12_arc_153 (by decide) rfl ?_
  refine z_iinc [(7, .int (zI (v7 + 1))), (5, .int (zI (s1 - s0))), (0, .ref (a 168)), (1, .long (zJ v1)), (4, .int (zI v4)), (6, .int (zI v6))] 5 hc dX12_arc_155 rfl (by decide) rfl ?_
  refine z_goto (tgt := 40) hc dX12_arc_158 (by decide) ?_
  refine z_sub [(0, .ref (a 168)), (1, .long (zJ v1)), (4, .int (zI v4)), (5, .int (zI (s1 - s0))), (6, .int (zI v6)), (7, .int (zI (v7 + 1)))] [2, 3, 4, 1, 5, 0] rfl ?_
  exact k1 _ (Option.some.inj h).symm
def J_X12_arc_138 (v1 v4 v5 v7 v11 s0 : Int) (st : z_St) : Option ((Int × Int × Int) ⊕ Int) :=
  z_g (z32 v11) (if v11 = 0 then
    J_X12_arc_152 v1 v4 s0 v7 0 v5 st
  else
    J_X12_arc_152 v1 v4 s0 v7 1 v5 st)
set_option maxRecDepth 100000 in
set_option maxHeartbeats 4000000 in
theorem w_X12_arc_138 {κ : zK} {a : Nat → Nat} {v1 v4 v5 v7 v11 s0 : Int} {st : z_St} {mc9 ms9 : Nat} {o : (Int × Int × Int) ⊕ Int} (hc : z_C κ RX12 cX12_arc 12 14 mc9 ms9) (hap : z_AP κ a z_N) (k1 : ∀ s9 : (Int × Int × Int), o = .inl s9 → z_V κ z_T z_N a 0 0 40 [(0, .ref (a 168)), (1, .long (zJ v1)), (4, .int (zI v4)), (5, .int (zI s9.1)), (6, .int (zI s9.2.1)), (7, .int (zI s9.2.2))] [] st) (k2 : ∀ x9 : Int, o = .inr x9 → z_V κ z_T z_N a 0 0 161 [(0, .ref (a 168)), (4, .int (zI v4)), (6, .int (zI x9))] [] st) (h : J_X12_arc_138 v1 v4 v5 v7 v11 s0 st = some o) : z_V κ z_T z_N a 0 0 138 [(0, .ref (a 168)), (1, .long (zJ v1)), (4, .int (zI v4)), (5, .int (zI v5)), (7, .int (zI v7)), (11, .int (zI v11))] [.int (zI s0)] st := by
  unfold J_X12_arc_138 at h
  refine z_istore [(6, .int (zI s0)), (0, .ref (a 168)), (1, .long (zJ v1)), (4, .int (zI v4)), (5, .int (zI v5)), (7, .int (zI v7)), (11, .int (zI v11))] hc dX12_arc_138 (by decide) rfl ?_
  refine z_iload 4 hc dX12_arc_140 rfl ?_
  refine z_iload 6 hc dX12_arc_142 rfl ?_
  refine z_if_eq (tgt := 151) hc dX12_arc_144 (by decide) h (fun c144 h => ?_) (fun c144 h => ?_)
  · refine z_iconst hc dX12_arc_151 ?_
    refine z_sub [(0, .ref (a 168)), (1, .long (zJ v1)), (4, .int (zI v4)), (6, .int (zI s0)), (7, .int (zI v7))] [1, 2, 3, 0, 5] rfl ?_
    exact w_X12_arc_152 hc hap k1 k2 h
  · refine z_iconst hc dX12_arc_147 ?_
    refine z_goto (tgt := 152) hc dX12_arc_148 (by decide) ?_
    refine z_sub [(0, .ref (a 168)), (1, .long (zJ v1)), (4, .int (zI v4)), (6, .int (zI s0)), (7, .int (zI v7))] [1, 2, 3, 0, 5] rfl ?_
    exact w_X12_arc_152 hc hap k1 k2 h
def J_X12_arc_136 (v1 v4 v5 v6 v7 v11 : Int) (st : z_St) : Option ((Int × Int × Int) ⊕ Int) :=
  J_X12_arc_138 v1 v4 v5 v7 v11 v6 st
set_option maxRecDepth 100000 in
set_option maxHeartbeats 4000000 in
theorem w_X12_arc_136 {κ : zK} {a : Nat → Nat} {v1 v4 v5 v6 v7 v11 : Int} {st : z_St} {mc9 ms9 : Nat} {o : (Int × Int × Int) ⊕ Int} (hc : z_C κ RX12 cX12_arc 12 14 mc9 ms9) (hap : z_AP κ a z_N) (k1 : ∀ s9 : (Int × Int × Int), o = .inl s9 → z_V κ z_T z_N a 0 0 40 [(0, .ref (a 168)), (1, .long (zJ v1)), (4, .int (zI v4)), (5, .int (zI s9.1)), (6, .int (zI s9.2.1)), (7, .int (zI s9.2.2))] [] st) (k2 : ∀ x9 : Int, o = .inr x9 → z_V κ z_T z_N a 0 0 161 [(0, .ref (a 168)), (4, .int (zI v4)), (6, .int (zI x9))] [] st) (h : J_X12_arc_136 v1 v4 v5 v6 v7 v11 st = some o) : z_V κ z_T z_N a 0 0 136 [(0, .ref (a 168)), (1, .long (zJ v1)), (4, .int (zI v4)), (5, .int (zI v5)), (6, .int (zI v6)), (7, .int (zI v7)), (11, .int (zI v11))] [] st := by
  unfold J_X12_arc_136 at h
  refine z_iload 4 hc dX12_arc_136 rfl ?_
  refine z_sub [(0, .ref (a 168)), (1, .long (zJ v1)), (4, .int (zI v4)), (5, .int (zI v5)), (7, .int (zI v7)), (11, .int (zI v11))] [0, 1, 2, 3, 5, 6] rfl ?_
  exact w_X12_arc_138 hc hap k1 k2 h
def J_X12_arc_119 (v1 v4 v5 v6 v7 s0 : Int) (st : z_St) : Option ((Int × Int × Int) ⊕ Int) :=
  z_g (z32 s0) (if s0 = 0 then
    J_X12_arc_136 v1 v4 v5 v6 v7 s0 st
  else
    z_g (z32 v5) (if v5 = 0 then
      J_X12_arc_138 v1 v4 v5 v7 s0 v7 st
    else
      J_X12_arc_136 v1 v4 v5 v6 v7 s0 st))
set_option maxRecDepth 100000 in
set_option maxHeartbeats 4000000 in
theorem w_X12_arc_119 {κ : zK} {a : Nat → Nat} {v1 v4 v5 v6 v7 s0 : Int} {st : z_St} {mc9 ms9 : Nat} {o : (Int × Int × Int) ⊕ Int} (hc : z_C κ RX12 cX12_arc 12 14 mc9 ms9) (hap : z_AP κ a z_N) (k1 : ∀ s9 : (Int × Int × Int), o = .inl s9 → z_V κ z_T z_N a 0 0 40 [(0, .ref (a 168)), (1, .long (zJ v1)), (4, .int (zI v4)), (5, .int (zI s9.1)), (6, .int (zI s9.2.1)), (7, .int (zI s9.2.2))] [] st) (k2 : ∀ x9 : Int, o = .inr x9 → z_V κ z_T z_N a 0 0 161 [(0, .ref (a 168)), (4, .int (zI v4)), (6, .int (zI x9))] [] st) (h : J_X12_arc_119 v1 v4 v5 v6 v7 s0 st = some o) : z_V κ z_T z_N a 0 0 119 [(0, .ref (a 168)), (1, .long (zJ v1)), (4, .int (zI v4)), (5, .int (zI v5)), (6, .int (zI v6)), (7, .int (zI v7))] [.int (zI s0)] st := by
  unfold J_X12_arc_119 at h
  refine z_istore [(11, .int (zI s0)), (0, .ref (a 168)), (1, .long (zJ v1)), (4, .int (zI v4)), (5, .int (zI v5)), (6, .int (zI v6)), (7, .int (zI v7))] hc dX12_arc_119 (by decide) rfl ?_
  refine z_iload 0 hc dX12_arc_121 rfl ?_
  refine z_if_eq (tgt := 136) hc dX12_arc_123 (by decide) h (fun c123 h => ?_) (fun c123 h => ?_)
  · refine z_sub [(0, .ref (a 168)), (1, .long (zJ v1)), (4, .int (zI v4)), (5, .int (zI v5)), (6, .int (zI v6)), (7, .int (zI v7)), (11, .int (zI s0))] [1, 2, 3, 4, 5, 6, 0] rfl ?_
    exact w_X12_arc_136 hc hap k1 k2 h
  · refine z_iload 4 hc dX12_arc_126 rfl ?_
    refine z_if_ne (tgt := 136) hc dX12_arc_128 (by decide) h (fun c128 h => ?_) (fun c128 h => ?_)
    · refine z_iload 6 hc dX12_arc_131 rfl ?_
      refine z_goto (tgt := 138) hc dX12_arc_133 (by decide) ?_
      refine z_sub [(0, .ref (a 168)), (1, .long (zJ v1)), (4, .int (zI v4)), (5, .int (zI v5)), (7, .int (zI v7)), (11, .int (zI s0))] [1, 2, 3, 4, 6, 0] rfl ?_
      exact w_X12_arc_138 hc hap k1 k2 h
    · refine z_sub [(0, .ref (a 168)), (1, .long (zJ v1)), (4, .int (zI v4)), (5, .int (zI v5)), (6, .int (zI v6)), (7, .int (zI v7)), (11, .int (zI s0))] [1, 2, 3, 4, 5, 6, 0] rfl ?_
      exact w_X12_arc_136 hc hap k1 k2 h
def J_X12_arc_118 (v1 v4 v5 v6 v7 : Int) (st : z_St) : Option ((Int × Int × Int) ⊕ Int) :=
  J_X12_arc_119 v1 v4 v5 v6 v7 0 st
set_option maxRecDepth 100000 in
set_option maxHeartbeats 4000000 in
theorem w_X12_arc_118 {κ : zK} {a : Nat → Nat} {v1 v4 v5 v6 v7 : Int} {st : z_St} {mc9 ms9 : Nat} {o : (Int × Int × Int) ⊕ Int} (hc : z_C κ RX12 cX12_arc 12 14 mc9 ms9) (hap : z_AP κ a z_N) (k1 : ∀ s9 : (Int × Int × Int), o = .inl s9 → z_V κ z_T z_N a 0 0 40 [(0, .ref (a 168)), (1, .long (zJ v1)), (4, .int (zI v4)), (5, .int (zI s9.1)), (6, .int (zI s9.2.1)), (7, .int (zI s9.2.2))] [] st) (k2 : ∀ x9 : Int, o = .inr x9 → z_V κ z_T z_N a 0 0 161 [(0, .ref (a 168)), (4, .int (zI v4)), (6, .int (zI x9))] [] st) (h : J_X12_arc_118 v1 v4 v5 v6 v7 st = some o) : z_V κ z_T z_N a 0 0 118 [(0, .ref (a 168)), (1, .long (zJ v1)), (4, .int (zI v4)), (5, .int (zI v5)), (6, .int (zI v6)), (7, .int (zI v7))] [] st := by
  unfold J_X12_arc_118 at h
  refine z_iconst hc dX12_arc_118 ?_
  refine z_sub [(0, .ref (a 168)), (1, .long (zJ v1)), (4, .int (zI v4)), (5, .int (zI v5)), (6, .int (zI v6)), (7, .int (zI v7))] [0, 1, 2, 3, 4, 5] rfl ?_
  exact w_X12_arc_119 hc hap k1 k2 h
def J_X12_arc_b40 (v1 v4 v5 v6 v7 : Int) (st : z_St) : Option ((Int × Int × Int) ⊕ Int) :=
  z_g (z32 v7 ∧ z32 1445) (if v7 < 1445 then
    z_g (z32 v5) (if v5 < 0 then
      some (.inr v6)
    else
      z_g (z32 v7 ∧ z32 5 ∧ (5 : Int) ≠ 0) <|
      z_g (z32 v7 ∧ z32 5 ∧ (5 : Int) ≠ 0) <|
      z_g (z32 (v7.tdiv 5) ∧ z32 17 ∧ (17 : Int) ≠ 0) <|
      z_g (z32 v7 ∧ z32 85 ∧ (85 : Int) ≠ 0) <|
      z_g (z32 (v7.tmod 5) ∧ z32 (st 168 18)) (if v7.tmod 5 < st 168 18 then
        z_g (z32 ((v7.tdiv 5).tmod 17) ∧ z32 (st 168 2)) (if st 168 2 < (v7.tdiv 5).tmod 17 then
          J_X12_arc_118 v1 v4 v5 v6 v7 st
        else
          z_g (z32 (v7.tdiv 85) ∧ z32 ((v7.tdiv 5).tmod 17)) (if v7.tdiv 85 < (v7.tdiv 5).tmod 17 then
            z_b (J_X12_isArc (v7.tmod 5) (v7.tdiv 85) ((v7.tdiv 5).tmod 17) v1 st) fun r5 =>
            z_g (z32 r5) (if r5 = 0 then
              J_X12_arc_118 v1 v4 v5 v6 v7 st
            else
              J_X12_arc_119 v1 v4 v5 v6 v7 1 st)
          else
            J_X12_arc_118 v1 v4 v5 v6 v7 st))
      else
        J_X12_arc_118 v1 v4 v5 v6 v7 st))
  else
    some (.inr v6))
set_option maxRecDepth 100000 in
set_option maxHeartbeats 4000000 in
theorem w_X12_arc_b40 {κ : zK} {a : Nat → Nat} {v1 v4 v5 v6 v7 : Int} {st : z_St} {mc9 ms9 : Nat} {o : (Int × Int × Int) ⊕ Int} (hc : z_C κ RX12 cX12_arc 12 14 mc9 ms9) (hap : z_AP κ a z_N) (k1 : ∀ s9 : (Int × Int × Int), o = .inl s9 → z_V κ z_T z_N a 0 0 40 [(0, .ref (a 168)), (1, .long (zJ v1)), (4, .int (zI v4)), (5, .int (zI s9.1)), (6, .int (zI s9.2.1)), (7, .int (zI s9.2.2))] [] st) (k2 : ∀ x9 : Int, o = .inr x9 → z_V κ z_T z_N a 0 0 161 [(0, .ref (a 168)), (4, .int (zI v4)), (6, .int (zI x9))] [] st) (h : J_X12_arc_b40 v1 v4 v5 v6 v7 st = some o) : z_V κ z_T z_N a 0 0 40 [(0, .ref (a 168)), (1, .long (zJ v1)), (4, .int (zI v4)), (5, .int (zI v5)), (6, .int (zI v6)), (7, .int (zI v7))] [] st := by
  unfold J_X12_arc_b40 at h
  refine z_iload 5 hc dX12_arc_40 rfl ?_
  refine z_sipush hc dX12_arc_42 rfl ?_
  refine z_icmp_ge (tgt := 161) hc dX12_arc_45 (by decide) h (fun c45 h => ?_) (fun c45 h => ?_)
  · refine z_iload 3 hc dX12_arc_48 rfl ?_
    refine z_if_lt (tgt := 161) hc dX12_arc_50 (by decide) h (fun c50 h => ?_) (fun c50 h => ?_)
    · refine z_sub [(0, .ref (a 168)), (4, .int (zI v4)), (6, .int (zI v6))] [0, 2, 4] rfl ?_
      exact k2 v6 (Option.some.inj h).symm
    · refine z_iload 5 hc dX12_arc_53 rfl ?_
      refine z_iconst hc dX12_arc_55 ?_
      refine z_irem hc dX12_arc_56 h (fun h => ?_)
      refine z_istore [(8, .int (zI (v7.tmod 5))), (0, .ref (a 168)), (1, .long (zJ v1)), (4, .int (zI v4)), (5, .int (zI v5)), (6, .int (zI v6)), (7, .int (zI v7))] hc dX12_arc_57 (by decide) rfl ?_
      refine z_iload 6 hc dX12_arc_59 rfl ?_
      refine z_iconst hc dX12_arc_61 ?_
      refine z_idiv hc dX12_arc_62 h (fun h => ?_)
      refine z_bipush hc dX12_arc_63 rfl ?_
      refine z_irem hc dX12_arc_65 h (fun h => ?_)
      refine z_istore [(9, .int (zI ((v7.tdiv 5).tmod 17))), (8, .int (zI (v7.tmod 5))), (0, .ref (a 168)), (1, .long (zJ v1)), (4, .int (zI v4)), (5, .int (zI v5)), (6, .int (zI v6)), (7, .int (zI v7))] hc dX12_arc_66 (by decide) rfl ?_
      refine z_iload 7 hc dX12_arc_68 rfl ?_
      refine z_bipush hc dX12_arc_70 rfl ?_
      refine z_idiv hc dX12_arc_72 h (fun h => ?_)
      refine z_istore [(10, .int (zI (v7.tdiv 85))), (9, .int (zI ((v7.tdiv 5).tmod 17))), (8, .int (zI (v7.tmod 5))), (0, .ref (a 168)), (1, .long (zJ v1)), (4, .int (zI v4)), (5, .int (zI v5)), (6, .int (zI v6)), (7, .int (zI v7))] hc dX12_arc_73 (by decide) rfl ?_
      refine z_iload 2 hc dX12_arc_75 rfl ?_
      refine z_aload_n (i := 0) 3 hc dX12_arc_77 rfl rfl ?_
      refine z_getI (kI := 168) (jI := 18) hc fl_RX12_189 tT_168 (by decide) rfl rfl rfl dX12_arc_78 ?_
      refine z_icmp_ge (tgt := 118) hc dX12_arc_81 (by decide) h (fun c81 h => ?_) (fun c81 h => ?_)
      · refine z_iload 1 hc dX12_arc_84 rfl ?_
        refine z_aload_n (i := 0) 3 hc dX12_arc_86 rfl rfl ?_
        refine z_getI (kI := 168) (jI := 2) hc fl_RX12_128 tT_168 (by decide) rfl rfl rfl dX12_arc_87 ?_
        refine z_icmp_gt (tgt := 118) hc dX12_arc_90 (by decide) h (fun c90 h => ?_) (fun c90 h => ?_)
        · refine z_sub [(0, .ref (a 168)), (1, .long (zJ v1)), (4, .int (zI v4)), (5, .int (zI v5)), (6, .int (zI v6)), (7, .int (zI v7))] [3, 4, 5, 6, 7, 8] rfl ?_
          exact w_X12_arc_118 hc hap k1 k2 h
        · refine z_iload 0 hc dX12_arc_93 rfl ?_
          refine z_iload 1 hc dX12_arc_95 rfl ?_
          refine z_icmp_ge (tgt := 118) hc dX12_arc_97 (by decide) h (fun c97 h => ?_) (fun c97 h => ?_)
          · refine z_aload_n (i := 0) 3 hc dX12_arc_100 rfl rfl ?_
            refine z_iload 2 hc dX12_arc_101 rfl ?_
            refine z_iload 0 hc dX12_arc_103 rfl ?_
            refine z_iload 1 hc dX12_arc_105 rfl ?_
            refine z_lload_n (i := 1) 4 hc dX12_arc_107 rfl rfl ?_
            obtain ⟨r5, hr5, h⟩ := z_b_some h
            refine z_callVI [.int (zI (v7.tmod 5)), .int (zI (v7.tdiv 85)), .int (zI ((v7.tdiv 5).tmod 17)), .long (zJ v1)] hc hap o_X12_isArc ml_RX12_306 (fun l hl => c_X12_isArc hl  hr5) (by decide) tT_168 (by decide) ⟨_, rfl, rfl⟩ rfl rfl (Nat.le_of_ble_eq_true rfl) (Nat.zero_le _) (Nat.zero_le _) dX12_arc_108 ?_
            refine z_if_eq (tgt := 118) hc dX12_arc_111 (by decide) h (fun c111 h => ?_) (fun c111 h => ?_)
            · refine z_sub [(0, .ref (a 168)), (1, .long (zJ v1)), (4, .int (zI v4)), (5, .int (zI v5)), (6, .int (zI v6)), (7, .int (zI v7))] [3, 4, 5, 6, 7, 8] rfl ?_
              exact w_X12_arc_118 hc hap k1 k2 h
            · refine z_iconst hc dX12_arc_114 ?_
              refine z_goto (tgt := 119) hc dX12_arc_115 (by decide) ?_
              refine z_sub [(0, .ref (a 168)), (1, .long (zJ v1)), (4, .int (zI v4)), (5, .int (zI v5)), (6, .int (zI v6)), (7, .int (zI v7))] [3, 4, 5, 6, 7, 8] rfl ?_
              exact w_X12_arc_119 hc hap k1 k2 h
          · refine z_sub [(0, .ref (a 168)), (1, .long (zJ v1)), (4, .int (zI v4)), (5, .int (zI v5)), (6, .int (zI v6)), (7, .int (zI v7))] [3, 4, 5, 6, 7, 8] rfl ?_
            exact w_X12_arc_118 hc hap k1 k2 h
      · refine z_sub [(0, .ref (a 168)), (1, .long (zJ v1)), (4, .int (zI v4)), (5, .int (zI v5)), (6, .int (zI v6)), (7, .int (zI v7))] [3, 4, 5, 6, 7, 8] rfl ?_
        exact w_X12_arc_118 hc hap k1 k2 h
  · refine z_sub [(0, .ref (a 168)), (4, .int (zI v4)), (6, .int (zI v6))] [0, 2, 4] rfl ?_
    exact k2 v6 (Option.some.inj h).symm
def J_X12_arc_270 (s0 : Int) (st : z_St) : Option (Int × z_St) :=
  some (s0, st)
set_option maxRecDepth 100000 in
set_option maxHeartbeats 4000000 in
theorem w_X12_arc_270 {κ : zK} {a : Nat → Nat} {s0 : Int} {st : z_St} {o : Int × z_St} (hc : z_C κ RX12 cX12_arc 12 14 0 0) (hap : z_AP κ a z_N) (he : z_E 1 κ (some .long) z_T z_N a o.1 o.2) (h : J_X12_arc_270 s0 st = some o) : z_V κ z_T z_N a 0 0 270 [] [.long (zJ s0)] st := by
  unfold J_X12_arc_270 at h
  have h := Option.some.inj h
  subst h
  exact z_retJ hc he dX12_arc_270
def J_X12_arc_190 (v4 v6 s0 : Int) (st : z_St) : Option (Int × z_St) :=
  z_b (J_X12_holds s0 st) fun r8 =>
  z_g (z32 r8.1) (if r8.1 = 0 then
    z_g (z32 v4) (if v4 = 0 then
      z_g (z32 v6 ∧ z32 5 ∧ (5 : Int) ≠ 0) <|
      z_g (z32 (v6.tmod 5)) <|
      J_X12_arc_270 (v6.tmod 5) r8.2
    else
      z_g (z32 v4 ∧ z32 1) (if v4 = 1 then
        z_g (z32 v6 ∧ z32 85 ∧ (85 : Int) ≠ 0) <|
        z_g (z32 (v6.tdiv 85)) <|
        J_X12_arc_270 (v6.tdiv 85) r8.2
      else
        z_g (z32 v4 ∧ z32 2) (if v4 = 2 then
          z_g (z32 v6 ∧ z32 5 ∧ (5 : Int) ≠ 0) <|
          z_g (z32 (v6.tdiv 5) ∧ z32 17 ∧ (17 : Int) ≠ 0) <|
          z_g (z32 ((v6.tdiv 5).tmod 17)) <|
          J_X12_arc_270 ((v6.tdiv 5).tmod 17) r8.2
        else
          z_g (z32 v6 ∧ z32 5 ∧ (5 : Int) ≠ 0) <|
          z_g (z32 v6 ∧ z32 85 ∧ (85 : Int) ≠ 0) <|
          z_g (z32 v6 ∧ z32 5 ∧ (5 : Int) ≠ 0) <|
          z_g (z32 (v6.tdiv 5) ∧ z32 17 ∧ (17 : Int) ≠ 0) <|
          z_b (J_X12_span (v6.tmod 5) (v6.tdiv 85) ((v6.tdiv 5).tmod 17) r8.2) fun r10 =>
          z_g (0 ≤ r10 ∧ r10 < 1445) <|
          J_X12_arc_270 (r8.2 197 r10) r8.2)))
  else
    some ((-1), r8.2))
set_option maxRecDepth 100000 in
set_option maxHeartbeats 4000000 in
theorem w_X12_arc_190 {κ : zK} {a : Nat → Nat} {v4 v6 s0 : Int} {st : z_St} {o : Int × z_St} (hc : z_C κ RX12 cX12_arc 12 14 0 0) (hap : z_AP κ a z_N) (he : z_E 1 κ (some .long) z_T z_N a o.1 o.2) (h : J_X12_arc_190 v4 v6 s0 st = some o) : z_V κ z_T z_N a 0 0 190 [(0, .ref (a 168)), (4, .int (zI v4)), (6, .int (zI v6))] [.int (zI s0), .ref (a 168)] st := by
  unfold J_X12_arc_190 at h
  obtain ⟨r8, hr8, h⟩ := z_b_some h
  refine z_callVI [.int (zI s0)] hc hap o_X12_holds ml_RX12_131 (fun l hl => c_X12_holds hl  hr8) (by decide) tT_168 (by decide) ⟨_, rfl, rfl⟩ rfl rfl (Nat.le_of_ble_eq_true rfl) (Nat.zero_le _) (Nat.zero_le _) dX12_arc_190 ?_
  refine z_if_eq (tgt := 200) hc dX12_arc_193 (by decide) h (fun c193 h => ?_) (fun c193 h => ?_)
  · refine z_iload 1 hc dX12_arc_200 rfl ?_
    refine z_if_ne (tgt := 213) hc dX12_arc_202 (by decide) h (fun c202 h => ?_) (fun c202 h => ?_)
    · refine z_iload 2 hc dX12_arc_205 rfl ?_
      refine z_iconst hc dX12_arc_207 ?_
      refine z_irem hc dX12_arc_208 h (fun h => ?_)
      refine z_i2l hc dX12_arc_209 h (fun h => ?_)
      refine z_goto (tgt := 270) hc dX12_arc_210 (by decide) ?_
      refine z_sub [] [] rfl ?_
      exact w_X12_arc_270 hc hap he h
    · refine z_iload 1 hc dX12_arc_213 rfl ?_
      refine z_iconst hc dX12_arc_215 ?_
      refine z_icmp_ne (tgt := 228) hc dX12_arc_216 (by decide) h (fun c216 h => ?_) (fun c216 h => ?_)
      · refine z_iload 2 hc dX12_arc_219 rfl ?_
        refine z_bipush hc dX12_arc_221 rfl ?_
        refine z_idiv hc dX12_arc_223 h (fun h => ?_)
        refine z_i2l hc dX12_arc_224 h (fun h => ?_)
        refine z_goto (tgt := 270) hc dX12_arc_225 (by decide) ?_
        refine z_sub [] [] rfl ?_
        exact w_X12_arc_270 hc hap he h
      · refine z_iload 1 hc dX12_arc_228 rfl ?_
        refine z_iconst hc dX12_arc_230 ?_
        refine z_icmp_ne (tgt := 245) hc dX12_arc_231 (by decide) h (fun c231 h => ?_) (fun c231 h => ?_)
        · refine z_iload 2 hc dX12_arc_234 rfl ?_
          refine z_iconst hc dX12_arc_236 ?_
          refine z_idiv hc dX12_arc_237 h (fun h => ?_)
          refine z_bipush hc dX12_arc_238 rfl ?_
          refine z_irem hc dX12_arc_240 h (fun h => ?_)
          refine z_i2l hc dX12_arc_241 h (fun h => ?_)
          refine z_goto (tgt := 270) hc dX12_arc_242 (by decide) ?_
          refine z_sub [] [] rfl ?_
          exact w_X12_arc_270 hc hap he h
        · refine z_aload_n (i := 0) 0 hc dX12_arc_245 rfl rfl ?_
          refine z_getA (k' := 197) hc fl_RX12_103 tT_168 (by decide) rfl rfl dX12_arc_246 ?_
          refine z_aload_n (i := 0) 0 hc dX12_arc_249 rfl rfl ?_
          refine z_iload 2 hc dX12_arc_250 rfl ?_
          refine z_iconst hc dX12_arc_252 ?_
          refine z_irem hc dX12_arc_253 h (fun h => ?_)
          refine z_iload 2 hc dX12_arc_254 rfl ?_
          refine z_bipush hc dX12_arc_256 rfl ?_
          refine z_idiv hc dX12_arc_258 h (fun h => ?_)
          refine z_iload 2 hc dX12_arc_259 rfl ?_
          refine z_iconst hc dX12_arc_261 ?_
          refine z_idiv hc dX12_arc_262 h (fun h => ?_)
          refine z_bipush hc dX12_arc_263 rfl ?_
          refine z_irem hc dX12_arc_265 h (fun h => ?_)
          obtain ⟨r10, hr10, h⟩ := z_b_some h
          refine z_callVI [.int (zI (v6.tmod 5)), .int (zI (v6.tdiv 85)), .int (zI ((v6.tdiv 5).tmod 17))] hc hap o_X12_span ml_RX12_211 (fun l hl => c_X12_span hl  hr10) (by decide) tT_168 (by decide) ⟨_, rfl, rfl⟩ rfl rfl (Nat.le_of_ble_eq_true rfl) (Nat.zero_le _) (Nat.zero_le _) dX12_arc_266 ?_
          refine z_lald (kI := 197) (nI9 := 1445) hc tT_197 (by decide) rfl rfl (by decide) dX12_arc_269 h (fun g12 h => ?_)
          refine z_sub [] [] rfl ?_
          exact w_X12_arc_270 hc hap he h
  · refine z_ldc2 (-1) hc kc_RX12_145 dX12_arc_196 rfl ?_
    have h := Option.some.inj h
    subst h
    exact z_retJ hc he dX12_arc_199
def J_X12_arc_32 (v1 v4 s0 : Int) (st : z_St) : Option (Int × z_St) :=
  z_b (z_iter z_F (fun q9 : (Int × Int × Int) => J_X12_arc_b40 v1 v4 q9.1 q9.2.1 q9.2.2 st) (s0, (-1), 0)) fun lx7 =>
    z_g (z32 lx7) (if lx7 < 0 then
      J_X12_arc_190 v4 lx7 1 st
    else
      z_g (z32 v4) <|
      z_b (J_X12_in v4 0 3 st) fun r13 =>
      z_g (z32 r13) (if r13 = 0 then
        J_X12_arc_190 v4 lx7 2 st
      else
        J_X12_arc_190 v4 lx7 0 st))
set_option maxRecDepth 100000 in
set_option maxHeartbeats 4000000 in
theorem w_X12_arc_32 {κ : zK} {a : Nat → Nat} {v1 v4 s0 : Int} {st : z_St} {o : Int × z_St} (hc : z_C κ RX12 cX12_arc 12 14 0 0) (hap : z_AP κ a z_N) (he : z_E 1 κ (some .long) z_T z_N a o.1 o.2) (h : J_X12_arc_32 v1 v4 s0 st = some o) : z_V κ z_T z_N a 0 0 32 [(0, .ref (a 168)), (1, .long (zJ v1)), (4, .int (zI v4))] [.int (zI s0)] st := by
  unfold J_X12_arc_32 at h
  refine z_istore [(5, .int (zI s0)), (0, .ref (a 168)), (1, .long (zJ v1)), (4, .int (zI v4))] hc dX12_arc_32 (by decide) rfl ?_
  refine z_iconst hc dX12_arc_34 ?_
  refine z_istore [(6, .int (zI (-1))), (5, .int (zI s0)), (0, .ref (a 168)), (1, .long (zJ v1)), (4, .int (zI v4))] hc dX12_arc_35 (by decide) rfl ?_
  refine z_iconst hc dX12_arc_37 ?_
  refine z_istore [(7, .int (zI 0)), (6, .int (zI (-1))), (5, .int (zI s0)), (0, .ref (a 168)), (1, .long (zJ v1)), (4, .int (zI v4))] hc dX12_arc_38 (by decide) rfl ?_
  obtain ⟨lx7, hlx7, h⟩ := z_b_some h
  refine z_sub [(0, .ref (a 168)), (1, .long (zJ v1)), (4, .int (zI v4)), (5, .int (zI s0)), (6, .int (zI (-1))), (7, .int (zI 0))] [3, 4, 5, 2, 1, 0] rfl ?_
  refine z_loop (fun q9 : (Int × Int × Int) => J_X12_arc_b40 v1 v4 q9.1 q9.2.1 q9.2.2 st) (fun q9 : (Int × Int × Int) => z_V κ z_T z_N a 0 0 40 [(0, .ref (a 168)), (1, .long (zJ v1)), (4, .int (zI v4)), (5, .int (zI q9.1)), (6, .int (zI q9.2.1)), (7, .int (zI q9.2.2))] [] st) (fun x9 : Int => z_V κ z_T z_N a 0 0 161 [(0, .ref (a 168)), (4, .int (zI v4)), (6, .int (zI x9))] [] st) (fun q9 o9 hb k1 k2 => ?_) _ _ _ hlx7 ?_
  · exact w_X12_arc_b40 hc hap k1 k2 hb
  · show z_V κ z_T z_N a 0 0 161 [(0, .ref (a 168)), (4, .int (zI v4)), (6, .int (zI lx7))] [] st
    refine z_aload_n (i := 0) 0 hc dX12_arc_161 rfl rfl ?_
    refine z_iload 2 hc dX12_arc_162 rfl ?_
    refine z_if_ge (tgt := 171) hc dX12_arc_164 (by decide) h (fun c164 h => ?_) (fun c164 h => ?_)
    · refine z_iconst hc dX12_arc_167 ?_
      refine z_goto (tgt := 190) hc dX12_arc_168 (by decide) ?_
      refine z_sub [(0, .ref (a 168)), (4, .int (zI v4)), (6, .int (zI lx7))] [0, 1, 2] rfl ?_
      exact w_X12_arc_190 hc hap he h
    · refine z_aload_n (i := 0) 0 hc dX12_arc_171 rfl rfl ?_
      refine z_iload 1 hc dX12_arc_172 rfl ?_
      refine z_i2l hc dX12_arc_174 h (fun h => ?_)
      refine z_lconst 0 hc dX12_arc_175 rfl ?_
      refine z_ldc2 3 hc kc_RX12_134 dX12_arc_176 rfl ?_
      obtain ⟨r13, hr13, h⟩ := z_b_some h
      refine z_callVI [.long (zJ v4), .long (zJ 0), .long (zJ 3)] hc hap o_X12_in ml_RX12_116 (fun l hl => c_X12_in hl  hr13) (by decide) tT_168 (by decide) ⟨_, rfl, rfl⟩ rfl rfl (Nat.le_of_ble_eq_true rfl) (Nat.zero_le _) (Nat.zero_le _) dX12_arc_179 ?_
      refine z_if_eq (tgt := 189) hc dX12_arc_182 (by decide) h (fun c182 h => ?_) (fun c182 h => ?_)
      · refine z_iconst hc dX12_arc_189 ?_
        refine z_sub [(0, .ref (a 168)), (4, .int (zI v4)), (6, .int (zI lx7))] [0, 1, 2] rfl ?_
        exact w_X12_arc_190 hc hap he h
      · refine z_iconst hc dX12_arc_185 ?_
        refine z_goto (tgt := 190) hc dX12_arc_186 (by decide) ?_
        refine z_sub [(0, .ref (a 168)), (4, .int (zI v4)), (6, .int (zI lx7))] [0, 1, 2] rfl ?_
        exact w_X12_arc_190 hc hap he h
def J_X12_arc_31 (v1 v4 : Int) (st : z_St) : Option (Int × z_St) :=
  J_X12_arc_32 v1 v4 (-1) st
set_option maxRecDepth 100000 in
set_option maxHeartbeats 4000000 in
theorem w_X12_arc_31 {κ : zK} {a : Nat → Nat} {v1 v4 : Int} {st : z_St} {o : Int × z_St} (hc : z_C κ RX12 cX12_arc 12 14 0 0) (hap : z_AP κ a z_N) (he : z_E 1 κ (some .long) z_T z_N a o.1 o.2) (h : J_X12_arc_31 v1 v4 st = some o) : z_V κ z_T z_N a 0 0 31 [(0, .ref (a 168)), (1, .long (zJ v1)), (4, .int (zI v4))] [] st := by
  unfold J_X12_arc_31 at h
  refine z_iconst hc dX12_arc_31 ?_
  refine z_sub [(0, .ref (a 168)), (1, .long (zJ v1)), (4, .int (zI v4))] [0, 1, 2] rfl ?_
  exact w_X12_arc_32 hc hap he h
def J_X12_arc (x1 x3 x4 : Int) (st : z_St) : Option (Int × z_St) :=
  z_g (z64 x1 ∧ z64 0) (if x1 < 0 then
    z_b (J_X12_holds 2 st) fun r1 =>
    some ((-1), r1.2)
  else
    z_b (J_X12_laysArcs st) fun r3 =>
    z_g (z32 r3.1) (if r3.1 < 0 then
      J_X12_arc_31 x1 x4 r3.2
    else
      z_g (z32 x3) (if x3 < 0 then
        J_X12_arc_31 x1 x4 r3.2
      else
        J_X12_arc_32 x1 x4 x3 r3.2)))
set_option maxRecDepth 100000 in
set_option maxHeartbeats 4000000 in
theorem w_X12_arc {κ : zK} {a : Nat → Nat} {x1 x3 x4 : Int} {st : z_St} {o : Int × z_St} (hc : z_C κ RX12 cX12_arc 12 14 0 0) (hap : z_AP κ a z_N) (he : z_E 1 κ (some .long) z_T z_N a o.1 o.2) (h : J_X12_arc x1 x3 x4 st = some o) : z_V κ z_T z_N a 0 0 0 [(0, .ref (a 168)), (1, .long (zJ x1)), (3, .int (zI x3)), (4, .int (zI x4))] [] st := by
  unfold J_X12_arc at h
  refine z_lload_n (i := 1) 1 hc dX12_arc_0 rfl rfl ?_
  refine z_lconst 0 hc dX12_arc_1 rfl ?_
  refine z_lcmp_ge (tgt := 16) hc dX12_arc_2 dX12_arc_3 (by decide) h (fun c2 h => ?_) (fun c2 h => ?_)
  · refine z_aload_n (i := 0) 0 hc dX12_arc_6 rfl rfl ?_
    refine z_iconst hc dX12_arc_7 ?_
    obtain ⟨r1, hr1, h⟩ := z_b_some h
    refine z_callVI [.int (zI 2)] hc hap o_X12_holds ml_RX12_131 (fun l hl => c_X12_holds hl  hr1) (by decide) tT_168 (by decide) ⟨_, rfl, rfl⟩ rfl rfl (Nat.le_of_ble_eq_true rfl) (Nat.zero_le _) (Nat.zero_le _) dX12_arc_8 ?_
    refine z_pop hc dX12_arc_11 rfl ?_
    refine z_ldc2 (-1) hc kc_RX12_145 dX12_arc_12 rfl ?_
    have h := Option.some.inj h
    subst h
    exact z_retJ hc he dX12_arc_15
  · refine z_aload_n (i := 0) 0 hc dX12_arc_16 rfl rfl ?_
    obtain ⟨r3, hr3, h⟩ := z_b_some h
    refine z_callVI [] hc hap o_X12_laysArcs ml_RX12_303 (fun l hl => c_X12_laysArcs hl  hr3) (by decide) tT_168 (by decide) ⟨_, rfl, rfl⟩ rfl rfl (Nat.le_of_ble_eq_true rfl) (Nat.zero_le _) (Nat.zero_le _) dX12_arc_17 ?_
    refine z_if_lt (tgt := 31) hc dX12_arc_20 (by decide) h (fun c20 h => ?_) (fun c20 h => ?_)
    · refine z_sub [(0, .ref (a 168)), (1, .long (zJ x1)), (4, .int (zI x4))] [0, 1, 3] rfl ?_
      exact w_X12_arc_31 hc hap he h
    · refine z_iload_n (i := 3) 2 hc dX12_arc_23 rfl rfl ?_
      refine z_if_lt (tgt := 31) hc dX12_arc_24 (by decide) h (fun c24 h => ?_) (fun c24 h => ?_)
      · refine z_sub [(0, .ref (a 168)), (1, .long (zJ x1)), (4, .int (zI x4))] [0, 1, 3] rfl ?_
        exact w_X12_arc_31 hc hap he h
      · refine z_iload_n (i := 3) 2 hc dX12_arc_27 rfl rfl ?_
        refine z_goto (tgt := 32) hc dX12_arc_28 (by decide) ?_
        refine z_sub [(0, .ref (a 168)), (1, .long (zJ x1)), (4, .int (zI x4))] [0, 1, 3] rfl ?_
        exact w_X12_arc_32 hc hap he h
set_option maxRecDepth 100000 in
set_option maxHeartbeats 4000000 in
theorem c_X12_arc {l : Launch} (hl : l.stackTraces = false) {a : Nat → Nat} {x1 x3 x4 : Int} {st : z_St} {o : Int × z_St} (h : J_X12_arc x1 x3 x4 st = some o) : z_M 1 l yX12_arc cX12_arc 12 (some .long) 14 z_T z_N a [.ref (a 168), .long (zJ x1), .int (zI x3), .int (zI x4)] st o.1 o.2 := z_of hl (by decide +kernel) (Nat.le_of_ble_eq_true rfl) (fun κ hc hap he => w_X12_arc hc hap he h)
theorem dX12_keyword_0 : decode cX12_keyword 0 = .ok (.aload_n 0, 1) := by decide +kernel
theorem dX12_keyword_1 : decode cX12_keyword 1 = .ok (.aload_n 0, 1) := by decide +kernel
theorem dX12_keyword_2 : decode cX12_keyword 2 = .ok (.iload_n 1, 1) := by decide +kernel
theorem dX12_keyword_3 : decode cX12_keyword 3 = .ok (.invokevirtual 195, 3) := by decide +kernel
theorem dX12_keyword_6 : decode cX12_keyword 6 = .ok (.ifCond .eq 7, 3) := by decide +kernel
theorem dX12_keyword_9 : decode cX12_keyword 9 = .ok (.iconst 0, 1) := by decide +kernel
theorem dX12_keyword_10 : decode cX12_keyword 10 = .ok (.goto 4, 3) := by decide +kernel
theorem dX12_keyword_13 : decode cX12_keyword 13 = .ok (.iconst 1, 1) := by decide +kernel
theorem dX12_keyword_14 : decode cX12_keyword 14 = .ok (.invokevirtual 131, 3) := by decide +kernel
theorem dX12_keyword_17 : decode cX12_keyword 17 = .ok (.ifCond .eq 7, 3) := by decide +kernel
theorem dX12_keyword_20 : decode cX12_keyword 20 = .ok (.ldc2_w 145, 3) := by decide +kernel
theorem dX12_keyword_23 : decode cX12_keyword 23 = .ok (.lreturn, 1) := by decide +kernel
theorem dX12_keyword_24 : decode cX12_keyword 24 = .ok (.ldc2_w 205, 3) := by decide +kernel
theorem dX12_keyword_27 : decode cX12_keyword 27 = .ok (.lstore_n 2, 1) := by decide +kernel
theorem dX12_keyword_28 : decode cX12_keyword 28 = .ok (.aload_n 0, 1) := by decide +kernel
theorem dX12_keyword_29 : decode cX12_keyword 29 = .ok (.invokevirtual 303, 3) := by decide +kernel
theorem dX12_keyword_32 : decode cX12_keyword 32 = .ok (.ifCond .lt 7, 3) := by decide +kernel
theorem dX12_keyword_35 : decode cX12_keyword 35 = .ok (.iconst 1, 1) := by decide +kernel
theorem dX12_keyword_36 : decode cX12_keyword 36 = .ok (.goto 4, 3) := by decide +kernel
theorem dX12_keyword_39 : decode cX12_keyword 39 = .ok (.iconst 0, 1) := by decide +kernel
theorem dX12_keyword_40 : decode cX12_keyword 40 = .ok (.istore 4, 2) := by decide +kernel
theorem dX12_keyword_42 : decode cX12_keyword 42 = .ok (.iconst 0, 1) := by decide +kernel
theorem dX12_keyword_43 : decode cX12_keyword 43 = .ok (.istore 5, 2) := by decide +kernel
theorem dX12_keyword_45 : decode cX12_keyword 45 = .ok (.iload 5, 2) := by decide +kernel
theorem dX12_keyword_47 : decode cX12_keyword 47 = .ok (.aload_n 0, 1) := by decide +kernel
theorem dX12_keyword_48 : decode cX12_keyword 48 = .ok (.getfield 128, 3) := by decide +kernel
theorem dX12_keyword_51 : decode cX12_keyword 51 = .ok (.if_icmp .ge 55, 3) := by decide +kernel
theorem dX12_keyword_54 : decode cX12_keyword 54 = .ok (.iload 4, 2) := by decide +kernel
theorem dX12_keyword_56 : decode cX12_keyword 56 = .ok (.ifCond .eq 50, 3) := by decide +kernel
theorem dX12_keyword_59 : decode cX12_keyword 59 = .ok (.iload 5, 2) := by decide +kernel
theorem dX12_keyword_61 : decode cX12_keyword 61 = .ok (.iconst 1, 1) := by decide +kernel
theorem dX12_keyword_62 : decode cX12_keyword 62 = .ok (.iadd, 1) := by decide +kernel
theorem dX12_keyword_63 : decode cX12_keyword 63 = .ok (.istore 6, 2) := by decide +kernel
theorem dX12_keyword_65 : decode cX12_keyword 65 = .ok (.iload 6, 2) := by decide +kernel
theorem dX12_keyword_67 : decode cX12_keyword 67 = .ok (.aload_n 0, 1) := by decide +kernel
theorem dX12_keyword_68 : decode cX12_keyword 68 = .ok (.getfield 128, 3) := by decide +kernel
theorem dX12_keyword_71 : decode cX12_keyword 71 = .ok (.if_icmp .gt 29, 3) := by decide +kernel
theorem dX12_keyword_74 : decode cX12_keyword 74 = .ok (.aload_n 0, 1) := by decide +kernel
theorem dX12_keyword_75 : decode cX12_keyword 75 = .ok (.lload_n 2, 1) := by decide +kernel
theorem dX12_keyword_76 : decode cX12_keyword 76 = .ok (.aload_n 0, 1) := by decide +kernel
theorem dX12_keyword_77 : decode cX12_keyword 77 = .ok (.getfield 103, 3) := by decide +kernel
theorem dX12_keyword_80 : decode cX12_keyword 80 = .ok (.aload_n 0, 1) := by decide +kernel
theorem dX12_keyword_81 : decode cX12_keyword 81 = .ok (.iload_n 1, 1) := by decide +kernel
theorem dX12_keyword_82 : decode cX12_keyword 82 = .ok (.iload 5, 2) := by decide +kernel
theorem dX12_keyword_84 : decode cX12_keyword 84 = .ok (.iload 6, 2) := by decide +kernel
theorem dX12_keyword_86 : decode cX12_keyword 86 = .ok (.invokevirtual 211, 3) := by decide +kernel
theorem dX12_keyword_89 : decode cX12_keyword 89 = .ok (.laload, 1) := by decide +kernel
theorem dX12_keyword_90 : decode cX12_keyword 90 = .ok (.invokevirtual 207, 3) := by decide +kernel
theorem dX12_keyword_93 : decode cX12_keyword 93 = .ok (.lstore_n 2, 1) := by decide +kernel
theorem dX12_keyword_94 : decode cX12_keyword 94 = .ok (.iinc 6 1, 3) := by decide +kernel
theorem dX12_keyword_97 : decode cX12_keyword 97 = .ok (.goto (-32), 3) := by decide +kernel
theorem dX12_keyword_100 : decode cX12_keyword 100 = .ok (.iinc 5 1, 3) := by decide +kernel
theorem dX12_keyword_103 : decode cX12_keyword 103 = .ok (.goto (-58), 3) := by decide +kernel
theorem dX12_keyword_106 : decode cX12_keyword 106 = .ok (.aload_n 0, 1) := by decide +kernel
theorem dX12_keyword_107 : decode cX12_keyword 107 = .ok (.lload_n 2, 1) := by decide +kernel
theorem dX12_keyword_108 : decode cX12_keyword 108 = .ok (.invokevirtual 224, 3) := by decide +kernel
theorem dX12_keyword_111 : decode cX12_keyword 111 = .ok (.lreturn, 1) := by decide +kernel
def J_X12_keyword_b65 (v1 v4 v5 v2 v6 : Int) (st : z_St) : Option ((Int × Int) ⊕ Int) :=
  z_g (z32 v6 ∧ z32 (st 168 2)) (if st 168 2 < v6 then
    some (.inr v2)
  else
    z_b (J_X12_span v1 v5 v6 st) fun r7 =>
    z_g (0 ≤ r7 ∧ r7 < 1445) <|
    z_b (J_X12_least v2 (st 197 r7) st) fun r10 =>
    some (.inl (r10, v6 + 1)))
set_option maxRecDepth 100000 in
set_option maxHeartbeats 4000000 in
theorem w_X12_keyword_b65 {κ : zK} {a : Nat → Nat} {v1 v2 v4 v5 v6 : Int} {st : z_St} {mc9 ms9 : Nat} {o : (Int × Int) ⊕ Int} (hc : z_C κ RX12 cX12_keyword 7 14 mc9 ms9) (hap : z_AP κ a z_N) (k1 : ∀ s9 : (Int × Int), o = .inl s9 → z_V κ z_T z_N a 0 0 65 [(0, .ref (a 168)), (1, .int (zI v1)), (2, .long (zJ s9.1)), (4, .int (zI v4)), (5, .int (zI v5)), (6, .int (zI s9.2))] [] st) (k2 : ∀ x9 : Int, o = .inr x9 → z_V κ z_T z_N a 0 0 100 [(0, .ref (a 168)), (1, .int (zI v1)), (2, .long (zJ x9)), (4, .int (zI v4)), (5, .int (zI v5))] [] st) (h : J_X12_keyword_b65 v1 v4 v5 v2 v6 st = some o) : z_V κ z_T z_N a 0 0 65 [(0, .ref (a 168)), (1, .int (zI v1)), (2, .long (zJ v2)), (4, .int (zI v4)), (5, .int (zI v5)), (6, .int (zI v6))] [] st := by
  unfold J_X12_keyword_b65 at h
  refine z_iload 5 hc dX12_keyword_65 rfl ?_
  refine z_aload_n (i := 0) 0 hc dX12_keyword_67 rfl rfl ?_
  refine z_getI (kI := 168) (jI := 2) hc fl_RX12_128 tT_168 (by decide) rfl rfl rfl dX12_keyword_68 ?_
  refine z_icmp_gt (tgt := 100) hc dX12_keyword_71 (by decide) h (fun c71 h => ?_) (fun c71 h => ?_)
  · refine z_sub [(0, .ref (a 168)), (1, .int (zI v1)), (2, .long (zJ v2)), (4, .int (zI v4)), (5, .int (zI v5))] [0, 1, 2, 3, 4] rfl ?_
    exact k2 v2 (Option.some.inj h).symm
  · refine z_aload_n (i := 0) 0 hc dX12_keyword_74 rfl rfl ?_
    refine z_lload_n (i := 2) 2 hc dX12_keyword_75 rfl rfl ?_
    refine z_aload_n (i := 0) 0 hc dX12_keyword_76 rfl rfl ?_
    refine z_getA (k' := 197) hc fl_RX12_103 tT_168 (by decide) rfl rfl dX12_keyword_77 ?_
    refine z_aload_n (i := 0) 0 hc dX12_keyword_80 rfl rfl ?_
    refine z_iload_n (i := 1) 1 hc dX12_keyword_81 rfl rfl ?_
    refine z_iload 4 hc dX12_keyword_82 rfl ?_
    refine z_iload 5 hc dX12_keyword_84 rfl ?_
    obtain ⟨r7, hr7, h⟩ := z_b_some h
    refine z_callVI [.int (zI v1), .int (zI v5), .int (zI v6)] hc hap o_X12_span ml_RX12_211 (fun l hl => c_X12_span hl  hr7) (by decide) tT_168 (by decide) ⟨_, rfl, rfl⟩ rfl rfl (Nat.le_of_ble_eq_true rfl) (Nat.zero_le _) (Nat.zero_le _) dX12_keyword_86 ?_
    refine z_lald (kI := 197) (nI9 := 1445) hc tT_197 (by decide) rfl rfl (by decide) dX12_keyword_89 h (fun g9 h => ?_)
    obtain ⟨r10, hr10, h⟩ := z_b_some h
    refine z_callVJ [.long (zJ v2), .long (zJ (st 197 r7))] hc hap o_X12_least ml_RX12_207 (fun l hl => c_X12_least hl  hr10) (by decide) tT_168 (by decide) ⟨_, rfl, rfl⟩ rfl rfl (Nat.le_of_ble_eq_true rfl) (Nat.zero_le _) (Nat.zero_le _) dX12_keyword_90 ?_
    refine z_lstore_n (i := 2) [(2, .long (zJ r10)), (0, .ref (a 168)), (1, .int (zI v1)), (4, .int (zI v4)), (5, .int (zI v5)), (6, .int (zI v6))] hc dX12_keyword_93 rfl (by decide) rfl ?_
    refine z_iinc [(6, .int (zI (v6 + 1))), (2, .long (zJ r10)), (0, .ref (a 168)), (1, .int (zI v1)), (4, .int (zI v4)), (5, .int (zI v5))] 5 hc dX12_keyword_94 rfl (by decide) rfl ?_
    refine z_goto (tgt := 65) hc dX12_keyword_97 (by decide) ?_
    refine z_sub [(0, .ref (a 168)), (1, .int (zI v1)), (2, .long (zJ r10)), (4, .int (zI v4)), (5, .int (zI v5)), (6, .int (zI (v6 + 1)))] [2, 3, 1, 4, 5, 0] rfl ?_
    exact k1 _ (Option.some.inj h).symm
def J_X12_keyword_b45 (v1 v4 v2 v5 : Int) (st : z_St) : Option ((Int × Int) ⊕ Int) :=
  z_g (z32 v5 ∧ z32 (st 168 2)) (if v5 < st 168 2 then
    z_g (z32 v4) (if v4 = 0 then
      some (.inr v2)
    else
      z_b (z_iter z_F (fun q9 : (Int × Int) => J_X12_keyword_b65 v1 v4 v5 q9.1 q9.2 st) (v2, v5 + 1)) fun lx12 =>
        some (.inl (lx12, v5 + 1)))
  else
    some (.inr v2))
set_option maxRecDepth 100000 in
set_option maxHeartbeats 4000000 in
theorem w_X12_keyword_b45 {κ : zK} {a : Nat → Nat} {v1 v2 v4 v5 : Int} {st : z_St} {mc9 ms9 : Nat} {o : (Int × Int) ⊕ Int} (hc : z_C κ RX12 cX12_keyword 7 14 mc9 ms9) (hap : z_AP κ a z_N) (k1 : ∀ s9 : (Int × Int), o = .inl s9 → z_V κ z_T z_N a 0 0 45 [(0, .ref (a 168)), (1, .int (zI v1)), (2, .long (zJ s9.1)), (4, .int (zI v4)), (5, .int (zI s9.2))] [] st) (k2 : ∀ x9 : Int, o = .inr x9 → z_V κ z_T z_N a 0 0 106 [(0, .ref (a 168)), (2, .long (zJ x9))] [] st) (h : J_X12_keyword_b45 v1 v4 v2 v5 st = some o) : z_V κ z_T z_N a 0 0 45 [(0, .ref (a 168)), (1, .int (zI v1)), (2, .long (zJ v2)), (4, .int (zI v4)), (5, .int (zI v5))] [] st := by
  unfold J_X12_keyword_b45 at h
  refine z_iload 4 hc dX12_keyword_45 rfl ?_
  refine z_aload_n (i := 0) 0 hc dX12_keyword_47 rfl rfl ?_
  refine z_getI (kI := 168) (jI := 2) hc fl_RX12_128 tT_168 (by decide) rfl rfl rfl dX12_keyword_48 ?_
  refine z_icmp_ge (tgt := 106) hc dX12_keyword_51 (by decide) h (fun c51 h => ?_) (fun c51 h => ?_)
  · refine z_iload 3 hc dX12_keyword_54 rfl ?_
    refine z_if_eq (tgt := 106) hc dX12_keyword_56 (by decide) h (fun c56 h => ?_) (fun c56 h => ?_)
    · refine z_sub [(0, .ref (a 168)), (2, .long (zJ v2))] [0, 2] rfl ?_
      exact k2 v2 (Option.some.inj h).symm
    · refine z_iload 4 hc dX12_keyword_59 rfl ?_
      refine z_iconst hc dX12_keyword_61 ?_
      refine z_iadd hc dX12_keyword_62 ?_
      refine z_istore [(6, .int (zI (v5 + 1))), (0, .ref (a 168)), (1, .int (zI v1)), (2, .long (zJ v2)), (4, .int (zI v4)), (5, .int (zI v5))] hc dX12_keyword_63 (by decide) rfl ?_
      obtain ⟨lx12, hlx12, h⟩ := z_b_some h
      refine z_sub [(0, .ref (a 168)), (1, .int (zI v1)), (2, .long (zJ v2)), (4, .int (zI v4)), (5, .int (zI v5)), (6, .int (zI (v5 + 1)))] [1, 2, 3, 4, 5, 0] rfl ?_
      refine z_loop (fun q9 : (Int × Int) => J_X12_keyword_b65 v1 v4 v5 q9.1 q9.2 st) (fun q9 : (Int × Int) => z_V κ z_T z_N a 0 0 65 [(0, .ref (a 168)), (1, .int (zI v1)), (2, .long (zJ q9.1)), (4, .int (zI v4)), (5, .int (zI v5)), (6, .int (zI q9.2))] [] st) (fun x9 : Int => z_V κ z_T z_N a 0 0 100 [(0, .ref (a 168)), (1, .int (zI v1)), (2, .long (zJ x9)), (4, .int (zI v4)), (5, .int (zI v5))] [] st) (fun q9 o9 hb k1 k2 => ?_) _ _ _ hlx12 ?_
      · exact w_X12_keyword_b65 hc hap k1 k2 hb
      · show z_V κ z_T z_N a 0 0 100 [(0, .ref (a 168)), (1, .int (zI v1)), (2, .long (zJ lx12)), (4, .int (zI v4)), (5, .int (zI v5))] [] st
        refine z_iinc [(5, .int (zI (v5 + 1))), (0, .ref (a 168)), (1, .int (zI v1)), (2, .long (zJ lx12)), (4, .int (zI v4))] 4 hc dX12_keyword_100 rfl (by decide) rfl ?_
        refine z_goto (tgt := 45) hc dX12_keyword_103 (by decide) ?_
        refine z_sub [(0, .ref (a 168)), (1, .int (zI v1)), (2, .long (zJ lx12)), (4, .int (zI v4)), (5, .int (zI (v5 + 1)))] [1, 2, 3, 4, 0] rfl ?_
        exact k1 _ (Option.some.inj h).symm
  · refine z_sub [(0, .ref (a 168)), (2, .long (zJ v2))] [0, 2] rfl ?_
    exact k2 v2 (Option.some.inj h).symm
def J_X12_keyword_40 (v1 v2 s0 : Int) (st : z_St) : Option (Int × z_St) :=
  z_b (z_iter z_F (fun q9 : (Int × Int) => J_X12_keyword_b45 v1 s0 q9.1 q9.2 st) (v2, 0)) fun lx13 =>
    z_b (J_X12_told lx13 st) fun r14 =>
    some (r14, st)
set_option maxRecDepth 100000 in
set_option maxHeartbeats 4000000 in
theorem w_X12_keyword_40 {κ : zK} {a : Nat → Nat} {v1 v2 s0 : Int} {st : z_St} {o : Int × z_St} (hc : z_C κ RX12 cX12_keyword 7 14 0 0) (hap : z_AP κ a z_N) (he : z_E 1 κ (some .long) z_T z_N a o.1 o.2) (h : J_X12_keyword_40 v1 v2 s0 st = some o) : z_V κ z_T z_N a 0 0 40 [(0, .ref (a 168)), (1, .int (zI v1)), (2, .long (zJ v2))] [.int (zI s0)] st := by
  unfold J_X12_keyword_40 at h
  refine z_istore [(4, .int (zI s0)), (0, .ref (a 168)), (1, .int (zI v1)), (2, .long (zJ v2))] hc dX12_keyword_40 (by decide) rfl ?_
  refine z_iconst hc dX12_keyword_42 ?_
  refine z_istore [(5, .int (zI 0)), (4, .int (zI s0)), (0, .ref (a 168)), (1, .int (zI v1)), (2, .long (zJ v2))] hc dX12_keyword_43 (by decide) rfl ?_
  obtain ⟨lx13, hlx13, h⟩ := z_b_some h
  refine z_sub [(0, .ref (a 168)), (1, .int (zI v1)), (2, .long (zJ v2)), (4, .int (zI s0)), (5, .int (zI 0))] [2, 3, 4, 1, 0] rfl ?_
  refine z_loop (fun q9 : (Int × Int) => J_X12_keyword_b45 v1 s0 q9.1 q9.2 st) (fun q9 : (Int × Int) => z_V κ z_T z_N a 0 0 45 [(0, .ref (a 168)), (1, .int (zI v1)), (2, .long (zJ q9.1)), (4, .int (zI s0)), (5, .int (zI q9.2))] [] st) (fun x9 : Int => z_V κ z_T z_N a 0 0 106 [(0, .ref (a 168)), (2, .long (zJ x9))] [] st) (fun q9 o9 hb k1 k2 => ?_) _ _ _ hlx13 ?_
  · exact w_X12_keyword_b45 hc hap k1 k2 hb
  · show z_V κ z_T z_N a 0 0 106 [(0, .ref (a 168)), (2, .long (zJ lx13))] [] st
    refine z_aload_n (i := 0) 0 hc dX12_keyword_106 rfl rfl ?_
    refine z_lload_n (i := 2) 1 hc dX12_keyword_107 rfl rfl ?_
    obtain ⟨r14, hr14, h⟩ := z_b_some h
    refine z_callVJ [.long (zJ lx13)] hc hap o_X12_told ml_RX12_224 (fun l hl => c_X12_told hl  hr14) (by decide) tT_168 (by decide) ⟨_, rfl, rfl⟩ rfl rfl (Nat.le_of_ble_eq_true rfl) (Nat.zero_le _) (Nat.zero_le _) dX12_keyword_108 ?_
    have h := Option.some.inj h
    subst h
    exact z_retJ hc he dX12_keyword_111
def J_X12_keyword_14 (v1 s0 : Int) (st : z_St) : Option (Int × z_St) :=
  z_b (J_X12_holds s0 st) fun r3 =>
  z_g (z32 r3.1) (if r3.1 = 0 then
    z_b (J_X12_laysArcs r3.2) fun r5 =>
    z_g (z32 r5.1) (if r5.1 < 0 then
      J_X12_keyword_40 v1 1000000000000000000 0 r5.2
    else
      J_X12_keyword_40 v1 1000000000000000000 1 r5.2)
  else
    some ((-1), r3.2))
set_option maxRecDepth 100000 in
set_option maxHeartbeats 4000000 in
theorem w_X12_keyword_14 {κ : zK} {a : Nat → Nat} {v1 s0 : Int} {st : z_St} {o : Int × z_St} (hc : z_C κ RX12 cX12_keyword 7 14 0 0) (hap : z_AP κ a z_N) (he : z_E 1 κ (some .long) z_T z_N a o.1 o.2) (h : J_X12_keyword_14 v1 s0 st = some o) : z_V κ z_T z_N a 0 0 14 [(0, .ref (a 168)), (1, .int (zI v1))] [.int (zI s0), .ref (a 168)] st := by
  unfold J_X12_keyword_14 at h
  obtain ⟨r3, hr3, h⟩ := z_b_some h
  refine z_callVI [.int (zI s0)] hc hap o_X12_holds ml_RX12_131 (fun l hl => c_X12_holds hl  hr3) (by decide) tT_168 (by decide) ⟨_, rfl, rfl⟩ rfl rfl (Nat.le_of_ble_eq_true rfl) (Nat.zero_le _) (Nat.zero_le _) dX12_keyword_14 ?_
  refine z_if_eq (tgt := 24) hc dX12_keyword_17 (by decide) h (fun c17 h => ?_) (fun c17 h => ?_)
  · refine z_ldc2 1000000000000000000 hc kc_RX12_205 dX12_keyword_24 rfl ?_
    refine z_lstore_n (i := 2) [(2, .long (zJ 1000000000000000000)), (0, .ref (a 168)), (1, .int (zI v1))] hc dX12_keyword_27 rfl (by decide) rfl ?_
    refine z_aload_n (i := 0) 1 hc dX12_keyword_28 rfl rfl ?_
    obtain ⟨r5, hr5, h⟩ := z_b_some h
    refine z_callVI [] hc hap o_X12_laysArcs ml_RX12_303 (fun l hl => c_X12_laysArcs hl  hr5) (by decide) tT_168 (by decide) ⟨_, rfl, rfl⟩ rfl rfl (Nat.le_of_ble_eq_true rfl) (Nat.zero_le _) (Nat.zero_le _) dX12_keyword_29 ?_
    refine z_if_lt (tgt := 39) hc dX12_keyword_32 (by decide) h (fun c32 h => ?_) (fun c32 h => ?_)
    · refine z_iconst hc dX12_keyword_39 ?_
      refine z_sub [(0, .ref (a 168)), (1, .int (zI v1)), (2, .long (zJ 1000000000000000000))] [1, 2, 0] rfl ?_
      exact w_X12_keyword_40 hc hap he h
    · refine z_iconst hc dX12_keyword_35 ?_
      refine z_goto (tgt := 40) hc dX12_keyword_36 (by decide) ?_
      refine z_sub [(0, .ref (a 168)), (1, .int (zI v1)), (2, .long (zJ 1000000000000000000))] [1, 2, 0] rfl ?_
      exact w_X12_keyword_40 hc hap he h
  · refine z_ldc2 (-1) hc kc_RX12_145 dX12_keyword_20 rfl ?_
    have h := Option.some.inj h
    subst h
    exact z_retJ hc he dX12_keyword_23
def J_X12_keyword (x1 : Int) (st : z_St) : Option (Int × z_St) :=
  z_b (J_X12_isWord x1 st) fun r1 =>
  z_g (z32 r1) (if r1 = 0 then
    J_X12_keyword_14 x1 1 st
  else
    J_X12_keyword_14 x1 0 st)
set_option maxRecDepth 100000 in
set_option maxHeartbeats 4000000 in
theorem w_X12_keyword {κ : zK} {a : Nat → Nat} {x1 : Int} {st : z_St} {o : Int × z_St} (hc : z_C κ RX12 cX12_keyword 7 14 0 0) (hap : z_AP κ a z_N) (he : z_E 1 κ (some .long) z_T z_N a o.1 o.2) (h : J_X12_keyword x1 st = some o) : z_V κ z_T z_N a 0 0 0 [(0, .ref (a 168)), (1, .int (zI x1))] [] st := by
  unfold J_X12_keyword at h
  refine z_aload_n (i := 0) 0 hc dX12_keyword_0 rfl rfl ?_
  refine z_aload_n (i := 0) 0 hc dX12_keyword_1 rfl rfl ?_
  refine z_iload_n (i := 1) 1 hc dX12_keyword_2 rfl rfl ?_
  obtain ⟨r1, hr1, h⟩ := z_b_some h
  refine z_callVI [.int (zI x1)] hc hap o_X12_isWord ml_RX12_195 (fun l hl => c_X12_isWord hl  hr1) (by decide) tT_168 (by decide) ⟨_, rfl, rfl⟩ rfl rfl (Nat.le_of_ble_eq_true rfl) (Nat.zero_le _) (Nat.zero_le _) dX12_keyword_3 ?_
  refine z_if_eq (tgt := 13) hc dX12_keyword_6 (by decide) h (fun c6 h => ?_) (fun c6 h => ?_)
  · refine z_iconst hc dX12_keyword_13 ?_
    refine z_sub [(0, .ref (a 168)), (1, .int (zI x1))] [0, 1] rfl ?_
    exact w_X12_keyword_14 hc hap he h
  · refine z_iconst hc dX12_keyword_9 ?_
    refine z_goto (tgt := 14) hc dX12_keyword_10 (by decide) ?_
    refine z_sub [(0, .ref (a 168)), (1, .int (zI x1))] [0, 1] rfl ?_
    exact w_X12_keyword_14 hc hap he h
set_option maxRecDepth 100000 in
set_option maxHeartbeats 4000000 in
theorem c_X12_keyword {l : Launch} (hl : l.stackTraces = false) {a : Nat → Nat} {x1 : Int} {st : z_St} {o : Int × z_St} (h : J_X12_keyword x1 st = some o) : z_M 1 l yX12_keyword cX12_keyword 7 (some .long) 14 z_T z_N a [.ref (a 168), .int (zI x1)] st o.1 o.2 := z_of hl (by decide +kernel) (Nat.le_of_ble_eq_true rfl) (fun κ hc hap he => w_X12_keyword hc hap he h)
theorem dX12_bitsOf_0 : decode cX12_bitsOf 0 = .ok (.iconst 0, 1) := by decide +kernel
theorem dX12_bitsOf_1 : decode cX12_bitsOf 1 = .ok (.istore_n 3, 1) := by decide +kernel
theorem dX12_bitsOf_2 : decode cX12_bitsOf 2 = .ok (.iload_n 1, 1) := by decide +kernel
theorem dX12_bitsOf_3 : decode cX12_bitsOf 3 = .ok (.i2l, 1) := by decide +kernel
theorem dX12_bitsOf_4 : decode cX12_bitsOf 4 = .ok (.lstore 4, 2) := by decide +kernel
theorem dX12_bitsOf_6 : decode cX12_bitsOf 6 = .ok (.lload 4, 2) := by decide +kernel
theorem dX12_bitsOf_8 : decode cX12_bitsOf 8 = .ok (.iload_n 2, 1) := by decide +kernel
theorem dX12_bitsOf_9 : decode cX12_bitsOf 9 = .ok (.i2l, 1) := by decide +kernel
theorem dX12_bitsOf_10 : decode cX12_bitsOf 10 = .ok (.lcmp, 1) := by decide +kernel
theorem dX12_bitsOf_11 : decode cX12_bitsOf 11 = .ok (.ifCond .ge 17, 3) := by decide +kernel
theorem dX12_bitsOf_14 : decode cX12_bitsOf 14 = .ok (.lload 4, 2) := by decide +kernel
theorem dX12_bitsOf_16 : decode cX12_bitsOf 16 = .ok (.ldc2_w 139, 3) := by decide +kernel
theorem dX12_bitsOf_19 : decode cX12_bitsOf 19 = .ok (.lmul, 1) := by decide +kernel
theorem dX12_bitsOf_20 : decode cX12_bitsOf 20 = .ok (.lstore 4, 2) := by decide +kernel
theorem dX12_bitsOf_22 : decode cX12_bitsOf 22 = .ok (.iinc 3 1, 3) := by decide +kernel
theorem dX12_bitsOf_25 : decode cX12_bitsOf 25 = .ok (.goto (-19), 3) := by decide +kernel
theorem dX12_bitsOf_28 : decode cX12_bitsOf 28 = .ok (.lload 4, 2) := by decide +kernel
theorem dX12_bitsOf_30 : decode cX12_bitsOf 30 = .ok (.ldc2_w 310, 3) := by decide +kernel
theorem dX12_bitsOf_33 : decode cX12_bitsOf 33 = .ok (.lmul, 1) := by decide +kernel
theorem dX12_bitsOf_34 : decode cX12_bitsOf 34 = .ok (.iload_n 2, 1) := by decide +kernel
theorem dX12_bitsOf_35 : decode cX12_bitsOf 35 = .ok (.i2l, 1) := by decide +kernel
theorem dX12_bitsOf_36 : decode cX12_bitsOf 36 = .ok (.ldiv, 1) := by decide +kernel
theorem dX12_bitsOf_37 : decode cX12_bitsOf 37 = .ok (.lstore 6, 2) := by decide +kernel
theorem dX12_bitsOf_39 : decode cX12_bitsOf 39 = .ok (.lload 4, 2) := by decide +kernel
theorem dX12_bitsOf_41 : decode cX12_bitsOf 41 = .ok (.ldc2_w 310, 3) := by decide +kernel
theorem dX12_bitsOf_44 : decode cX12_bitsOf 44 = .ok (.lmul, 1) := by decide +kernel
theorem dX12_bitsOf_45 : decode cX12_bitsOf 45 = .ok (.iload_n 2, 1) := by decide +kernel
theorem dX12_bitsOf_46 : decode cX12_bitsOf 46 = .ok (.i2l, 1) := by decide +kernel
theorem dX12_bitsOf_47 : decode cX12_bitsOf 47 = .ok (.lrem, 1) := by decide +kernel
theorem dX12_bitsOf_48 : decode cX12_bitsOf 48 = .ok (.lstore 8, 2) := by decide +kernel
theorem dX12_bitsOf_50 : decode cX12_bitsOf 50 = .ok (.lload 6, 2) := by decide +kernel
theorem dX12_bitsOf_52 : decode cX12_bitsOf 52 = .ok (.ldc2_w 139, 3) := by decide +kernel
theorem dX12_bitsOf_55 : decode cX12_bitsOf 55 = .ok (.lload 8, 2) := by decide +kernel
theorem dX12_bitsOf_57 : decode cX12_bitsOf 57 = .ok (.lmul, 1) := by decide +kernel
theorem dX12_bitsOf_58 : decode cX12_bitsOf 58 = .ok (.iload_n 2, 1) := by decide +kernel
theorem dX12_bitsOf_59 : decode cX12_bitsOf 59 = .ok (.i2l, 1) := by decide +kernel
theorem dX12_bitsOf_60 : decode cX12_bitsOf 60 = .ok (.lcmp, 1) := by decide +kernel
theorem dX12_bitsOf_61 : decode cX12_bitsOf 61 = .ok (.ifCond .gt 26, 3) := by decide +kernel
theorem dX12_bitsOf_64 : decode cX12_bitsOf 64 = .ok (.ldc2_w 139, 3) := by decide +kernel
theorem dX12_bitsOf_67 : decode cX12_bitsOf 67 = .ok (.lload 8, 2) := by decide +kernel
theorem dX12_bitsOf_69 : decode cX12_bitsOf 69 = .ok (.lmul, 1) := by decide +kernel
theorem dX12_bitsOf_70 : decode cX12_bitsOf 70 = .ok (.iload_n 2, 1) := by decide +kernel
theorem dX12_bitsOf_71 : decode cX12_bitsOf 71 = .ok (.i2l, 1) := by decide +kernel
theorem dX12_bitsOf_72 : decode cX12_bitsOf 72 = .ok (.lcmp, 1) := by decide +kernel
theorem dX12_bitsOf_73 : decode cX12_bitsOf 73 = .ok (.ifCond .ne 18, 3) := by decide +kernel
theorem dX12_bitsOf_76 : decode cX12_bitsOf 76 = .ok (.lload 6, 2) := by decide +kernel
theorem dX12_bitsOf_78 : decode cX12_bitsOf 78 = .ok (.ldc2_w 139, 3) := by decide +kernel
theorem dX12_bitsOf_81 : decode cX12_bitsOf 81 = .ok (.lrem, 1) := by decide +kernel
theorem dX12_bitsOf_82 : decode cX12_bitsOf 82 = .ok (.lconst 1, 1) := by decide +kernel
theorem dX12_bitsOf_83 : decode cX12_bitsOf 83 = .ok (.lcmp, 1) := by decide +kernel
theorem dX12_bitsOf_84 : decode cX12_bitsOf 84 = .ok (.ifCond .ne 7, 3) := by decide +kernel
theorem dX12_bitsOf_87 : decode cX12_bitsOf 87 = .ok (.lconst 1, 1) := by decide +kernel
theorem dX12_bitsOf_88 : decode cX12_bitsOf 88 = .ok (.goto 4, 3) := by decide +kernel
theorem dX12_bitsOf_91 : decode cX12_bitsOf 91 = .ok (.lconst 0, 1) := by decide +kernel
theorem dX12_bitsOf_92 : decode cX12_bitsOf 92 = .ok (.ladd, 1) := by decide +kernel
theorem dX12_bitsOf_93 : decode cX12_bitsOf 93 = .ok (.lstore 6, 2) := by decide +kernel
theorem dX12_bitsOf_95 : decode cX12_bitsOf 95 = .ok (.ldc2_w 312, 3) := by decide +kernel
theorem dX12_bitsOf_98 : decode cX12_bitsOf 98 = .ok (.iload_n 3, 1) := by decide +kernel
theorem dX12_bitsOf_99 : decode cX12_bitsOf 99 = .ok (.i2l, 1) := by decide +kernel
theorem dX12_bitsOf_100 : decode cX12_bitsOf 100 = .ok (.lsub, 1) := by decide +kernel
theorem dX12_bitsOf_101 : decode cX12_bitsOf 101 = .ok (.ldc2_w 310, 3) := by decide +kernel
theorem dX12_bitsOf_104 : decode cX12_bitsOf 104 = .ok (.lmul, 1) := by decide +kernel
theorem dX12_bitsOf_105 : decode cX12_bitsOf 105 = .ok (.lload 6, 2) := by decide +kernel
theorem dX12_bitsOf_107 : decode cX12_bitsOf 107 = .ok (.ladd, 1) := by decide +kernel
theorem dX12_bitsOf_108 : decode cX12_bitsOf 108 = .ok (.ldc2_w 310, 3) := by decide +kernel
theorem dX12_bitsOf_111 : decode cX12_bitsOf 111 = .ok (.lsub, 1) := by decide +kernel
theorem dX12_bitsOf_112 : decode cX12_bitsOf 112 = .ok (.l2i, 1) := by decide +kernel
theorem dX12_bitsOf_113 : decode cX12_bitsOf 113 = .ok (.ireturn, 1) := by decide +kernel
def J_X12_bitsOf_b6 (v2 v3 v4 : Int) (st : z_St) : Option ((Int × Int) ⊕ (Int × Int)) :=
  z_g (z32 v2) <|
  z_g (z64 v4 ∧ z64 v2) (if v4 < v2 then
    some (.inl (v3 + 1, v4 * 2))
  else
    some (.inr (v3, v4)))
set_option maxRecDepth 100000 in
set_option maxHeartbeats 4000000 in
theorem w_X12_bitsOf_b6 {κ : zK} {a : Nat → Nat} {v2 v3 v4 : Int} {st : z_St} {mc9 ms9 : Nat} {o : (Int × Int) ⊕ (Int × Int)} (hc : z_C κ RX12 cX12_bitsOf 10 8 mc9 ms9) (hap : z_AP κ a z_N) (k1 : ∀ s9 : (Int × Int), o = .inl s9 → z_V κ z_T z_N a 0 0 6 [(2, .int (zI v2)), (3, .int (zI s9.1)), (4, .long (zJ s9.2))] [] st) (k2 : ∀ x9 : (Int × Int), o = .inr x9 → z_V κ z_T z_N a 0 0 28 [(2, .int (zI v2)), (3, .int (zI x9.1)), (4, .long (zJ x9.2))] [] st) (h : J_X12_bitsOf_b6 v2 v3 v4 st = some o) : z_V κ z_T z_N a 0 0 6 [(2, .int (zI v2)), (3, .int (zI v3)), (4, .long (zJ v4))] [] st := by
  unfold J_X12_bitsOf_b6 at h
  refine z_lload 2 hc dX12_bitsOf_6 rfl ?_
  refine z_iload_n (i := 2) 0 hc dX12_bitsOf_8 rfl rfl ?_
  refine z_i2l hc dX12_bitsOf_9 h (fun h => ?_)
  refine z_lcmp_ge (tgt := 28) hc dX12_bitsOf_10 dX12_bitsOf_11 (by decide) h (fun c10 h => ?_) (fun c10 h => ?_)
  · refine z_lload 2 hc dX12_bitsOf_14 rfl ?_
    refine z_ldc2 2 hc kc_RX12_139 dX12_bitsOf_16 rfl ?_
    refine z_lmul hc dX12_bitsOf_19 ?_
    refine z_lstore [(4, .long (zJ (v4 * 2))), (2, .int (zI v2)), (3, .int (zI v3))] hc dX12_bitsOf_20 (by decide) rfl ?_
    refine z_iinc [(3, .int (zI (v3 + 1))), (4, .long (zJ (v4 * 2))), (2, .int (zI v2))] 2 hc dX12_bitsOf_22 rfl (by decide) rfl ?_
    refine z_goto (tgt := 6) hc dX12_bitsOf_25 (by decide) ?_
    refine z_sub [(2, .int (zI v2)), (3, .int (zI (v3 + 1))), (4, .long (zJ (v4 * 2)))] [2, 0, 1] rfl ?_
    exact k1 _ (Option.some.inj h).symm
  · refine z_sub [(2, .int (zI v2)), (3, .int (zI v3)), (4, .long (zJ v4))] [0, 1, 2] rfl ?_
    exact k2 (v3, v4) (Option.some.inj h).symm
def J_X12_bitsOf_92 (v3 s0 s1 : Int) (st : z_St) : Option (Int) :=
  z_g (z32 v3) <|
  some ((((127 - v3) * 8388608) + (s1 + s0)) - 8388608)
set_option maxRecDepth 100000 in
set_option maxHeartbeats 4000000 in
theorem w_X12_bitsOf_92 {κ : zK} {a : Nat → Nat} {v3 s0 s1 : Int} {st : z_St} {o : Int} (hc : z_C κ RX12 cX12_bitsOf 10 8 0 0) (hap : z_AP κ a z_N) (he : z_E 0 κ (some .int) z_T z_N a o st) (h : J_X12_bitsOf_92 v3 s0 s1 st = some o) : z_V κ z_T z_N a 0 0 92 [(3, .int (zI v3))] [.long (zJ s0), .long (zJ s1)] st := by
  unfold J_X12_bitsOf_92 at h
  refine z_ladd hc dX12_bitsOf_92 ?_
  refine z_lstore [(6, .long (zJ (s1 + s0))), (3, .int (zI v3))] hc dX12_bitsOf_93 (by decide) rfl ?_
  refine z_ldc2 127 hc kc_RX12_312 dX12_bitsOf_95 rfl ?_
  refine z_iload_n (i := 3) 1 hc dX12_bitsOf_98 rfl rfl ?_
  refine z_i2l hc dX12_bitsOf_99 h (fun h => ?_)
  refine z_lsub hc dX12_bitsOf_100 ?_
  refine z_ldc2 8388608 hc kc_RX12_310 dX12_bitsOf_101 rfl ?_
  refine z_lmul hc dX12_bitsOf_104 ?_
  refine z_lload 0 hc dX12_bitsOf_105 rfl ?_
  refine z_ladd hc dX12_bitsOf_107 ?_
  refine z_ldc2 8388608 hc kc_RX12_310 dX12_bitsOf_108 rfl ?_
  refine z_lsub hc dX12_bitsOf_111 ?_
  refine z_l2i hc dX12_bitsOf_112 ?_
  have h := Option.some.inj h
  subst h
  exact z_retI hc he dX12_bitsOf_113
def J_X12_bitsOf_87 (v3 s0 : Int) (st : z_St) : Option (Int) :=
  J_X12_bitsOf_92 v3 1 s0 st
set_option maxRecDepth 100000 in
set_option maxHeartbeats 4000000 in
theorem w_X12_bitsOf_87 {κ : zK} {a : Nat → Nat} {v3 s0 : Int} {st : z_St} {o : Int} (hc : z_C κ RX12 cX12_bitsOf 10 8 0 0) (hap : z_AP κ a z_N) (he : z_E 0 κ (some .int) z_T z_N a o st) (h : J_X12_bitsOf_87 v3 s0 st = some o) : z_V κ z_T z_N a 0 0 87 [(3, .int (zI v3))] [.long (zJ s0)] st := by
  unfold J_X12_bitsOf_87 at h
  refine z_lconst 1 hc dX12_bitsOf_87 rfl ?_
  refine z_goto (tgt := 92) hc dX12_bitsOf_88 (by decide) ?_
  refine z_sub [(3, .int (zI v3))] [0] rfl ?_
  exact w_X12_bitsOf_92 hc hap he h
def J_X12_bitsOf_91 (v3 s0 : Int) (st : z_St) : Option (Int) :=
  J_X12_bitsOf_92 v3 0 s0 st
set_option maxRecDepth 100000 in
set_option maxHeartbeats 4000000 in
theorem w_X12_bitsOf_91 {κ : zK} {a : Nat → Nat} {v3 s0 : Int} {st : z_St} {o : Int} (hc : z_C κ RX12 cX12_bitsOf 10 8 0 0) (hap : z_AP κ a z_N) (he : z_E 0 κ (some .int) z_T z_N a o st) (h : J_X12_bitsOf_91 v3 s0 st = some o) : z_V κ z_T z_N a 0 0 91 [(3, .int (zI v3))] [.long (zJ s0)] st := by
  unfold J_X12_bitsOf_91 at h
  refine z_lconst 0 hc dX12_bitsOf_91 rfl ?_
  refine z_sub [(3, .int (zI v3))] [0] rfl ?_
  exact w_X12_bitsOf_92 hc hap he h
def J_X12_bitsOf (x1 x2 : Int) (st : z_St) : Option (Int) :=
  z_g (z32 x1) <|
  z_b (z_iter z_F (fun q9 : (Int × Int) => J_X12_bitsOf_b6 x2 q9.1 q9.2 st) (0, x1)) fun lx1 =>
    z_g (z32 x2) <|
    z_g (z64 (lx1.2 * 8388608) ∧ z64 x2 ∧ (x2 : Int) ≠ 0) <|
    z_g (z32 x2) <|
    z_g (z64 (lx1.2 * 8388608) ∧ z64 x2 ∧ (x2 : Int) ≠ 0) <|
    z_g (z32 x2) <|
    z_g (z64 (2 * ((lx1.2 * 8388608).tmod x2)) ∧ z64 x2) (if x2 < 2 * ((lx1.2 * 8388608).tmod x2) then
      J_X12_bitsOf_87 lx1.1 ((lx1.2 * 8388608).tdiv x2) st
    else
      z_g (z32 x2) <|
      z_g (z64 (2 * ((lx1.2 * 8388608).tmod x2)) ∧ z64 x2) (if 2 * ((lx1.2 * 8388608).tmod x2) = x2 then
        z_g (z64 ((lx1.2 * 8388608).tdiv x2) ∧ z64 2 ∧ (2 : Int) ≠ 0) <|
        z_g (z64 (((lx1.2 * 8388608).tdiv x2).tmod 2) ∧ z64 1) (if ((lx1.2 * 8388608).tdiv x2).tmod 2 = 1 then
          J_X12_bitsOf_87 lx1.1 ((lx1.2 * 8388608).tdiv x2) st
        else
          J_X12_bitsOf_91 lx1.1 ((lx1.2 * 8388608).tdiv x2) st)
      else
        J_X12_bitsOf_91 lx1.1 ((lx1.2 * 8388608).tdiv x2) st))
set_option maxRecDepth 100000 in
set_option maxHeartbeats 4000000 in
theorem w_X12_bitsOf {κ : zK} {a : Nat → Nat} {x1 x2 : Int} {st : z_St} {o : Int} (hc : z_C κ RX12 cX12_bitsOf 10 8 0 0) (hap : z_AP κ a z_N) (he : z_E 0 κ (some .int) z_T z_N a o st) (h : J_X12_bitsOf x1 x2 st = some o) : z_V κ z_T z_N a 0 0 0 [(0, .ref (a 168)), (1, .int (zI x1)), (2, .int (zI x2))] [] st := by
  unfold J_X12_bitsOf at h
  refine z_iconst hc dX12_bitsOf_0 ?_
  refine z_istore_n (i := 3) [(3, .int (zI 0)), (0, .ref (a 168)), (1, .int (zI x1)), (2, .int (zI x2))] hc dX12_bitsOf_1 rfl (by decide) rfl ?_
  refine z_iload_n (i := 1) 2 hc dX12_bitsOf_2 rfl rfl ?_
  refine z_i2l hc dX12_bitsOf_3 h (fun h => ?_)
  refine z_lstore [(4, .long (zJ x1)), (3, .int (zI 0)), (0, .ref (a 168)), (1, .int (zI x1)), (2, .int (zI x2))] hc dX12_bitsOf_4 (by decide) rfl ?_
  obtain ⟨lx1, hlx1, h⟩ := z_b_some h
  refine z_sub [(2, .int (zI x2)), (3, .int (zI 0)), (4, .long (zJ x1))] [4, 1, 0] rfl ?_
  refine z_loop (fun q9 : (Int × Int) => J_X12_bitsOf_b6 x2 q9.1 q9.2 st) (fun q9 : (Int × Int) => z_V κ z_T z_N a 0 0 6 [(2, .int (zI x2)), (3, .int (zI q9.1)), (4, .long (zJ q9.2))] [] st) (fun x9 : (Int × Int) => z_V κ z_T z_N a 0 0 28 [(2, .int (zI x2)), (3, .int (zI x9.1)), (4, .long (zJ x9.2))] [] st) (fun q9 o9 hb k1 k2 => ?_) _ _ _ hlx1 ?_
  · exact w_X12_bitsOf_b6 hc hap k1 k2 hb
  · show z_V κ z_T z_N a 0 0 28 [(2, .int (zI x2)), (3, .int (zI lx1.1)), (4, .long (zJ lx1.2))] [] st
    refine z_lload 2 hc dX12_bitsOf_28 rfl ?_
    refine z_ldc2 8388608 hc kc_RX12_310 dX12_bitsOf_30 rfl ?_
    refine z_lmul hc dX12_bitsOf_33 ?_
    refine z_iload_n (i := 2) 0 hc dX12_bitsOf_34 rfl rfl ?_
    refine z_i2l hc dX12_bitsOf_35 h (fun h => ?_)
    refine z_ldiv hc dX12_bitsOf_36 h (fun h => ?_)
    refine z_lstore [(6, .long (zJ ((lx1.2 * 8388608).tdiv x2))), (2, .int (zI x2)), (3, .int (zI lx1.1)), (4, .long (zJ lx1.2))] hc dX12_bitsOf_37 (by decide) rfl ?_
    refine z_lload 3 hc dX12_bitsOf_39 rfl ?_
    refine z_ldc2 8388608 hc kc_RX12_310 dX12_bitsOf_41 rfl ?_
    refine z_lmul hc dX12_bitsOf_44 ?_
    refine z_iload_n (i := 2) 1 hc dX12_bitsOf_45 rfl rfl ?_
    refine z_i2l hc dX12_bitsOf_46 h (fun h => ?_)
    refine z_lrem hc dX12_bitsOf_47 h (fun h => ?_)
    refine z_lstore [(8, .long (zJ ((lx1.2 * 8388608).tmod x2))), (6, .long (zJ ((lx1.2 * 8388608).tdiv x2))), (2, .int (zI x2)), (3, .int (zI lx1.1)), (4, .long (zJ lx1.2))] hc dX12_bitsOf_48 (by decide) rfl ?_
    refine z_lload 1 hc dX12_bitsOf_50 rfl ?_
    refine z_ldc2 2 hc kc_RX12_139 dX12_bitsOf_52 rfl ?_
    refine z_lload 0 hc dX12_bitsOf_55 rfl ?_
    refine z_lmul hc dX12_bitsOf_57 ?_
    refine z_iload_n (i := 2) 2 hc dX12_bitsOf_58 rfl rfl ?_
    refine z_i2l hc dX12_bitsOf_59 h (fun h => ?_)
    refine z_lcmp_gt (tgt := 87) hc dX12_bitsOf_60 dX12_bitsOf_61 (by decide) h (fun c60 h => ?_) (fun c60 h => ?_)
    · refine z_sub [(3, .int (zI lx1.1))] [3] rfl ?_
      exact w_X12_bitsOf_87 hc hap he h
    · refine z_ldc2 2 hc kc_RX12_139 dX12_bitsOf_64 rfl ?_
      refine z_lload 0 hc dX12_bitsOf_67 rfl ?_
      refine z_lmul hc dX12_bitsOf_69 ?_
      refine z_iload_n (i := 2) 2 hc dX12_bitsOf_70 rfl rfl ?_
      refine z_i2l hc dX12_bitsOf_71 h (fun h => ?_)
      refine z_lcmp_ne (tgt := 91) hc dX12_bitsOf_72 dX12_bitsOf_73 (by decide) h (fun c72 h => ?_) (fun c72 h => ?_)
      · refine z_lload 1 hc dX12_bitsOf_76 rfl ?_
        refine z_ldc2 2 hc kc_RX12_139 dX12_bitsOf_78 rfl ?_
        refine z_lrem hc dX12_bitsOf_81 h (fun h => ?_)
        refine z_lconst 1 hc dX12_bitsOf_82 rfl ?_
        refine z_lcmp_ne (tgt := 91) hc dX12_bitsOf_83 dX12_bitsOf_84 (by decide) h (fun c83 h => ?_) (fun c83 h => ?_)
        · refine z_sub [(3, .int (zI lx1.1))] [3] rfl ?_
          exact w_X12_bitsOf_87 hc hap he h
        · refine z_sub [(3, .int (zI lx1.1))] [3] rfl ?_
          exact w_X12_bitsOf_91 hc hap he h
      · refine z_sub [(3, .int (zI lx1.1))] [3] rfl ?_
        exact w_X12_bitsOf_91 hc hap he h
set_option maxRecDepth 100000 in
set_option maxHeartbeats 4000000 in
theorem c_X12_bitsOf {l : Launch} (hl : l.stackTraces = false) {a : Nat → Nat} {x1 x2 : Int} {st : z_St} {o : Int} (h : J_X12_bitsOf x1 x2 st = some o) : z_M 0 l yX12_bitsOf cX12_bitsOf 10 (some .int) 8 z_T z_N a [.ref (a 168), .int (zI x1), .int (zI x2)] st o st := z_of hl (by decide +kernel) (Nat.le_of_ble_eq_true rfl) (fun κ hc hap he => w_X12_bitsOf hc hap he h)
