theorem dX12_laysTable_0 : decode cX12_laysTable 0 = .ok (.iconst 0, 1) := by decide +kernel
theorem dX12_laysTable_1 : decode cX12_laysTable 1 = .ok (.istore_n 1, 1) := by decide +kernel
theorem dX12_laysTable_2 : decode cX12_laysTable 2 = .ok (.iload_n 1, 1) := by decide +kernel
theorem dX12_laysTable_3 : decode cX12_laysTable 3 = .ok (.aload_n 0, 1) := by decide +kernel
theorem dX12_laysTable_4 : decode cX12_laysTable 4 = .ok (.getfield 189, 3) := by decide +kernel
theorem dX12_laysTable_7 : decode cX12_laysTable 7 = .ok (.if_icmp .ge 165, 3) := by decide +kernel
theorem dX12_laysTable_10 : decode cX12_laysTable 10 = .ok (.iconst 0, 1) := by decide +kernel
theorem dX12_laysTable_11 : decode cX12_laysTable 11 = .ok (.istore_n 2, 1) := by decide +kernel
theorem dX12_laysTable_12 : decode cX12_laysTable 12 = .ok (.iload_n 2, 1) := by decide +kernel
theorem dX12_laysTable_13 : decode cX12_laysTable 13 = .ok (.aload_n 0, 1) := by decide +kernel
theorem dX12_laysTable_14 : decode cX12_laysTable 14 = .ok (.getfield 128, 3) := by decide +kernel
theorem dX12_laysTable_17 : decode cX12_laysTable 17 = .ok (.if_icmp .ge 149, 3) := by decide +kernel
theorem dX12_laysTable_20 : decode cX12_laysTable 20 = .ok (.iload_n 2, 1) := by decide +kernel
theorem dX12_laysTable_21 : decode cX12_laysTable 21 = .ok (.iconst 1, 1) := by decide +kernel
theorem dX12_laysTable_22 : decode cX12_laysTable 22 = .ok (.iadd, 1) := by decide +kernel
theorem dX12_laysTable_23 : decode cX12_laysTable 23 = .ok (.istore_n 3, 1) := by decide +kernel
theorem dX12_laysTable_24 : decode cX12_laysTable 24 = .ok (.iload_n 3, 1) := by decide +kernel
theorem dX12_laysTable_25 : decode cX12_laysTable 25 = .ok (.aload_n 0, 1) := by decide +kernel
theorem dX12_laysTable_26 : decode cX12_laysTable 26 = .ok (.getfield 128, 3) := by decide +kernel
theorem dX12_laysTable_29 : decode cX12_laysTable 29 = .ok (.if_icmp .gt 24, 3) := by decide +kernel
theorem dX12_laysTable_32 : decode cX12_laysTable 32 = .ok (.aload_n 0, 1) := by decide +kernel
theorem dX12_laysTable_33 : decode cX12_laysTable 33 = .ok (.getfield 63, 3) := by decide +kernel
theorem dX12_laysTable_36 : decode cX12_laysTable 36 = .ok (.aload_n 0, 1) := by decide +kernel
theorem dX12_laysTable_37 : decode cX12_laysTable 37 = .ok (.iload_n 1, 1) := by decide +kernel
theorem dX12_laysTable_38 : decode cX12_laysTable 38 = .ok (.iload_n 2, 1) := by decide +kernel
theorem dX12_laysTable_39 : decode cX12_laysTable 39 = .ok (.iload_n 3, 1) := by decide +kernel
theorem dX12_laysTable_40 : decode cX12_laysTable 40 = .ok (.invokevirtual 211, 3) := by decide +kernel
theorem dX12_laysTable_43 : decode cX12_laysTable 43 = .ok (.ldc2_w 205, 3) := by decide +kernel
theorem dX12_laysTable_46 : decode cX12_laysTable 46 = .ok (.lastore, 1) := by decide +kernel
theorem dX12_laysTable_47 : decode cX12_laysTable 47 = .ok (.iinc 3 1, 3) := by decide +kernel
theorem dX12_laysTable_50 : decode cX12_laysTable 50 = .ok (.goto (-26), 3) := by decide +kernel
theorem dX12_laysTable_53 : decode cX12_laysTable 53 = .ok (.iconst 0, 1) := by decide +kernel
theorem dX12_laysTable_54 : decode cX12_laysTable 54 = .ok (.istore_n 3, 1) := by decide +kernel
theorem dX12_laysTable_55 : decode cX12_laysTable 55 = .ok (.iload_n 3, 1) := by decide +kernel
theorem dX12_laysTable_56 : decode cX12_laysTable 56 = .ok (.aload_n 0, 1) := by decide +kernel
theorem dX12_laysTable_57 : decode cX12_laysTable 57 = .ok (.getfield 37, 3) := by decide +kernel
theorem dX12_laysTable_60 : decode cX12_laysTable 60 = .ok (.iload_n 1, 1) := by decide +kernel
theorem dX12_laysTable_61 : decode cX12_laysTable 61 = .ok (.iaload, 1) := by decide +kernel
theorem dX12_laysTable_62 : decode cX12_laysTable 62 = .ok (.if_icmp .ge 98, 3) := by decide +kernel
theorem dX12_laysTable_65 : decode cX12_laysTable 65 = .ok (.aload_n 0, 1) := by decide +kernel
theorem dX12_laysTable_66 : decode cX12_laysTable 66 = .ok (.iconst 2, 1) := by decide +kernel
theorem dX12_laysTable_67 : decode cX12_laysTable 67 = .ok (.iload_n 1, 1) := by decide +kernel
theorem dX12_laysTable_68 : decode cX12_laysTable 68 = .ok (.imul, 1) := by decide +kernel
theorem dX12_laysTable_69 : decode cX12_laysTable 69 = .ok (.iload_n 3, 1) := by decide +kernel
theorem dX12_laysTable_70 : decode cX12_laysTable 70 = .ok (.iadd, 1) := by decide +kernel
theorem dX12_laysTable_71 : decode cX12_laysTable 71 = .ok (.iload_n 2, 1) := by decide +kernel
theorem dX12_laysTable_72 : decode cX12_laysTable 72 = .ok (.invokevirtual 214, 3) := by decide +kernel
theorem dX12_laysTable_75 : decode cX12_laysTable 75 = .ok (.iload_n 2, 1) := by decide +kernel
theorem dX12_laysTable_76 : decode cX12_laysTable 76 = .ok (.iconst 1, 1) := by decide +kernel
theorem dX12_laysTable_77 : decode cX12_laysTable 77 = .ok (.iadd, 1) := by decide +kernel
theorem dX12_laysTable_78 : decode cX12_laysTable 78 = .ok (.istore 4, 2) := by decide +kernel
theorem dX12_laysTable_80 : decode cX12_laysTable 80 = .ok (.iload 4, 2) := by decide +kernel
theorem dX12_laysTable_82 : decode cX12_laysTable 82 = .ok (.aload_n 0, 1) := by decide +kernel
theorem dX12_laysTable_83 : decode cX12_laysTable 83 = .ok (.getfield 128, 3) := by decide +kernel
theorem dX12_laysTable_86 : decode cX12_laysTable 86 = .ok (.if_icmp .gt 68, 3) := by decide +kernel
theorem dX12_laysTable_89 : decode cX12_laysTable 89 = .ok (.aload_n 0, 1) := by decide +kernel
theorem dX12_laysTable_90 : decode cX12_laysTable 90 = .ok (.getfield 63, 3) := by decide +kernel
theorem dX12_laysTable_93 : decode cX12_laysTable 93 = .ok (.aload_n 0, 1) := by decide +kernel
theorem dX12_laysTable_94 : decode cX12_laysTable 94 = .ok (.iload_n 1, 1) := by decide +kernel
theorem dX12_laysTable_95 : decode cX12_laysTable 95 = .ok (.iload_n 2, 1) := by decide +kernel
theorem dX12_laysTable_96 : decode cX12_laysTable 96 = .ok (.iload 4, 2) := by decide +kernel
theorem dX12_laysTable_98 : decode cX12_laysTable 98 = .ok (.invokevirtual 211, 3) := by decide +kernel
theorem dX12_laysTable_101 : decode cX12_laysTable 101 = .ok (.aload_n 0, 1) := by decide +kernel
theorem dX12_laysTable_102 : decode cX12_laysTable 102 = .ok (.aload_n 0, 1) := by decide +kernel
theorem dX12_laysTable_103 : decode cX12_laysTable 103 = .ok (.getfield 63, 3) := by decide +kernel
theorem dX12_laysTable_106 : decode cX12_laysTable 106 = .ok (.aload_n 0, 1) := by decide +kernel
theorem dX12_laysTable_107 : decode cX12_laysTable 107 = .ok (.iload_n 1, 1) := by decide +kernel
theorem dX12_laysTable_108 : decode cX12_laysTable 108 = .ok (.iload_n 2, 1) := by decide +kernel
theorem dX12_laysTable_109 : decode cX12_laysTable 109 = .ok (.iload 4, 2) := by decide +kernel
theorem dX12_laysTable_111 : decode cX12_laysTable 111 = .ok (.invokevirtual 211, 3) := by decide +kernel
theorem dX12_laysTable_114 : decode cX12_laysTable 114 = .ok (.laload, 1) := by decide +kernel
theorem dX12_laysTable_115 : decode cX12_laysTable 115 = .ok (.aload_n 0, 1) := by decide +kernel
theorem dX12_laysTable_116 : decode cX12_laysTable 116 = .ok (.getfield 59, 3) := by decide +kernel
theorem dX12_laysTable_119 : decode cX12_laysTable 119 = .ok (.aload_n 0, 1) := by decide +kernel
theorem dX12_laysTable_120 : decode cX12_laysTable 120 = .ok (.iconst 2, 1) := by decide +kernel
theorem dX12_laysTable_121 : decode cX12_laysTable 121 = .ok (.iload_n 1, 1) := by decide +kernel
theorem dX12_laysTable_122 : decode cX12_laysTable 122 = .ok (.imul, 1) := by decide +kernel
theorem dX12_laysTable_123 : decode cX12_laysTable 123 = .ok (.iload_n 3, 1) := by decide +kernel
theorem dX12_laysTable_124 : decode cX12_laysTable 124 = .ok (.iadd, 1) := by decide +kernel
theorem dX12_laysTable_125 : decode cX12_laysTable 125 = .ok (.iload_n 2, 1) := by decide +kernel
theorem dX12_laysTable_126 : decode cX12_laysTable 126 = .ok (.iload 4, 2) := by decide +kernel
theorem dX12_laysTable_128 : decode cX12_laysTable 128 = .ok (.invokevirtual 211, 3) := by decide +kernel
theorem dX12_laysTable_131 : decode cX12_laysTable 131 = .ok (.laload, 1) := by decide +kernel
theorem dX12_laysTable_132 : decode cX12_laysTable 132 = .ok (.aload_n 0, 1) := by decide +kernel
theorem dX12_laysTable_133 : decode cX12_laysTable 133 = .ok (.getfield 46, 3) := by decide +kernel
theorem dX12_laysTable_136 : decode cX12_laysTable 136 = .ok (.iconst 2, 1) := by decide +kernel
theorem dX12_laysTable_137 : decode cX12_laysTable 137 = .ok (.iload_n 1, 1) := by decide +kernel
theorem dX12_laysTable_138 : decode cX12_laysTable 138 = .ok (.imul, 1) := by decide +kernel
theorem dX12_laysTable_139 : decode cX12_laysTable 139 = .ok (.iload_n 3, 1) := by decide +kernel
theorem dX12_laysTable_140 : decode cX12_laysTable 140 = .ok (.iadd, 1) := by decide +kernel
theorem dX12_laysTable_141 : decode cX12_laysTable 141 = .ok (.iaload, 1) := by decide +kernel
theorem dX12_laysTable_142 : decode cX12_laysTable 142 = .ok (.i2l, 1) := by decide +kernel
theorem dX12_laysTable_143 : decode cX12_laysTable 143 = .ok (.ladd, 1) := by decide +kernel
theorem dX12_laysTable_144 : decode cX12_laysTable 144 = .ok (.invokevirtual 207, 3) := by decide +kernel
theorem dX12_laysTable_147 : decode cX12_laysTable 147 = .ok (.lastore, 1) := by decide +kernel
theorem dX12_laysTable_148 : decode cX12_laysTable 148 = .ok (.iinc 4 1, 3) := by decide +kernel
theorem dX12_laysTable_151 : decode cX12_laysTable 151 = .ok (.goto (-71), 3) := by decide +kernel
theorem dX12_laysTable_154 : decode cX12_laysTable 154 = .ok (.iinc 3 1, 3) := by decide +kernel
theorem dX12_laysTable_157 : decode cX12_laysTable 157 = .ok (.goto (-102), 3) := by decide +kernel
theorem dX12_laysTable_160 : decode cX12_laysTable 160 = .ok (.iinc 2 1, 3) := by decide +kernel
theorem dX12_laysTable_163 : decode cX12_laysTable 163 = .ok (.goto (-151), 3) := by decide +kernel
theorem dX12_laysTable_166 : decode cX12_laysTable 166 = .ok (.iinc 1 1, 3) := by decide +kernel
theorem dX12_laysTable_169 : decode cX12_laysTable 169 = .ok (.goto (-167), 3) := by decide +kernel
theorem dX12_laysTable_172 : decode cX12_laysTable 172 = .ok (.return_, 1) := by decide +kernel
def J_X12_laysTable_b24 (v1 v2 v3 : Int) (st : z_St) : Option ((Int × z_St) ⊕ z_St) :=
  z_g (z32 v3 ∧ z32 (st 168 2)) (if st 168 2 < v3 then
    some (.inr st)
  else
    z_b (J_X12_span v1 v2 v3 st) fun r1 =>
    z_g (0 ≤ r1 ∧ r1 < 1445) <|
    z_let (z_up st 184 r1 1000000000000000000) fun st3 =>
    some (.inl (v3 + 1, st3)))
set_option maxRecDepth 100000 in
set_option maxHeartbeats 4000000 in
theorem w_X12_laysTable_b24 {κ : zK} {a : Nat → Nat} {v1 v2 v3 : Int} {st : z_St} {mc9 ms9 : Nat} {o : (Int × z_St) ⊕ z_St} (hc : z_C κ RX12 cX12_laysTable 5 11 mc9 ms9) (hap : z_AP κ a z_N) (k1 : ∀ s9 : (Int × z_St), o = .inl s9 → z_V κ z_T z_N a 0 0 24 [(0, .ref (a 168)), (1, .int (zI v1)), (2, .int (zI v2)), (3, .int (zI s9.1))] [] s9.2) (k2 : ∀ x9 : z_St, o = .inr x9 → z_V κ z_T z_N a 0 0 53 [(0, .ref (a 168)), (1, .int (zI v1)), (2, .int (zI v2))] [] x9) (h : J_X12_laysTable_b24 v1 v2 v3 st = some o) : z_V κ z_T z_N a 0 0 24 [(0, .ref (a 168)), (1, .int (zI v1)), (2, .int (zI v2)), (3, .int (zI v3))] [] st := by
  unfold J_X12_laysTable_b24 at h
  refine z_iload_n (i := 3) 3 hc dX12_laysTable_24 rfl rfl ?_
  refine z_aload_n (i := 0) 0 hc dX12_laysTable_25 rfl rfl ?_
  refine z_getI (kI := 168) (jI := 2) hc fl_RX12_128 tT_168 (by decide) rfl rfl rfl dX12_laysTable_26 ?_
  refine z_icmp_gt (tgt := 53) hc dX12_laysTable_29 (by decide) h (fun c29 h => ?_) (fun c29 h => ?_)
  · refine z_sub [(0, .ref (a 168)), (1, .int (zI v1)), (2, .int (zI v2))] [0, 1, 2] rfl ?_
    exact k2 st (Option.some.inj h).symm
  · refine z_aload_n (i := 0) 0 hc dX12_laysTable_32 rfl rfl ?_
    refine z_getA (k' := 184) hc fl_RX12_63 tT_168 (by decide) rfl rfl dX12_laysTable_33 ?_
    refine z_aload_n (i := 0) 0 hc dX12_laysTable_36 rfl rfl ?_
    refine z_iload_n (i := 1) 1 hc dX12_laysTable_37 rfl rfl ?_
    refine z_iload_n (i := 2) 2 hc dX12_laysTable_38 rfl rfl ?_
    refine z_iload_n (i := 3) 3 hc dX12_laysTable_39 rfl rfl ?_
    obtain ⟨r1, hr1, h⟩ := z_b_some h
    refine z_callVI [.int (zI v1), .int (zI v2), .int (zI v3)] hc hap o_X12_span ml_RX12_211 (fun l hl => c_X12_span hl  hr1) (by decide) tT_168 (by decide) ⟨_, rfl, rfl⟩ rfl rfl (Nat.le_of_ble_eq_true rfl) (Nat.zero_le _) (Nat.zero_le _) dX12_laysTable_40 ?_
    refine z_ldc2 1000000000000000000 hc kc_RX12_205 dX12_laysTable_43 rfl ?_
    refine z_last (kI := 184) (nI9 := 1445) hc hap tT_184 (by decide) rfl rfl (by decide) dX12_laysTable_46 h (fun st3 h => ?_)
    refine z_iinc [(3, .int (zI (v3 + 1))), (0, .ref (a 168)), (1, .int (zI v1)), (2, .int (zI v2))] 3 hc dX12_laysTable_47 rfl (by decide) rfl ?_
    refine z_goto (tgt := 24) hc dX12_laysTable_50 (by decide) ?_
    refine z_sub [(0, .ref (a 168)), (1, .int (zI v1)), (2, .int (zI v2)), (3, .int (zI (v3 + 1)))] [1, 2, 3, 0] rfl ?_
    exact k1 _ (Option.some.inj h).symm
def J_X12_laysTable_b80 (v1 v2 v3 v4 : Int) (st : z_St) : Option ((Int × z_St) ⊕ z_St) :=
  z_g (z32 v4 ∧ z32 (st 168 2)) (if st 168 2 < v4 then
    some (.inr st)
  else
    z_b (J_X12_span v1 v2 v4 st) fun r8 =>
    z_b (J_X12_span v1 v2 v4 st) fun r10 =>
    z_g (0 ≤ r10 ∧ r10 < 1445) <|
    z_b (J_X12_span ((2 * v1) + v3) v2 v4 st) fun r13 =>
    z_g (0 ≤ r13 ∧ r13 < 2890) <|
    z_g (0 ≤ (2 * v1) + v3 ∧ (2 * v1) + v3 < 10) <|
    z_g (z32 (st 181 ((2 * v1) + v3))) <|
    z_b (J_X12_least (st 184 r10) ((st 183 r13) + (st 181 ((2 * v1) + v3))) st) fun r17 =>
    z_g (0 ≤ r8 ∧ r8 < 1445) <|
    z_let (z_up st 184 r8 r17) fun st19 =>
    some (.inl (v4 + 1, st19)))
set_option maxRecDepth 100000 in
set_option maxHeartbeats 4000000 in
theorem w_X12_laysTable_b80 {κ : zK} {a : Nat → Nat} {v1 v2 v3 v4 : Int} {st : z_St} {mc9 ms9 : Nat} {o : (Int × z_St) ⊕ z_St} (hc : z_C κ RX12 cX12_laysTable 5 11 mc9 ms9) (hap : z_AP κ a z_N) (k1 : ∀ s9 : (Int × z_St), o = .inl s9 → z_V κ z_T z_N a 0 0 80 [(0, .ref (a 168)), (1, .int (zI v1)), (2, .int (zI v2)), (3, .int (zI v3)), (4, .int (zI s9.1))] [] s9.2) (k2 : ∀ x9 : z_St, o = .inr x9 → z_V κ z_T z_N a 0 0 154 [(0, .ref (a 168)), (1, .int (zI v1)), (2, .int (zI v2)), (3, .int (zI v3))] [] x9) (h : J_X12_laysTable_b80 v1 v2 v3 v4 st = some o) : z_V κ z_T z_N a 0 0 80 [(0, .ref (a 168)), (1, .int (zI v1)), (2, .int (zI v2)), (3, .int (zI v3)), (4, .int (zI v4))] [] st := by
  unfold J_X12_laysTable_b80 at h
  refine z_iload 4 hc dX12_laysTable_80 rfl ?_
  refine z_aload_n (i := 0) 0 hc dX12_laysTable_82 rfl rfl ?_
  refine z_getI (kI := 168) (jI := 2) hc fl_RX12_128 tT_168 (by decide) rfl rfl rfl dX12_laysTable_83 ?_
  refine z_icmp_gt (tgt := 154) hc dX12_laysTable_86 (by decide) h (fun c86 h => ?_) (fun c86 h => ?_)
  · refine z_sub [(0, .ref (a 168)), (1, .int (zI v1)), (2, .int (zI v2)), (3, .int (zI v3))] [0, 1, 2, 3] rfl ?_
    exact k2 st (Option.some.inj h).symm
  · refine z_aload_n (i := 0) 0 hc dX12_laysTable_89 rfl rfl ?_
    refine z_getA (k' := 184) hc fl_RX12_63 tT_168 (by decide) rfl rfl dX12_laysTable_90 ?_
    refine z_aload_n (i := 0) 0 hc dX12_laysTable_93 rfl rfl ?_
    refine z_iload_n (i := 1) 1 hc dX12_laysTable_94 rfl rfl ?_
    refine z_iload_n (i := 2) 2 hc dX12_laysTable_95 rfl rfl ?_
    refine z_iload 4 hc dX12_laysTable_96 rfl ?_
    obtain ⟨r8, hr8, h⟩ := z_b_some h
    refine z_callVI [.int (zI v1), .int (zI v2), .int (zI v4)] hc hap o_X12_span ml_RX12_211 (fun l hl => c_X12_span hl  hr8) (by decide) tT_168 (by decide) ⟨_, rfl, rfl⟩ rfl rfl (Nat.le_of_ble_eq_true rfl) (Nat.zero_le _) (Nat.zero_le _) dX12_laysTable_98 ?_
    refine z_aload_n (i := 0) 0 hc dX12_laysTable_101 rfl rfl ?_
    refine z_aload_n (i := 0) 0 hc dX12_laysTable_102 rfl rfl ?_
    refine z_getA (k' := 184) hc fl_RX12_63 tT_168 (by decide) rfl rfl dX12_laysTable_103 ?_
    refine z_aload_n (i := 0) 0 hc dX12_laysTable_106 rfl rfl ?_
    refine z_iload_n (i := 1) 1 hc dX12_laysTable_107 rfl rfl ?_
    refine z_iload_n (i := 2) 2 hc dX12_laysTable_108 rfl rfl ?_
    refine z_iload 4 hc dX12_laysTable_109 rfl ?_
    obtain ⟨r10, hr10, h⟩ := z_b_some h
    refine z_callVI [.int (zI v1), .int (zI v2), .int (zI v4)] hc hap o_X12_span ml_RX12_211 (fun l hl => c_X12_span hl  hr10) (by decide) tT_168 (by decide) ⟨_, rfl, rfl⟩ rfl rfl (Nat.le_of_ble_eq_true rfl) (Nat.zero_le _) (Nat.zero_le _) dX12_laysTable_111 ?_
    refine z_lald (kI := 184) (nI9 := 1445) hc tT_184 (by decide) rfl rfl (by decide) dX12_laysTable_114 h (fun g12 h => ?_)
    refine z_aload_n (i := 0) 0 hc dX12_laysTable_115 rfl rfl ?_
    refine z_getA (k' := 183) hc fl_RX12_59 tT_168 (by decide) rfl rfl dX12_laysTable_116 ?_
    refine z_aload_n (i := 0) 0 hc dX12_laysTable_119 rfl rfl ?_
    refine z_iconst hc dX12_laysTable_120 ?_
    refine z_iload_n (i := 1) 1 hc dX12_laysTable_121 rfl rfl ?_
    refine z_imul hc dX12_laysTable_122 ?_
    refine z_iload_n (i := 3) 3 hc dX12_laysTable_123 rfl rfl ?_
    refine z_iadd hc dX12_laysTable_124 ?_
    refine z_iload_n (i := 2) 2 hc dX12_laysTable_125 rfl rfl ?_
    refine z_iload 4 hc dX12_laysTable_126 rfl ?_
    obtain ⟨r13, hr13, h⟩ := z_b_some h
    refine z_callVI [.int (zI ((2 * v1) + v3)), .int (zI v2), .int (zI v4)] hc hap o_X12_span ml_RX12_211 (fun l hl => c_X12_span hl  hr13) (by decide) tT_168 (by decide) ⟨_, rfl, rfl⟩ rfl rfl (Nat.le_of_ble_eq_true rfl) (Nat.zero_le _) (Nat.zero_le _) dX12_laysTable_128 ?_
    refine z_lald (kI := 183) (nI9 := 2890) hc tT_183 (by decide) rfl rfl (by decide) dX12_laysTable_131 h (fun g15 h => ?_)
    refine z_aload_n (i := 0) 0 hc dX12_laysTable_132 rfl rfl ?_
    refine z_getA (k' := 181) hc fl_RX12_46 tT_168 (by decide) rfl rfl dX12_laysTable_133 ?_
    refine z_iconst hc dX12_laysTable_136 ?_
    refine z_iload_n (i := 1) 1 hc dX12_laysTable_137 rfl rfl ?_
    refine z_imul hc dX12_laysTable_138 ?_
    refine z_iload_n (i := 3) 3 hc dX12_laysTable_139 rfl rfl ?_
    refine z_iadd hc dX12_laysTable_140 ?_
    refine z_iald (kI := 181) (nI9 := 10) hc tT_181 (by decide) rfl rfl (by decide) dX12_laysTable_141 h (fun g16 h => ?_)
    refine z_i2l hc dX12_laysTable_142 h (fun h => ?_)
    refine z_ladd hc dX12_laysTable_143 ?_
    obtain ⟨r17, hr17, h⟩ := z_b_some h
    refine z_callVJ [.long (zJ (st 184 r10)), .long (zJ ((st 183 r13) + (st 181 ((2 * v1) + v3))))] hc hap o_X12_least ml_RX12_207 (fun l hl => c_X12_least hl  hr17) (by decide) tT_168 (by decide) ⟨_, rfl, rfl⟩ rfl rfl (Nat.le_of_ble_eq_true rfl) (Nat.zero_le _) (Nat.zero_le _) dX12_laysTable_144 ?_
    refine z_last (kI := 184) (nI9 := 1445) hc hap tT_184 (by decide) rfl rfl (by decide) dX12_laysTable_147 h (fun st19 h => ?_)
    refine z_iinc [(4, .int (zI (v4 + 1))), (0, .ref (a 168)), (1, .int (zI v1)), (2, .int (zI v2)), (3, .int (zI v3))] 4 hc dX12_laysTable_148 rfl (by decide) rfl ?_
    refine z_goto (tgt := 80) hc dX12_laysTable_151 (by decide) ?_
    refine z_sub [(0, .ref (a 168)), (1, .int (zI v1)), (2, .int (zI v2)), (3, .int (zI v3)), (4, .int (zI (v4 + 1)))] [1, 2, 3, 4, 0] rfl ?_
    exact k1 _ (Option.some.inj h).symm
def J_X12_laysTable_b55 (v1 v2 v3 : Int) (st : z_St) : Option ((Int × z_St) ⊕ z_St) :=
  z_g (0 ≤ v1 ∧ v1 < 5) <|
  z_g (z32 v3 ∧ z32 (st 178 v1)) (if v3 < st 178 v1 then
    z_b (J_X12_laysSaying ((2 * v1) + v3) v2 st) fun st7 =>
    z_b (z_iter z_F (fun q9 : (Int × z_St) => J_X12_laysTable_b80 v1 v2 v3 q9.1 q9.2) (v2 + 1, st7)) fun lx20 =>
      some (.inl (v3 + 1, lx20))
  else
    some (.inr st))
set_option maxRecDepth 100000 in
set_option maxHeartbeats 4000000 in
theorem w_X12_laysTable_b55 {κ : zK} {a : Nat → Nat} {v1 v2 v3 : Int} {st : z_St} {mc9 ms9 : Nat} {o : (Int × z_St) ⊕ z_St} (hc : z_C κ RX12 cX12_laysTable 5 11 mc9 ms9) (hap : z_AP κ a z_N) (k1 : ∀ s9 : (Int × z_St), o = .inl s9 → z_V κ z_T z_N a 0 0 55 [(0, .ref (a 168)), (1, .int (zI v1)), (2, .int (zI v2)), (3, .int (zI s9.1))] [] s9.2) (k2 : ∀ x9 : z_St, o = .inr x9 → z_V κ z_T z_N a 0 0 160 [(0, .ref (a 168)), (1, .int (zI v1)), (2, .int (zI v2))] [] x9) (h : J_X12_laysTable_b55 v1 v2 v3 st = some o) : z_V κ z_T z_N a 0 0 55 [(0, .ref (a 168)), (1, .int (zI v1)), (2, .int (zI v2)), (3, .int (zI v3))] [] st := by
  unfold J_X12_laysTable_b55 at h
  refine z_iload_n (i := 3) 3 hc dX12_laysTable_55 rfl rfl ?_
  refine z_aload_n (i := 0) 0 hc dX12_laysTable_56 rfl rfl ?_
  refine z_getA (k' := 178) hc fl_RX12_37 tT_168 (by decide) rfl rfl dX12_laysTable_57 ?_
  refine z_iload_n (i := 1) 1 hc dX12_laysTable_60 rfl rfl ?_
  refine z_iald (kI := 178) (nI9 := 5) hc tT_178 (by decide) rfl rfl (by decide) dX12_laysTable_61 h (fun g5 h => ?_)
  refine z_icmp_ge (tgt := 160) hc dX12_laysTable_62 (by decide) h (fun c62 h => ?_) (fun c62 h => ?_)
  · refine z_aload_n (i := 0) 0 hc dX12_laysTable_65 rfl rfl ?_
    refine z_iconst hc dX12_laysTable_66 ?_
    refine z_iload_n (i := 1) 1 hc dX12_laysTable_67 rfl rfl ?_
    refine z_imul hc dX12_laysTable_68 ?_
    refine z_iload_n (i := 3) 3 hc dX12_laysTable_69 rfl rfl ?_
    refine z_iadd hc dX12_laysTable_70 ?_
    refine z_iload_n (i := 2) 2 hc dX12_laysTable_71 rfl rfl ?_
    obtain ⟨st7, hr6, h⟩ := z_b_some h
    refine z_callVV [.int (zI ((2 * v1) + v3)), .int (zI v2)] hc hap o_X12_laysSaying ml_RX12_214 (fun l hl => c_X12_laysSaying hl  hr6) (by decide) tT_168 (by decide) ⟨_, rfl, rfl⟩ rfl rfl (Nat.le_of_ble_eq_true rfl) (Nat.zero_le _) (Nat.zero_le _) dX12_laysTable_72 ?_
    refine z_iload_n (i := 2) 2 hc dX12_laysTable_75 rfl rfl ?_
    refine z_iconst hc dX12_laysTable_76 ?_
    refine z_iadd hc dX12_laysTable_77 ?_
    refine z_istore [(4, .int (zI (v2 + 1))), (0, .ref (a 168)), (1, .int (zI v1)), (2, .int (zI v2)), (3, .int (zI v3))] hc dX12_laysTable_78 (by decide) rfl ?_
    obtain ⟨lx20, hlx20, h⟩ := z_b_some h
    refine z_sub [(0, .ref (a 168)), (1, .int (zI v1)), (2, .int (zI v2)), (3, .int (zI v3)), (4, .int (zI (v2 + 1)))] [1, 2, 3, 4, 0] rfl ?_
    refine z_loop (fun q9 : (Int × z_St) => J_X12_laysTable_b80 v1 v2 v3 q9.1 q9.2) (fun q9 : (Int × z_St) => z_V κ z_T z_N a 0 0 80 [(0, .ref (a 168)), (1, .int (zI v1)), (2, .int (zI v2)), (3, .int (zI v3)), (4, .int (zI q9.1))] [] q9.2) (fun x9 : z_St => z_V κ z_T z_N a 0 0 154 [(0, .ref (a 168)), (1, .int (zI v1)), (2, .int (zI v2)), (3, .int (zI v3))] [] x9) (fun q9 o9 hb k1 k2 => ?_) _ _ _ hlx20 ?_
    · exact w_X12_laysTable_b80 hc hap k1 k2 hb
    · show z_V κ z_T z_N a 0 0 154 [(0, .ref (a 168)), (1, .int (zI v1)), (2, .int (zI v2)), (3, .int (zI v3))] [] lx20
      refine z_iinc [(3, .int (zI (v3 + 1))), (0, .ref (a 168)), (1, .int (zI v1)), (2, .int (zI v2))] 3 hc dX12_laysTable_154 rfl (by decide) rfl ?_
      refine z_goto (tgt := 55) hc dX12_laysTable_157 (by decide) ?_
      refine z_sub [(0, .ref (a 168)), (1, .int (zI v1)), (2, .int (zI v2)), (3, .int (zI (v3 + 1)))] [1, 2, 3, 0] rfl ?_
      exact k1 _ (Option.some.inj h).symm
  · refine z_sub [(0, .ref (a 168)), (1, .int (zI v1)), (2, .int (zI v2))] [0, 1, 2] rfl ?_
    exact k2 st (Option.some.inj h).symm
def J_X12_laysTable_b12 (v1 v2 : Int) (st : z_St) : Option ((Int × z_St) ⊕ z_St) :=
  z_g (z32 v2 ∧ z32 (st 168 2)) (if v2 < st 168 2 then
    z_b (z_iter z_F (fun q9 : (Int × z_St) => J_X12_laysTable_b24 v1 v2 q9.1 q9.2) (v2 + 1, st)) fun lx4 =>
      z_b (z_iter z_F (fun q9 : (Int × z_St) => J_X12_laysTable_b55 v1 v2 q9.1 q9.2) (0, lx4)) fun lx21 =>
        some (.inl (v2 + 1, lx21))
  else
    some (.inr st))
set_option maxRecDepth 100000 in
set_option maxHeartbeats 4000000 in
theorem w_X12_laysTable_b12 {κ : zK} {a : Nat → Nat} {v1 v2 : Int} {st : z_St} {mc9 ms9 : Nat} {o : (Int × z_St) ⊕ z_St} (hc : z_C κ RX12 cX12_laysTable 5 11 mc9 ms9) (hap : z_AP κ a z_N) (k1 : ∀ s9 : (Int × z_St), o = .inl s9 → z_V κ z_T z_N a 0 0 12 [(0, .ref (a 168)), (1, .int (zI v1)), (2, .int (zI s9.1))] [] s9.2) (k2 : ∀ x9 : z_St, o = .inr x9 → z_V κ z_T z_N a 0 0 166 [(0, .ref (a 168)), (1, .int (zI v1))] [] x9) (h : J_X12_laysTable_b12 v1 v2 st = some o) : z_V κ z_T z_N a 0 0 12 [(0, .ref (a 168)), (1, .int (zI v1)), (2, .int (zI v2))] [] st := by
  unfold J_X12_laysTable_b12 at h
  refine z_iload_n (i := 2) 2 hc dX12_laysTable_12 rfl rfl ?_
  refine z_aload_n (i := 0) 0 hc dX12_laysTable_13 rfl rfl ?_
  refine z_getI (kI := 168) (jI := 2) hc fl_RX12_128 tT_168 (by decide) rfl rfl rfl dX12_laysTable_14 ?_
  refine z_icmp_ge (tgt := 166) hc dX12_laysTable_17 (by decide) h (fun c17 h => ?_) (fun c17 h => ?_)
  · refine z_iload_n (i := 2) 2 hc dX12_laysTable_20 rfl rfl ?_
    refine z_iconst hc dX12_laysTable_21 ?_
    refine z_iadd hc dX12_laysTable_22 ?_
    refine z_istore_n (i := 3) [(3, .int (zI (v2 + 1))), (0, .ref (a 168)), (1, .int (zI v1)), (2, .int (zI v2))] hc dX12_laysTable_23 rfl (by decide) rfl ?_
    obtain ⟨lx4, hlx4, h⟩ := z_b_some h
    refine z_sub [(0, .ref (a 168)), (1, .int (zI v1)), (2, .int (zI v2)), (3, .int (zI (v2 + 1)))] [1, 2, 3, 0] rfl ?_
    refine z_loop (fun q9 : (Int × z_St) => J_X12_laysTable_b24 v1 v2 q9.1 q9.2) (fun q9 : (Int × z_St) => z_V κ z_T z_N a 0 0 24 [(0, .ref (a 168)), (1, .int (zI v1)), (2, .int (zI v2)), (3, .int (zI q9.1))] [] q9.2) (fun x9 : z_St => z_V κ z_T z_N a 0 0 53 [(0, .ref (a 168)), (1, .int (zI v1)), (2, .int (zI v2))] [] x9) (fun q9 o9 hb k1 k2 => ?_) _ _ _ hlx4 ?_
    · exact w_X12_laysTable_b24 hc hap k1 k2 hb
    · show z_V κ z_T z_N a 0 0 53 [(0, .ref (a 168)), (1, .int (zI v1)), (2, .int (zI v2))] [] lx4
      refine z_iconst hc dX12_laysTable_53 ?_
      refine z_istore_n (i := 3) [(3, .int (zI 0)), (0, .ref (a 168)), (1, .int (zI v1)), (2, .int (zI v2))] hc dX12_laysTable_54 rfl (by decide) rfl ?_
      obtain ⟨lx21, hlx21, h⟩ := z_b_some h
      refine z_sub [(0, .ref (a 168)), (1, .int (zI v1)), (2, .int (zI v2)), (3, .int (zI 0))] [1, 2, 3, 0] rfl ?_
      refine z_loop (fun q9 : (Int × z_St) => J_X12_laysTable_b55 v1 v2 q9.1 q9.2) (fun q9 : (Int × z_St) => z_V κ z_T z_N a 0 0 55 [(0, .ref (a 168)), (1, .int (zI v1)), (2, .int (zI v2)), (3, .int (zI q9.1))] [] q9.2) (fun x9 : z_St => z_V κ z_T z_N a 0 0 160 [(0, .ref (a 168)), (1, .int (zI v1)), (2, .int (zI v2))] [] x9) (fun q9 o9 hb k1 k2 => ?_) _ _ _ hlx21 ?_
      · exact w_X12_laysTable_b55 hc hap k1 k2 hb
      · show z_V κ z_T z_N a 0 0 160 [(0, .ref (a 168)), (1, .int (zI v1)), (2, .int (zI v2))] [] lx21
        refine z_iinc [(2, .int (zI (v2 + 1))), (0, .ref (a 168)), (1, .int (zI v1))] 2 hc dX12_laysTable_160 rfl (by decide) rfl ?_
        refine z_goto (tgt := 12) hc dX12_laysTable_163 (by decide) ?_
        refine z_sub [(0, .ref (a 168)), (1, .int (zI v1)), (2, .int (zI (v2 + 1)))] [1, 2, 0] rfl ?_
        exact k1 _ (Option.some.inj h).symm
  · refine z_sub [(0, .ref (a 168)), (1, .int (zI v1))] [0, 1] rfl ?_
    exact k2 st (Option.some.inj h).symm
def J_X12_laysTable_b2 (v1 : Int) (st : z_St) : Option ((Int × z_St) ⊕ z_St) :=
  z_g (z32 v1 ∧ z32 (st 168 18)) (if v1 < st 168 18 then
    z_b (z_iter z_F (fun q9 : (Int × z_St) => J_X12_laysTable_b12 v1 q9.1 q9.2) (0, st)) fun lx22 =>
      some (.inl (v1 + 1, lx22))
  else
    some (.inr st))
set_option maxRecDepth 100000 in
set_option maxHeartbeats 4000000 in
theorem w_X12_laysTable_b2 {κ : zK} {a : Nat → Nat} {v1 : Int} {st : z_St} {mc9 ms9 : Nat} {o : (Int × z_St) ⊕ z_St} (hc : z_C κ RX12 cX12_laysTable 5 11 mc9 ms9) (hap : z_AP κ a z_N) (k1 : ∀ s9 : (Int × z_St), o = .inl s9 → z_V κ z_T z_N a 0 0 2 [(0, .ref (a 168)), (1, .int (zI s9.1))] [] s9.2) (k2 : ∀ x9 : z_St, o = .inr x9 → z_V κ z_T z_N a 0 0 172 [] [] x9) (h : J_X12_laysTable_b2 v1 st = some o) : z_V κ z_T z_N a 0 0 2 [(0, .ref (a 168)), (1, .int (zI v1))] [] st := by
  unfold J_X12_laysTable_b2 at h
  refine z_iload_n (i := 1) 1 hc dX12_laysTable_2 rfl rfl ?_
  refine z_aload_n (i := 0) 0 hc dX12_laysTable_3 rfl rfl ?_
  refine z_getI (kI := 168) (jI := 18) hc fl_RX12_189 tT_168 (by decide) rfl rfl rfl dX12_laysTable_4 ?_
  refine z_icmp_ge (tgt := 172) hc dX12_laysTable_7 (by decide) h (fun c7 h => ?_) (fun c7 h => ?_)
  · refine z_iconst hc dX12_laysTable_10 ?_
    refine z_istore_n (i := 2) [(2, .int (zI 0)), (0, .ref (a 168)), (1, .int (zI v1))] hc dX12_laysTable_11 rfl (by decide) rfl ?_
    obtain ⟨lx22, hlx22, h⟩ := z_b_some h
    refine z_sub [(0, .ref (a 168)), (1, .int (zI v1)), (2, .int (zI 0))] [1, 2, 0] rfl ?_
    refine z_loop (fun q9 : (Int × z_St) => J_X12_laysTable_b12 v1 q9.1 q9.2) (fun q9 : (Int × z_St) => z_V κ z_T z_N a 0 0 12 [(0, .ref (a 168)), (1, .int (zI v1)), (2, .int (zI q9.1))] [] q9.2) (fun x9 : z_St => z_V κ z_T z_N a 0 0 166 [(0, .ref (a 168)), (1, .int (zI v1))] [] x9) (fun q9 o9 hb k1 k2 => ?_) _ _ _ hlx22 ?_
    · exact w_X12_laysTable_b12 hc hap k1 k2 hb
    · show z_V κ z_T z_N a 0 0 166 [(0, .ref (a 168)), (1, .int (zI v1))] [] lx22
      refine z_iinc [(1, .int (zI (v1 + 1))), (0, .ref (a 168))] 1 hc dX12_laysTable_166 rfl (by decide) rfl ?_
      refine z_goto (tgt := 2) hc dX12_laysTable_169 (by decide) ?_
      refine z_sub [(0, .ref (a 168)), (1, .int (zI (v1 + 1)))] [1, 0] rfl ?_
      exact k1 _ (Option.some.inj h).symm
  · refine z_sub [] [] rfl ?_
    exact k2 st (Option.some.inj h).symm
def J_X12_laysTable (st : z_St) : Option (z_St) :=
  z_b (z_iter z_F (fun q9 : (Int × z_St) => J_X12_laysTable_b2 q9.1 q9.2) (0, st)) fun lx23 =>
    some lx23
set_option maxRecDepth 100000 in
set_option maxHeartbeats 4000000 in
theorem w_X12_laysTable {κ : zK} {a : Nat → Nat} {st : z_St} {o : z_St} (hc : z_C κ RX12 cX12_laysTable 5 11 0 0) (hap : z_AP κ a z_N) (he : z_E 2 κ none z_T z_N a 0 o) (h : J_X12_laysTable st = some o) : z_V κ z_T z_N a 0 0 0 [(0, .ref (a 168))] [] st := by
  unfold J_X12_laysTable at h
  refine z_iconst hc dX12_laysTable_0 ?_
  refine z_istore_n (i := 1) [(1, .int (zI 0)), (0, .ref (a 168))] hc dX12_laysTable_1 rfl (by decide) rfl ?_
  obtain ⟨lx23, hlx23, h⟩ := z_b_some h
  refine z_sub [(0, .ref (a 168)), (1, .int (zI 0))] [1, 0] rfl ?_
  refine z_loop (fun q9 : (Int × z_St) => J_X12_laysTable_b2 q9.1 q9.2) (fun q9 : (Int × z_St) => z_V κ z_T z_N a 0 0 2 [(0, .ref (a 168)), (1, .int (zI q9.1))] [] q9.2) (fun x9 : z_St => z_V κ z_T z_N a 0 0 172 [] [] x9) (fun q9 o9 hb k1 k2 => ?_) _ _ _ hlx23 ?_
  · exact w_X12_laysTable_b2 hc hap k1 k2 hb
  · show z_V κ z_T z_N a 0 0 172 [] [] lx23
    have h := Option.some.inj h
    subst h
    exact z_retV hc he dX12_laysTable_172
set_option maxRecDepth 100000 in
set_option maxHeartbeats 4000000 in
theorem c_X12_laysTable {l : Launch} (hl : l.stackTraces = false) {a : Nat → Nat} {st : z_St} {o : z_St} (h : J_X12_laysTable st = some o) : z_M 2 l yX12_laysTable cX12_laysTable 5 none 11 z_T z_N a [.ref (a 168)] st 0 o := z_of hl (by decide +kernel) (Nat.le_of_ble_eq_true rfl) (fun κ hc hap he => w_X12_laysTable hc hap he h)
theorem dX12_isWord_0 : decode cX12_isWord 0 = .ok (.aload_n 0, 1) := by decide +kernel
theorem dX12_isWord_1 : decode cX12_isWord 1 = .ok (.iload_n 1, 1) := by decide +kernel
theorem dX12_isWord_2 : decode cX12_isWord 2 = .ok (.i2l, 1) := by decide +kernel
theorem dX12_isWord_3 : decode cX12_isWord 3 = .ok (.lconst 0, 1) := by decide +kernel
theorem dX12_isWord_4 : decode cX12_isWord 4 = .ok (.aload_n 0, 1) := by decide +kernel
theorem dX12_isWord_5 : decode cX12_isWord 5 = .ok (.getfield 189, 3) := by decide +kernel
theorem dX12_isWord_8 : decode cX12_isWord 8 = .ok (.iconst 1, 1) := by decide +kernel
theorem dX12_isWord_9 : decode cX12_isWord 9 = .ok (.isub, 1) := by decide +kernel
theorem dX12_isWord_10 : decode cX12_isWord 10 = .ok (.i2l, 1) := by decide +kernel
theorem dX12_isWord_11 : decode cX12_isWord 11 = .ok (.invokevirtual 116, 3) := by decide +kernel
theorem dX12_isWord_14 : decode cX12_isWord 14 = .ok (.ireturn, 1) := by decide +kernel
def J_X12_isWord (x1 : Int) (st : z_St) : Option (Int) :=
  z_g (z32 x1) <|
  z_g (z32 ((st 168 18) - 1)) <|
  z_b (J_X12_in x1 0 ((st 168 18) - 1) st) fun r1 =>
  z_g (r1 = 0 ∨ r1 = 1) <|
  some r1
set_option maxRecDepth 100000 in
set_option maxHeartbeats 4000000 in
theorem w_X12_isWord {κ : zK} {a : Nat → Nat} {x1 : Int} {st : z_St} {o : Int} (hc : z_C κ RX12 cX12_isWord 2 9 0 0) (hap : z_AP κ a z_N) (he : z_E 0 κ (some .boolean) z_T z_N a o st) (h : J_X12_isWord x1 st = some o) : z_V κ z_T z_N a 0 0 0 [(0, .ref (a 168)), (1, .int (zI x1))] [] st := by
  unfold J_X12_isWord at h
  refine z_aload_n (i := 0) 0 hc dX12_isWord_0 rfl rfl ?_
  refine z_iload_n (i := 1) 1 hc dX12_isWord_1 rfl rfl ?_
  refine z_i2l hc dX12_isWord_2 h (fun h => ?_)
  refine z_lconst 0 hc dX12_isWord_3 rfl ?_
  refine z_aload_n (i := 0) 0 hc dX12_isWord_4 rfl rfl ?_
  refine z_getI (kI := 168) (jI := 18) hc fl_RX12_189 tT_168 (by decide) rfl rfl rfl dX12_isWord_5 ?_
  refine z_iconst hc dX12_isWord_8 ?_
  refine z_isub hc dX12_isWord_9 ?_
  refine z_i2l hc dX12_isWord_10 h (fun h => ?_)
  obtain ⟨r1, hr1, h⟩ := z_b_some h
  refine z_callVI [.long (zJ x1), .long (zJ 0), .long (zJ ((st 168 18) - 1))] hc hap o_X12_in ml_RX12_116 (fun l hl => c_X12_in hl  hr1) (by decide) tT_168 (by decide) ⟨_, rfl, rfl⟩ rfl rfl (Nat.le_of_ble_eq_true rfl) (Nat.zero_le _) (Nat.zero_le _) dX12_isWord_11 ?_
  obtain ⟨hz, h⟩ := z_g_some h
  have h := Option.some.inj h
  subst h
  exact z_retZ hc he hz dX12_isWord_14
set_option maxRecDepth 100000 in
set_option maxHeartbeats 4000000 in
theorem c_X12_isWord {l : Launch} (hl : l.stackTraces = false) {a : Nat → Nat} {x1 : Int} {st : z_St} {o : Int} (h : J_X12_isWord x1 st = some o) : z_M 0 l yX12_isWord cX12_isWord 2 (some .boolean) 9 z_T z_N a [.ref (a 168), .int (zI x1)] st o st := z_of hl (by decide +kernel) (Nat.le_of_ble_eq_true rfl) (fun κ hc hap he => w_X12_isWord hc hap he h)
theorem dX12_apart_0 : decode cX12_apart 0 = .ok (.iload_n 1, 1) := by decide +kernel
theorem dX12_apart_1 : decode cX12_apart 1 = .ok (.iconst 1, 1) := by decide +kernel
theorem dX12_apart_2 : decode cX12_apart 2 = .ok (.if_icmp .ge 7, 3) := by decide +kernel
theorem dX12_apart_5 : decode cX12_apart 5 = .ok (.iconst 0, 1) := by decide +kernel
theorem dX12_apart_6 : decode cX12_apart 6 = .ok (.goto 46, 3) := by decide +kernel
theorem dX12_apart_9 : decode cX12_apart 9 = .ok (.iload_n 1, 1) := by decide +kernel
theorem dX12_apart_10 : decode cX12_apart 10 = .ok (.bipush 10, 2) := by decide +kernel
theorem dX12_apart_12 : decode cX12_apart 12 = .ok (.if_icmp .ge 7, 3) := by decide +kernel
theorem dX12_apart_15 : decode cX12_apart 15 = .ok (.iconst 1, 1) := by decide +kernel
theorem dX12_apart_16 : decode cX12_apart 16 = .ok (.goto 36, 3) := by decide +kernel
theorem dX12_apart_19 : decode cX12_apart 19 = .ok (.iload_n 1, 1) := by decide +kernel
theorem dX12_apart_20 : decode cX12_apart 20 = .ok (.bipush 100, 2) := by decide +kernel
theorem dX12_apart_22 : decode cX12_apart 22 = .ok (.if_icmp .ge 7, 3) := by decide +kernel
theorem dX12_apart_25 : decode cX12_apart 25 = .ok (.iconst 2, 1) := by decide +kernel
theorem dX12_apart_26 : decode cX12_apart 26 = .ok (.goto 26, 3) := by decide +kernel
theorem dX12_apart_29 : decode cX12_apart 29 = .ok (.iload_n 1, 1) := by decide +kernel
theorem dX12_apart_30 : decode cX12_apart 30 = .ok (.sipush 1000, 3) := by decide +kernel
theorem dX12_apart_33 : decode cX12_apart 33 = .ok (.if_icmp .ge 7, 3) := by decide +kernel
theorem dX12_apart_36 : decode cX12_apart 36 = .ok (.iconst 3, 1) := by decide +kernel
theorem dX12_apart_37 : decode cX12_apart 37 = .ok (.goto 15, 3) := by decide +kernel
theorem dX12_apart_40 : decode cX12_apart 40 = .ok (.iload_n 1, 1) := by decide +kernel
theorem dX12_apart_41 : decode cX12_apart 41 = .ok (.sipush 10000, 3) := by decide +kernel
theorem dX12_apart_44 : decode cX12_apart 44 = .ok (.if_icmp .ge 7, 3) := by decide +kernel
theorem dX12_apart_47 : decode cX12_apart 47 = .ok (.iconst 4, 1) := by decide +kernel
theorem dX12_apart_48 : decode cX12_apart 48 = .ok (.goto 4, 3) := by decide +kernel
theorem dX12_apart_51 : decode cX12_apart 51 = .ok (.iconst 0, 1) := by decide +kernel
theorem dX12_apart_52 : decode cX12_apart 52 = .ok (.istore_n 3, 1) := by decide +kernel
theorem dX12_apart_53 : decode cX12_apart 53 = .ok (.iload_n 1, 1) := by decide +kernel
theorem dX12_apart_54 : decode cX12_apart 54 = .ok (.istore 4, 2) := by decide +kernel
theorem dX12_apart_56 : decode cX12_apart 56 = .ok (.iload_n 3, 1) := by decide +kernel
theorem dX12_apart_57 : decode cX12_apart 57 = .ok (.iconst 1, 1) := by decide +kernel
theorem dX12_apart_58 : decode cX12_apart 58 = .ok (.isub, 1) := by decide +kernel
theorem dX12_apart_59 : decode cX12_apart 59 = .ok (.istore 5, 2) := by decide +kernel
theorem dX12_apart_61 : decode cX12_apart 61 = .ok (.iload 5, 2) := by decide +kernel
theorem dX12_apart_63 : decode cX12_apart 63 = .ok (.ifCond .lt 27, 3) := by decide +kernel
theorem dX12_apart_66 : decode cX12_apart 66 = .ok (.aload_n 2, 1) := by decide +kernel
theorem dX12_apart_67 : decode cX12_apart 67 = .ok (.iload 5, 2) := by decide +kernel
theorem dX12_apart_69 : decode cX12_apart 69 = .ok (.iload 4, 2) := by decide +kernel
theorem dX12_apart_71 : decode cX12_apart 71 = .ok (.bipush 10, 2) := by decide +kernel
theorem dX12_apart_73 : decode cX12_apart 73 = .ok (.irem, 1) := by decide +kernel
theorem dX12_apart_74 : decode cX12_apart 74 = .ok (.iconst 1, 1) := by decide +kernel
theorem dX12_apart_75 : decode cX12_apart 75 = .ok (.isub, 1) := by decide +kernel
theorem dX12_apart_76 : decode cX12_apart 76 = .ok (.iastore, 1) := by decide +kernel
theorem dX12_apart_77 : decode cX12_apart 77 = .ok (.iload 4, 2) := by decide +kernel
theorem dX12_apart_79 : decode cX12_apart 79 = .ok (.bipush 10, 2) := by decide +kernel
theorem dX12_apart_81 : decode cX12_apart 81 = .ok (.idiv, 1) := by decide +kernel
theorem dX12_apart_82 : decode cX12_apart 82 = .ok (.istore 4, 2) := by decide +kernel
theorem dX12_apart_84 : decode cX12_apart 84 = .ok (.iinc 5 (-1), 3) := by decide +kernel
theorem dX12_apart_87 : decode cX12_apart 87 = .ok (.goto (-26), 3) := by decide +kernel
theorem dX12_apart_90 : decode cX12_apart 90 = .ok (.iload_n 3, 1) := by decide +kernel
theorem dX12_apart_91 : decode cX12_apart 91 = .ok (.ifCond .le 7, 3) := by decide +kernel
theorem dX12_apart_94 : decode cX12_apart 94 = .ok (.iconst 1, 1) := by decide +kernel
theorem dX12_apart_95 : decode cX12_apart 95 = .ok (.goto 4, 3) := by decide +kernel
theorem dX12_apart_98 : decode cX12_apart 98 = .ok (.iconst 0, 1) := by decide +kernel
theorem dX12_apart_99 : decode cX12_apart 99 = .ok (.istore 5, 2) := by decide +kernel
theorem dX12_apart_101 : decode cX12_apart 101 = .ok (.iconst 0, 1) := by decide +kernel
theorem dX12_apart_102 : decode cX12_apart 102 = .ok (.istore 6, 2) := by decide +kernel
theorem dX12_apart_104 : decode cX12_apart 104 = .ok (.iload 6, 2) := by decide +kernel
theorem dX12_apart_106 : decode cX12_apart 106 = .ok (.iload_n 3, 1) := by decide +kernel
theorem dX12_apart_107 : decode cX12_apart 107 = .ok (.if_icmp .ge 32, 3) := by decide +kernel
theorem dX12_apart_110 : decode cX12_apart 110 = .ok (.iload 5, 2) := by decide +kernel
theorem dX12_apart_112 : decode cX12_apart 112 = .ok (.ifCond .eq 18, 3) := by decide +kernel
theorem dX12_apart_115 : decode cX12_apart 115 = .ok (.aload_n 0, 1) := by decide +kernel
theorem dX12_apart_116 : decode cX12_apart 116 = .ok (.aload_n 2, 1) := by decide +kernel
theorem dX12_apart_117 : decode cX12_apart 117 = .ok (.iload 6, 2) := by decide +kernel
theorem dX12_apart_119 : decode cX12_apart 119 = .ok (.iaload, 1) := by decide +kernel
theorem dX12_apart_120 : decode cX12_apart 120 = .ok (.invokevirtual 195, 3) := by decide +kernel
theorem dX12_apart_123 : decode cX12_apart 123 = .ok (.ifCond .eq 7, 3) := by decide +kernel
theorem dX12_apart_126 : decode cX12_apart 126 = .ok (.iconst 1, 1) := by decide +kernel
theorem dX12_apart_127 : decode cX12_apart 127 = .ok (.goto 4, 3) := by decide +kernel
theorem dX12_apart_130 : decode cX12_apart 130 = .ok (.iconst 0, 1) := by decide +kernel
theorem dX12_apart_131 : decode cX12_apart 131 = .ok (.istore 5, 2) := by decide +kernel
theorem dX12_apart_133 : decode cX12_apart 133 = .ok (.iinc 6 1, 3) := by decide +kernel
theorem dX12_apart_136 : decode cX12_apart 136 = .ok (.goto (-32), 3) := by decide +kernel
theorem dX12_apart_139 : decode cX12_apart 139 = .ok (.iload 5, 2) := by decide +kernel
theorem dX12_apart_141 : decode cX12_apart 141 = .ok (.ifCond .eq 7, 3) := by decide +kernel
theorem dX12_apart_144 : decode cX12_apart 144 = .ok (.iload_n 3, 1) := by decide +kernel
theorem dX12_apart_145 : decode cX12_apart 145 = .ok (.goto 4, 3) := by decide +kernel
theorem dX12_apart_148 : decode cX12_apart 148 = .ok (.iconst 0, 1) := by decide +kernel
theorem dX12_apart_149 : decode cX12_apart 149 = .ok (.ireturn, 1) := by decide +kernel
def J_X12_apart_b61 (v2 v3 v4 v5 : Int) (st : z_St) : Option ((Int × Int × z_St) ⊕ z_St) :=
  z_g (z32 v5) (if v5 < 0 then
    some (.inr st)
  else
    z_g (z32 v4 ∧ z32 10 ∧ (10 : Int) ≠ 0) <|
    z_g (0 ≤ v5 ∧ v5 < 4) <|
    z_let (z_up st v2 v5 ((v4.tmod 10) - 1)) fun st1 =>
    z_g (z32 v4 ∧ z32 10 ∧ (10 : Int) ≠ 0) <|
    some (.inl (v4.tdiv 10, v5 + (-1), st1)))
set_option maxRecDepth 100000 in
set_option maxHeartbeats 4000000 in
theorem w_X12_apart_b61 {κ : zK} {a : Nat → Nat} {v2 v3 v4 v5 : Int} {st : z_St} {mc9 ms9 : Nat} {o : (Int × Int × z_St) ⊕ z_St} (hc : z_C κ RX12 cX12_apart 7 10 mc9 ms9) (hap : z_AP κ a z_N) (hv2 : z_isArr v2 0 0 4) (k1 : ∀ s9 : (Int × Int × z_St), o = .inl s9 → z_V κ z_T z_N a 0 0 61 [(0, .ref (a 168)), (2, .ref (a v2.toNat)), (3, .int (zI v3)), (4, .int (zI s9.1)), (5, .int (zI s9.2.1))] [] s9.2.2) (k2 : ∀ x9 : z_St, o = .inr x9 → z_V κ z_T z_N a 0 0 90 [(0, .ref (a 168)), (2, .ref (a v2.toNat)), (3, .int (zI v3))] [] x9) (h : J_X12_apart_b61 v2 v3 v4 v5 st = some o) : z_V κ z_T z_N a 0 0 61 [(0, .ref (a 168)), (2, .ref (a v2.toNat)), (3, .int (zI v3)), (4, .int (zI v4)), (5, .int (zI v5))] [] st := by
  unfold J_X12_apart_b61 at h
  refine z_iload 4 hc dX12_apart_61 rfl ?_
  refine z_if_lt (tgt := 90) hc dX12_apart_63 (by decide) h (fun c63 h => ?_) (fun c63 h => ?_)
  · refine z_sub [(0, .ref (a 168)), (2, .ref (a v2.toNat)), (3, .int (zI v3))] [0, 1, 2] rfl ?_
    exact k2 st (Option.some.inj h).symm
  · refine z_aload_n (i := 2) 1 hc dX12_apart_66 rfl rfl ?_
    refine z_iload 4 hc dX12_apart_67 rfl ?_
    refine z_iload 3 hc dX12_apart_69 rfl ?_
    refine z_bipush hc dX12_apart_71 rfl ?_
    refine z_irem hc dX12_apart_73 h (fun h => ?_)
    refine z_iconst hc dX12_apart_74 ?_
    refine z_isub hc dX12_apart_75 ?_
    refine z_iast (kI := v2) (nI9 := 4) hc hap hv2.2.2 hv2.2.1 (Int.toNat_of_nonneg hv2.1) rfl (by decide) dX12_apart_76 h (fun st1 h => ?_)
    refine z_iload 3 hc dX12_apart_77 rfl ?_
    refine z_bipush hc dX12_apart_79 rfl ?_
    refine z_idiv hc dX12_apart_81 h (fun h => ?_)
    refine z_istore [(4, .int (zI (v4.tdiv 10))), (0, .ref (a 168)), (2, .ref (a v2.toNat)), (3, .int (zI v3)), (5, .int (zI v5))] hc dX12_apart_82 (by decide) rfl ?_
    refine z_iinc [(5, .int (zI (v5 + (-1)))), (4, .int (zI (v4.tdiv 10))), (0, .ref (a 168)), (2, .ref (a v2.toNat)), (3, .int (zI v3))] 4 hc dX12_apart_84 rfl (by decide) rfl ?_
    refine z_goto (tgt := 61) hc dX12_apart_87 (by decide) ?_
    refine z_sub [(0, .ref (a 168)), (2, .ref (a v2.toNat)), (3, .int (zI v3)), (4, .int (zI (v4.tdiv 10))), (5, .int (zI (v5 + (-1))))] [2, 3, 4, 1, 0] rfl ?_
    exact k1 _ (Option.some.inj h).symm
def J_X12_apart_131 (v2 v3 v6 s0 : Int) (st : z_St) : Option ((Int × Int) ⊕ Int) :=
  some (.inl (s0, v6 + 1))
set_option maxRecDepth 100000 in
set_option maxHeartbeats 4000000 in
theorem w_X12_apart_131 {κ : zK} {a : Nat → Nat} {v2 v3 v6 s0 : Int} {st : z_St} {mc9 ms9 : Nat} {o : (Int × Int) ⊕ Int} (hc : z_C κ RX12 cX12_apart 7 10 mc9 ms9) (hap : z_AP κ a z_N) (hv2 : z_isArr v2 0 0 4) (k1 : ∀ s9 : (Int × Int), o = .inl s9 → z_V κ z_T z_N a 0 0 104 [(0, .ref (a 168)), (2, .ref (a v2.toNat)), (3, .int (zI v3)), (5, .int (zI s9.1)), (6, .int (zI s9.2))] [] st) (k2 : ∀ x9 : Int, o = .inr x9 → z_V κ z_T z_N a 0 0 139 [(3, .int (zI v3)), (5, .int (zI x9))] [] st) (h : J_X12_apart_131 v2 v3 v6 s0 st = some o) : z_V κ z_T z_N a 0 0 131 [(0, .ref (a 168)), (2, .ref (a v2.toNat)), (3, .int (zI v3)), (6, .int (zI v6))] [.int (zI s0)] st := by
  unfold J_X12_apart_131 at h
  refine z_istore [(5, .int (zI s0)), (0, .ref (a 168)), (2, .ref (a v2.toNat)), (3, .int (zI v3)), (6, .int (zI v6))] hc dX12_apart_131 (by decide) rfl ?_
  refine z_iinc [(6, .int (zI (v6 + 1))), (5, .int (zI s0)), (0, .ref (a 168)), (2, .ref (a v2.toNat)), (3, .int (zI v3))] 4 hc dX12_apart_133 rfl (by decide) rfl ?_
  refine z_goto (tgt := 104) hc dX12_apart_136 (by decide) ?_
  refine z_sub [(0, .ref (a 168)), (2, .ref (a v2.toNat)), (3, .int (zI v3)), (5, .int (zI s0)), (6, .int (zI (v6 + 1)))] [2, 3, 4, 1, 0] rfl ?_
  exact k1 _ (Option.some.inj h).symm
def J_X12_apart_130 (v2 v3 v6 : Int) (st : z_St) : Option ((Int × Int) ⊕ Int) :=
  J_X12_apart_131 v2 v3 v6 0 st
set_option maxRecDepth 100000 in
set_option maxHeartbeats 4000000 in
theorem w_X12_apart_130 {κ : zK} {a : Nat → Nat} {v2 v3 v6 : Int} {st : z_St} {mc9 ms9 : Nat} {o : (Int × Int) ⊕ Int} (hc : z_C κ RX12 cX12_apart 7 10 mc9 ms9) (hap : z_AP κ a z_N) (hv2 : z_isArr v2 0 0 4) (k1 : ∀ s9 : (Int × Int), o = .inl s9 → z_V κ z_T z_N a 0 0 104 [(0, .ref (a 168)), (2, .ref (a v2.toNat)), (3, .int (zI v3)), (5, .int (zI s9.1)), (6, .int (zI s9.2))] [] st) (k2 : ∀ x9 : Int, o = .inr x9 → z_V κ z_T z_N a 0 0 139 [(3, .int (zI v3)), (5, .int (zI x9))] [] st) (h : J_X12_apart_130 v2 v3 v6 st = some o) : z_V κ z_T z_N a 0 0 130 [(0, .ref (a 168)), (2, .ref (a v2.toNat)), (3, .int (zI v3)), (6, .int (zI v6))] [] st := by
  unfold J_X12_apart_130 at h
  refine z_iconst hc dX12_apart_130 ?_
  refine z_sub [(0, .ref (a 168)), (2, .ref (a v2.toNat)), (3, .int (zI v3)), (6, .int (zI v6))] [0, 1, 2, 3] rfl ?_
  exact w_X12_apart_131 hc hap hv2 k1 k2 h
def J_X12_apart_b104 (v2 v3 v5 v6 : Int) (st : z_St) : Option ((Int × Int) ⊕ Int) :=
  z_g (z32 v6 ∧ z32 v3) (if v6 < v3 then
    z_g (z32 v5) (if v5 = 0 then
      J_X12_apart_130 v2 v3 v6 st
    else
      z_g (0 ≤ v6 ∧ v6 < 4) <|
      z_b (J_X12_isWord (st v2 v6) st) fun r4 =>
      z_g (z32 r4) (if r4 = 0 then
        J_X12_apart_130 v2 v3 v6 st
      else
        J_X12_apart_131 v2 v3 v6 1 st))
  else
    some (.inr v5))
set_option maxRecDepth 100000 in
set_option maxHeartbeats 4000000 in
theorem w_X12_apart_b104 {κ : zK} {a : Nat → Nat} {v2 v3 v5 v6 : Int} {st : z_St} {mc9 ms9 : Nat} {o : (Int × Int) ⊕ Int} (hc : z_C κ RX12 cX12_apart 7 10 mc9 ms9) (hap : z_AP κ a z_N) (hv2 : z_isArr v2 0 0 4) (k1 : ∀ s9 : (Int × Int), o = .inl s9 → z_V κ z_T z_N a 0 0 104 [(0, .ref (a 168)), (2, .ref (a v2.toNat)), (3, .int (zI v3)), (5, .int (zI s9.1)), (6, .int (zI s9.2))] [] st) (k2 : ∀ x9 : Int, o = .inr x9 → z_V κ z_T z_N a 0 0 139 [(3, .int (zI v3)), (5, .int (zI x9))] [] st) (h : J_X12_apart_b104 v2 v3 v5 v6 st = some o) : z_V κ z_T z_N a 0 0 104 [(0, .ref (a 168)), (2, .ref (a v2.toNat)), (3, .int (zI v3)), (5, .int (zI v5)), (6, .int (zI v6))] [] st := by
  unfold J_X12_apart_b104 at h
  refine z_iload 4 hc dX12_apart_104 rfl ?_
  refine z_iload_n (i := 3) 2 hc dX12_apart_106 rfl rfl ?_
  refine z_icmp_ge (tgt := 139) hc dX12_apart_107 (by decide) h (fun c107 h => ?_) (fun c107 h => ?_)
  · refine z_iload 3 hc dX12_apart_110 rfl ?_
    refine z_if_eq (tgt := 130) hc dX12_apart_112 (by decide) h (fun c112 h => ?_) (fun c112 h => ?_)
    · refine z_sub [(0, .ref (a 168)), (2, .ref (a v2.toNat)), (3, .int (zI v3)), (6, .int (zI v6))] [0, 1, 2, 4] rfl ?_
      exact w_X12_apart_130 hc hap hv2 k1 k2 h
    · refine z_aload_n (i := 0) 0 hc dX12_apart_115 rfl rfl ?_
      refine z_aload_n (i := 2) 1 hc dX12_apart_116 rfl rfl ?_
      refine z_iload 4 hc dX12_apart_117 rfl ?_
      refine z_iald (kI := v2) (nI9 := 4) hc hv2.2.2 hv2.2.1 (Int.toNat_of_nonneg hv2.1) rfl (by decide) dX12_apart_119 h (fun g3 h => ?_)
      obtain ⟨r4, hr4, h⟩ := z_b_some h
      refine z_callVI [.int (zI (st v2 v6))] hc hap o_X12_isWord ml_RX12_195 (fun l hl => c_X12_isWord hl  hr4) (by decide) tT_168 (by decide) ⟨_, rfl, rfl⟩ rfl rfl (Nat.le_of_ble_eq_true rfl) (Nat.zero_le _) (Nat.zero_le _) dX12_apart_120 ?_
      refine z_if_eq (tgt := 130) hc dX12_apart_123 (by decide) h (fun c123 h => ?_) (fun c123 h => ?_)
      · refine z_sub [(0, .ref (a 168)), (2, .ref (a v2.toNat)), (3, .int (zI v3)), (6, .int (zI v6))] [0, 1, 2, 4] rfl ?_
        exact w_X12_apart_130 hc hap hv2 k1 k2 h
      · refine z_iconst hc dX12_apart_126 ?_
        refine z_goto (tgt := 131) hc dX12_apart_127 (by decide) ?_
        refine z_sub [(0, .ref (a 168)), (2, .ref (a v2.toNat)), (3, .int (zI v3)), (6, .int (zI v6))] [0, 1, 2, 4] rfl ?_
        exact w_X12_apart_131 hc hap hv2 k1 k2 h
  · refine z_sub [(3, .int (zI v3)), (5, .int (zI v5))] [2, 3] rfl ?_
    exact k2 v5 (Option.some.inj h).symm
def J_X12_apart_149 (s0 : Int) (st : z_St) : Option (Int × z_St) :=
  some (s0, st)
set_option maxRecDepth 100000 in
set_option maxHeartbeats 4000000 in
theorem w_X12_apart_149 {κ : zK} {a : Nat → Nat} {s0 : Int} {st : z_St} {o : Int × z_St} (hc : z_C κ RX12 cX12_apart 7 10 0 0) (hap : z_AP κ a z_N) (he : z_E 0 κ (some .int) z_T z_N a o.1 o.2) (h : J_X12_apart_149 s0 st = some o) : z_V κ z_T z_N a 0 0 149 [] [.int (zI s0)] st := by
  unfold J_X12_apart_149 at h
  have h := Option.some.inj h
  subst h
  exact z_retI hc he dX12_apart_149
def J_X12_apart_99 (v2 v3 s0 : Int) (st : z_St) : Option (Int × z_St) :=
  z_b (z_iter z_F (fun q9 : (Int × Int) => J_X12_apart_b104 v2 v3 q9.1 q9.2 st) (s0, 0)) fun lx6 =>
    z_g (z32 lx6) (if lx6 = 0 then
      J_X12_apart_149 0 st
    else
      J_X12_apart_149 v3 st)
set_option maxRecDepth 100000 in
set_option maxHeartbeats 4000000 in
theorem w_X12_apart_99 {κ : zK} {a : Nat → Nat} {v2 v3 s0 : Int} {st : z_St} {o : Int × z_St} (hc : z_C κ RX12 cX12_apart 7 10 0 0) (hap : z_AP κ a z_N) (hv2 : z_isArr v2 0 0 4) (he : z_E 0 κ (some .int) z_T z_N a o.1 o.2) (h : J_X12_apart_99 v2 v3 s0 st = some o) : z_V κ z_T z_N a 0 0 99 [(0, .ref (a 168)), (2, .ref (a v2.toNat)), (3, .int (zI v3))] [.int (zI s0)] st := by
  unfold J_X12_apart_99 at h
  refine z_istore [(5, .int (zI s0)), (0, .ref (a 168)), (2, .ref (a v2.toNat)), (3, .int (zI v3))] hc dX12_apart_99 (by decide) rfl ?_
  refine z_iconst hc dX12_apart_101 ?_
  refine z_istore [(6, .int (zI 0)), (5, .int (zI s0)), (0, .ref (a 168)), (2, .ref (a v2.toNat)), (3, .int (zI v3))] hc dX12_apart_102 (by decide) rfl ?_
  obtain ⟨lx6, hlx6, h⟩ := z_b_some h
  refine z_sub [(0, .ref (a 168)), (2, .ref (a v2.toNat)), (3, .int (zI v3)), (5, .int (zI s0)), (6, .int (zI 0))] [2, 3, 4, 1, 0] rfl ?_
  refine z_loop (fun q9 : (Int × Int) => J_X12_apart_b104 v2 v3 q9.1 q9.2 st) (fun q9 : (Int × Int) => z_V κ z_T z_N a 0 0 104 [(0, .ref (a 168)), (2, .ref (a v2.toNat)), (3, .int (zI v3)), (5, .int (zI q9.1)), (6, .int (zI q9.2))] [] st) (fun x9 : Int => z_V κ z_T z_N a 0 0 139 [(3, .int (zI v3)), (5, .int (zI x9))] [] st) (fun q9 o9 hb k1 k2 => ?_) _ _ _ hlx6 ?_
  · exact w_X12_apart_b104 hc hap hv2 k1 k2 hb
  · show z_V κ z_T z_N a 0 0 139 [(3, .int (zI v3)), (5, .int (zI lx6))] [] st
    refine z_iload 1 hc dX12_apart_139 rfl ?_
    refine z_if_eq (tgt := 148) hc dX12_apart_141 (by decide) h (fun c141 h => ?_) (fun c141 h => ?_)
    · refine z_iconst hc dX12_apart_148 ?_
      refine z_sub [] [] rfl ?_
      exact w_X12_apart_149 hc hap he h
    · refine z_iload_n (i := 3) 0 hc dX12_apart_144 rfl rfl ?_
      refine z_goto (tgt := 149) hc dX12_apart_145 (by decide) ?_
      refine z_sub [] [] rfl ?_
      exact w_X12_apart_149 hc hap he h
def J_X12_apart_52 (v1 v2 s0 : Int) (st : z_St) : Option (Int × z_St) :=
  z_b (z_iter z_F (fun q9 : (Int × Int × z_St) => J_X12_apart_b61 v2 s0 q9.1 q9.2.1 q9.2.2) (v1, s0 - 1, st)) fun lx2 =>
    z_g (z32 s0) (if 0 < s0 then
      J_X12_apart_99 v2 s0 1 lx2
    else
      J_X12_apart_99 v2 s0 0 lx2)
set_option maxRecDepth 100000 in
set_option maxHeartbeats 4000000 in
theorem w_X12_apart_52 {κ : zK} {a : Nat → Nat} {v1 v2 s0 : Int} {st : z_St} {o : Int × z_St} (hc : z_C κ RX12 cX12_apart 7 10 0 0) (hap : z_AP κ a z_N) (hv2 : z_isArr v2 0 0 4) (he : z_E 0 κ (some .int) z_T z_N a o.1 o.2) (h : J_X12_apart_52 v1 v2 s0 st = some o) : z_V κ z_T z_N a 0 0 52 [(0, .ref (a 168)), (1, .int (zI v1)), (2, .ref (a v2.toNat))] [.int (zI s0)] st := by
  unfold J_X12_apart_52 at h
  refine z_istore_n (i := 3) [(3, .int (zI s0)), (0, .ref (a 168)), (1, .int (zI v1)), (2, .ref (a v2.toNat))] hc dX12_apart_52 rfl (by decide) rfl ?_
  refine z_iload_n (i := 1) 2 hc dX12_apart_53 rfl rfl ?_
  refine z_istore [(4, .int (zI v1)), (3, .int (zI s0)), (0, .ref (a 168)), (1, .int (zI v1)), (2, .ref (a v2.toNat))] hc dX12_apart_54 (by decide) rfl ?_
  refine z_iload_n (i := 3) 1 hc dX12_apart_56 rfl rfl ?_
  refine z_iconst hc dX12_apart_57 ?_
  refine z_isub hc dX12_apart_58 ?_
  refine z_istore [(5, .int (zI (s0 - 1))), (4, .int (zI v1)), (3, .int (zI s0)), (0, .ref (a 168)), (1, .int (zI v1)), (2, .ref (a v2.toNat))] hc dX12_apart_59 (by decide) rfl ?_
  obtain ⟨lx2, hlx2, h⟩ := z_b_some h
  refine z_sub [(0, .ref (a 168)), (2, .ref (a v2.toNat)), (3, .int (zI s0)), (4, .int (zI v1)), (5, .int (zI (s0 - 1)))] [3, 5, 2, 1, 0] rfl ?_
  refine z_loop (fun q9 : (Int × Int × z_St) => J_X12_apart_b61 v2 s0 q9.1 q9.2.1 q9.2.2) (fun q9 : (Int × Int × z_St) => z_V κ z_T z_N a 0 0 61 [(0, .ref (a 168)), (2, .ref (a v2.toNat)), (3, .int (zI s0)), (4, .int (zI q9.1)), (5, .int (zI q9.2.1))] [] q9.2.2) (fun x9 : z_St => z_V κ z_T z_N a 0 0 90 [(0, .ref (a 168)), (2, .ref (a v2.toNat)), (3, .int (zI s0))] [] x9) (fun q9 o9 hb k1 k2 => ?_) _ _ _ hlx2 ?_
  · exact w_X12_apart_b61 hc hap hv2 k1 k2 hb
  · show z_V κ z_T z_N a 0 0 90 [(0, .ref (a 168)), (2, .ref (a v2.toNat)), (3, .int (zI s0))] [] lx2
    refine z_iload_n (i := 3) 2 hc dX12_apart_90 rfl rfl ?_
    refine z_if_le (tgt := 98) hc dX12_apart_91 (by decide) h (fun c91 h => ?_) (fun c91 h => ?_)
    · refine z_iconst hc dX12_apart_94 ?_
      refine z_goto (tgt := 99) hc dX12_apart_95 (by decide) ?_
      refine z_sub [(0, .ref (a 168)), (2, .ref (a v2.toNat)), (3, .int (zI s0))] [0, 1, 2] rfl ?_
      exact w_X12_apart_99 hc hap hv2 he h
    · refine z_iconst hc dX12_apart_98 ?_
      refine z_sub [(0, .ref (a 168)), (2, .ref (a v2.toNat)), (3, .int (zI s0))] [0, 1, 2] rfl ?_
      exact w_X12_apart_99 hc hap hv2 he h
def J_X12_apart (x1 x2 : Int) (st : z_St) : Option (Int × z_St) :=
  z_g (z32 x1 ∧ z32 1) (if x1 < 1 then
    J_X12_apart_52 x1 x2 0 st
  else
    z_g (z32 x1 ∧ z32 10) (if x1 < 10 then
      J_X12_apart_52 x1 x2 1 st
    else
      z_g (z32 x1 ∧ z32 100) (if x1 < 100 then
        J_X12_apart_52 x1 x2 2 st
      else
        z_g (z32 x1 ∧ z32 1000) (if x1 < 1000 then
          J_X12_apart_52 x1 x2 3 st
        else
          z_g (z32 x1 ∧ z32 10000) (if x1 < 10000 then
            J_X12_apart_52 x1 x2 4 st
          else
            J_X12_apart_52 x1 x2 0 st)))))
set_option maxRecDepth 100000 in
set_option maxHeartbeats 4000000 in
theorem w_X12_apart {κ : zK} {a : Nat → Nat} {x1 x2 : Int} {st : z_St} {o : Int × z_St} (hc : z_C κ RX12 cX12_apart 7 10 0 0) (hap : z_AP κ a z_N) (hx2 : z_isArr x2 0 0 4) (he : z_E 0 κ (some .int) z_T z_N a o.1 o.2) (h : J_X12_apart x1 x2 st = some o) : z_V κ z_T z_N a 0 0 0 [(0, .ref (a 168)), (1, .int (zI x1)), (2, .ref (a x2.toNat))] [] st := by
  unfold J_X12_apart at h
  refine z_iload_n (i := 1) 1 hc dX12_apart_0 rfl rfl ?_
  refine z_iconst hc dX12_apart_1 ?_
  refine z_icmp_ge (tgt := 9) hc dX12_apart_2 (by decide) h (fun c2 h => ?_) (fun c2 h => ?_)
  · refine z_iconst hc dX12_apart_5 ?_
    refine z_goto (tgt := 52) hc dX12_apart_6 (by decide) ?_
    refine z_sub [(0, .ref (a 168)), (1, .int (zI x1)), (2, .ref (a x2.toNat))] [0, 1, 2] rfl ?_
    exact w_X12_apart_52 hc hap hx2 he h
  · refine z_iload_n (i := 1) 1 hc dX12_apart_9 rfl rfl ?_
    refine z_bipush hc dX12_apart_10 rfl ?_
    refine z_icmp_ge (tgt := 19) hc dX12_apart_12 (by decide) h (fun c12 h => ?_) (fun c12 h => ?_)
    · refine z_iconst hc dX12_apart_15 ?_
      refine z_goto (tgt := 52) hc dX12_apart_16 (by decide) ?_
      refine z_sub [(0, .ref (a 168)), (1, .int (zI x1)), (2, .ref (a x2.toNat))] [0, 1, 2] rfl ?_
      exact w_X12_apart_52 hc hap hx2 he h
    · refine z_iload_n (i := 1) 1 hc dX12_apart_19 rfl rfl ?_
      refine z_bipush hc dX12_apart_20 rfl ?_
      refine z_icmp_ge (tgt := 29) hc dX12_apart_22 (by decide) h (fun c22 h => ?_) (fun c22 h => ?_)
      · refine z_iconst hc dX12_apart_25 ?_
        refine z_goto (tgt := 52) hc dX12_apart_26 (by decide) ?_
        refine z_sub [(0, .ref (a 168)), (1, .int (zI x1)), (2, .ref (a x2.toNat))] [0, 1, 2] rfl ?_
        exact w_X12_apart_52 hc hap hx2 he h
      · refine z_iload_n (i := 1) 1 hc dX12_apart_29 rfl rfl ?_
        refine z_sipush hc dX12_apart_30 rfl ?_
        refine z_icmp_ge (tgt := 40) hc dX12_apart_33 (by decide) h (fun c33 h => ?_) (fun c33 h => ?_)
        · refine z_iconst hc dX12_apart_36 ?_
          refine z_goto (tgt := 52) hc dX12_apart_37 (by decide) ?_
          refine z_sub [(0, .ref (a 168)), (1, .int (zI x1)), (2, .ref (a x2.toNat))] [0, 1, 2] rfl ?_
          exact w_X12_apart_52 hc hap hx2 he h
        · refine z_iload_n (i := 1) 1 hc dX12_apart_40 rfl rfl ?_
          refine z_sipush hc dX12_apart_41 rfl ?_
          refine z_icmp_ge (tgt := 51) hc dX12_apart_44 (by decide) h (fun c44 h => ?_) (fun c44 h => ?_)
          · refine z_iconst hc dX12_apart_47 ?_
            refine z_goto (tgt := 52) hc dX12_apart_48 (by decide) ?_
            refine z_sub [(0, .ref (a 168)), (1, .int (zI x1)), (2, .ref (a x2.toNat))] [0, 1, 2] rfl ?_
            exact w_X12_apart_52 hc hap hx2 he h
          · refine z_iconst hc dX12_apart_51 ?_
            refine z_sub [(0, .ref (a 168)), (1, .int (zI x1)), (2, .ref (a x2.toNat))] [0, 1, 2] rfl ?_
            exact w_X12_apart_52 hc hap hx2 he h
set_option maxRecDepth 100000 in
set_option maxHeartbeats 4000000 in
theorem c_X12_apart {l : Launch} (hl : l.stackTraces = false) {a : Nat → Nat} {x1 x2 : Int} {st : z_St} {o : Int × z_St} (hx2 : z_isArr x2 0 0 4) (h : J_X12_apart x1 x2 st = some o) : z_M 0 l yX12_apart cX12_apart 7 (some .int) 10 z_T z_N a [.ref (a 168), .int (zI x1), .ref (a x2.toNat)] st o.1 o.2 := z_of hl (by decide +kernel) (Nat.le_of_ble_eq_true rfl) (fun κ hc hap he => w_X12_apart hc hap hx2 he h)
theorem dX12_tableOf_0 : decode cX12_tableOf 0 = .ok (.aload_n 0, 1) := by decide +kernel
theorem dX12_tableOf_1 : decode cX12_tableOf 1 = .ok (.getfield 63, 3) := by decide +kernel
theorem dX12_tableOf_4 : decode cX12_tableOf 4 = .ok (.aload_n 0, 1) := by decide +kernel
theorem dX12_tableOf_5 : decode cX12_tableOf 5 = .ok (.iload_n 1, 1) := by decide +kernel
theorem dX12_tableOf_6 : decode cX12_tableOf 6 = .ok (.iload_n 2, 1) := by decide +kernel
theorem dX12_tableOf_7 : decode cX12_tableOf 7 = .ok (.iload_n 3, 1) := by decide +kernel
theorem dX12_tableOf_8 : decode cX12_tableOf 8 = .ok (.invokevirtual 211, 3) := by decide +kernel
theorem dX12_tableOf_11 : decode cX12_tableOf 11 = .ok (.laload, 1) := by decide +kernel
theorem dX12_tableOf_12 : decode cX12_tableOf 12 = .ok (.lreturn, 1) := by decide +kernel
def J_X12_tableOf (x1 x2 x3 : Int) (st : z_St) : Option (Int) :=
  z_b (J_X12_span x1 x2 x3 st) fun r1 =>
  z_g (0 ≤ r1 ∧ r1 < 1445) <|
  some (st 184 r1)
set_option maxRecDepth 100000 in
set_option maxHeartbeats 4000000 in
theorem w_X12_tableOf {κ : zK} {a : Nat → Nat} {x1 x2 x3 : Int} {st : z_St} {o : Int} (hc : z_C κ RX12 cX12_tableOf 4 9 0 0) (hap : z_AP κ a z_N) (he : z_E 1 κ (some .long) z_T z_N a o st) (h : J_X12_tableOf x1 x2 x3 st = some o) : z_V κ z_T z_N a 0 0 0 [(0, .ref (a 168)), (1, .int (zI x1)), (2, .int (zI x2)), (3, .int (zI x3))] [] st := by
  unfold J_X12_tableOf at h
  refine z_aload_n (i := 0) 0 hc dX12_tableOf_0 rfl rfl ?_
  refine z_getA (k' := 184) hc fl_RX12_63 tT_168 (by decide) rfl rfl dX12_tableOf_1 ?_
  refine z_aload_n (i := 0) 0 hc dX12_tableOf_4 rfl rfl ?_
  refine z_iload_n (i := 1) 1 hc dX12_tableOf_5 rfl rfl ?_
  refine z_iload_n (i := 2) 2 hc dX12_tableOf_6 rfl rfl ?_
  refine z_iload_n (i := 3) 3 hc dX12_tableOf_7 rfl rfl ?_
  obtain ⟨r1, hr1, h⟩ := z_b_some h
  refine z_callVI [.int (zI x1), .int (zI x2), .int (zI x3)] hc hap o_X12_span ml_RX12_211 (fun l hl => c_X12_span hl  hr1) (by decide) tT_168 (by decide) ⟨_, rfl, rfl⟩ rfl rfl (Nat.le_of_ble_eq_true rfl) (Nat.zero_le _) (Nat.zero_le _) dX12_tableOf_8 ?_
  refine z_lald (kI := 184) (nI9 := 1445) hc tT_184 (by decide) rfl rfl (by decide) dX12_tableOf_11 h (fun g3 h => ?_)
  have h := Option.some.inj h
  subst h
  exact z_retJ hc he dX12_tableOf_12
set_option maxRecDepth 100000 in
set_option maxHeartbeats 4000000 in
theorem c_X12_tableOf {l : Launch} (hl : l.stackTraces = false) {a : Nat → Nat} {x1 x2 x3 : Int} {st : z_St} {o : Int} (h : J_X12_tableOf x1 x2 x3 st = some o) : z_M 1 l yX12_tableOf cX12_tableOf 4 (some .long) 9 z_T z_N a [.ref (a 168), .int (zI x1), .int (zI x2), .int (zI x3)] st o st := z_of hl (by decide +kernel) (Nat.le_of_ble_eq_true rfl) (fun κ hc hap he => w_X12_tableOf hc hap he h)
theorem dX12_lg_0 : decode cX12_lg 0 = .ok (.iconst 0, 1) := by decide +kernel
theorem dX12_lg_1 : decode cX12_lg 1 = .ok (.istore_n 2, 1) := by decide +kernel
theorem dX12_lg_2 : decode cX12_lg 2 = .ok (.iconst 1, 1) := by decide +kernel
theorem dX12_lg_3 : decode cX12_lg 3 = .ok (.istore_n 3, 1) := by decide +kernel
theorem dX12_lg_4 : decode cX12_lg 4 = .ok (.iload_n 3, 1) := by decide +kernel
theorem dX12_lg_5 : decode cX12_lg 5 = .ok (.iload_n 1, 1) := by decide +kernel
theorem dX12_lg_6 : decode cX12_lg 6 = .ok (.iconst 2, 1) := by decide +kernel
theorem dX12_lg_7 : decode cX12_lg 7 = .ok (.idiv, 1) := by decide +kernel
theorem dX12_lg_8 : decode cX12_lg 8 = .ok (.if_icmp .gt 13, 3) := by decide +kernel
theorem dX12_lg_11 : decode cX12_lg 11 = .ok (.iload_n 3, 1) := by decide +kernel
theorem dX12_lg_12 : decode cX12_lg 12 = .ok (.iconst 2, 1) := by decide +kernel
theorem dX12_lg_13 : decode cX12_lg 13 = .ok (.imul, 1) := by decide +kernel
theorem dX12_lg_14 : decode cX12_lg 14 = .ok (.istore_n 3, 1) := by decide +kernel
theorem dX12_lg_15 : decode cX12_lg 15 = .ok (.iinc 2 1, 3) := by decide +kernel
theorem dX12_lg_18 : decode cX12_lg 18 = .ok (.goto (-14), 3) := by decide +kernel
theorem dX12_lg_21 : decode cX12_lg 21 = .ok (.bipush 8, 2) := by decide +kernel
theorem dX12_lg_23 : decode cX12_lg 23 = .ok (.iload_n 2, 1) := by decide +kernel
theorem dX12_lg_24 : decode cX12_lg 24 = .ok (.imul, 1) := by decide +kernel
theorem dX12_lg_25 : decode cX12_lg 25 = .ok (.bipush 8, 2) := by decide +kernel
theorem dX12_lg_27 : decode cX12_lg 27 = .ok (.iload_n 1, 1) := by decide +kernel
theorem dX12_lg_28 : decode cX12_lg 28 = .ok (.imul, 1) := by decide +kernel
theorem dX12_lg_29 : decode cX12_lg 29 = .ok (.iload_n 3, 1) := by decide +kernel
theorem dX12_lg_30 : decode cX12_lg 30 = .ok (.idiv, 1) := by decide +kernel
theorem dX12_lg_31 : decode cX12_lg 31 = .ok (.iadd, 1) := by decide +kernel
theorem dX12_lg_32 : decode cX12_lg 32 = .ok (.bipush 8, 2) := by decide +kernel
theorem dX12_lg_34 : decode cX12_lg 34 = .ok (.isub, 1) := by decide +kernel
theorem dX12_lg_35 : decode cX12_lg 35 = .ok (.ireturn, 1) := by decide +kernel
def J_X12_lg_b4 (v1 v2 v3 : Int) (st : z_St) : Option ((Int × Int) ⊕ (Int × Int)) :=
  z_g (z32 v1 ∧ z32 2 ∧ (2 : Int) ≠ 0) <|
  z_g (z32 v3 ∧ z32 (v1.tdiv 2)) (if v1.tdiv 2 < v3 then
    some (.inr (v2, v3))
  else
    some (.inl (v2 + 1, v3 * 2)))
set_option maxRecDepth 100000 in
set_option maxHeartbeats 4000000 in
theorem w_X12_lg_b4 {κ : zK} {a : Nat → Nat} {v1 v2 v3 : Int} {st : z_St} {mc9 ms9 : Nat} {o : (Int × Int) ⊕ (Int × Int)} (hc : z_C κ RX12 cX12_lg 4 8 mc9 ms9) (hap : z_AP κ a z_N) (k1 : ∀ s9 : (Int × Int), o = .inl s9 → z_V κ z_T z_N a 0 0 4 [(1, .int (zI v1)), (2, .int (zI s9.1)), (3, .int (zI s9.2))] [] st) (k2 : ∀ x9 : (Int × Int), o = .inr x9 → z_V κ z_T z_N a 0 0 21 [(1, .int (zI v1)), (2, .int (zI x9.1)), (3, .int (zI x9.2))] [] st) (h : J_X12_lg_b4 v1 v2 v3 st = some o) : z_V κ z_T z_N a 0 0 4 [(1, .int (zI v1)), (2, .int (zI v2)), (3, .int (zI v3))] [] st := by
  unfold J_X12_lg_b4 at h
  refine z_iload_n (i := 3) 2 hc dX12_lg_4 rfl rfl ?_
  refine z_iload_n (i := 1) 0 hc dX12_lg_5 rfl rfl ?_
  refine z_iconst hc dX12_lg_6 ?_
  refine z_idiv hc dX12_lg_7 h (fun h => ?_)
  refine z_icmp_gt (tgt := 21) hc dX12_lg_8 (by decide) h (fun c8 h => ?_) (fun c8 h => ?_)
  · refine z_sub [(1, .int (zI v1)), (2, .int (zI v2)), (3, .int (zI v3))] [0, 1, 2] rfl ?_
    exact k2 (v2, v3) (Option.some.inj h).symm
  · refine z_iload_n (i := 3) 2 hc dX12_lg_11 rfl rfl ?_
    refine z_iconst hc dX12_lg_12 ?_
    refine z_imul hc dX12_lg_13 ?_
    refine z_istore_n (i := 3) [(3, .int (zI (v3 * 2))), (1, .int (zI v1)), (2, .int (zI v2))] hc dX12_lg_14 rfl (by decide) rfl ?_
    refine z_iinc [(2, .int (zI (v2 + 1))), (3, .int (zI (v3 * 2))), (1, .int (zI v1))] 2 hc dX12_lg_15 rfl (by decide) rfl ?_
    refine z_goto (tgt := 4) hc dX12_lg_18 (by decide) ?_
    refine z_sub [(1, .int (zI v1)), (2, .int (zI (v2 + 1))), (3, .int (zI (v3 * 2)))] [2, 0, 1] rfl ?_
    exact k1 _ (Option.some.inj h).symm
def J_X12_lg (x1 : Int) (st : z_St) : Option (Int) :=
  z_b (z_iter z_F (fun q9 : (Int × Int) => J_X12_lg_b4 x1 q9.1 q9.2 st) (0, 1)) fun lx1 =>
    z_g (z32 (8 * x1) ∧ z32 lx1.2 ∧ (lx1.2 : Int) ≠ 0) <|
    some (((8 * lx1.1) + ((8 * x1).tdiv lx1.2)) - 8)
set_option maxRecDepth 100000 in
set_option maxHeartbeats 4000000 in
theorem w_X12_lg {κ : zK} {a : Nat → Nat} {x1 : Int} {st : z_St} {o : Int} (hc : z_C κ RX12 cX12_lg 4 8 0 0) (hap : z_AP κ a z_N) (he : z_E 0 κ (some .int) z_T z_N a o st) (h : J_X12_lg x1 st = some o) : z_V κ z_T z_N a 0 0 0 [(0, .ref (a 168)), (1, .int (zI x1))] [] st := by
  unfold J_X12_lg at h
  refine z_iconst hc dX12_lg_0 ?_
  refine z_istore_n (i := 2) [(2, .int (zI 0)), (0, .ref (a 168)), (1, .int (zI x1))] hc dX12_lg_1 rfl (by decide) rfl ?_
  refine z_iconst hc dX12_lg_2 ?_
  refine z_istore_n (i := 3) [(3, .int (zI 1)), (2, .int (zI 0)), (0, .ref (a 168)), (1, .int (zI x1))] hc dX12_lg_3 rfl (by decide) rfl ?_
  obtain ⟨lx1, hlx1, h⟩ := z_b_some h
  refine z_sub [(1, .int (zI x1)), (2, .int (zI 0)), (3, .int (zI 1))] [3, 1, 0] rfl ?_
  refine z_loop (fun q9 : (Int × Int) => J_X12_lg_b4 x1 q9.1 q9.2 st) (fun q9 : (Int × Int) => z_V κ z_T z_N a 0 0 4 [(1, .int (zI x1)), (2, .int (zI q9.1)), (3, .int (zI q9.2))] [] st) (fun x9 : (Int × Int) => z_V κ z_T z_N a 0 0 21 [(1, .int (zI x1)), (2, .int (zI x9.1)), (3, .int (zI x9.2))] [] st) (fun q9 o9 hb k1 k2 => ?_) _ _ _ hlx1 ?_
  · exact w_X12_lg_b4 hc hap k1 k2 hb
  · show z_V κ z_T z_N a 0 0 21 [(1, .int (zI x1)), (2, .int (zI lx1.1)), (3, .int (zI lx1.2))] [] st
    refine z_bipush hc dX12_lg_21 rfl ?_
    refine z_iload_n (i := 2) 1 hc dX12_lg_23 rfl rfl ?_
    refine z_imul hc dX12_lg_24 ?_
    refine z_bipush hc dX12_lg_25 rfl ?_
    refine z_iload_n (i := 1) 0 hc dX12_lg_27 rfl rfl ?_
    refine z_imul hc dX12_lg_28 ?_
    refine z_iload_n (i := 3) 2 hc dX12_lg_29 rfl rfl ?_
    refine z_idiv hc dX12_lg_30 h (fun h => ?_)
    refine z_iadd hc dX12_lg_31 ?_
    refine z_bipush hc dX12_lg_32 rfl ?_
    refine z_isub hc dX12_lg_34 ?_
    have h := Option.some.inj h
    subst h
    exact z_retI hc he dX12_lg_35
set_option maxRecDepth 100000 in
set_option maxHeartbeats 4000000 in
theorem c_X12_lg {l : Launch} (hl : l.stackTraces = false) {a : Nat → Nat} {x1 : Int} {st : z_St} {o : Int} (h : J_X12_lg x1 st = some o) : z_M 0 l yX12_lg cX12_lg 4 (some .int) 8 z_T z_N a [.ref (a 168), .int (zI x1)] st o st := z_of hl (by decide +kernel) (Nat.le_of_ble_eq_true rfl) (fun κ hc hap he => w_X12_lg hc hap he h)
theorem dX12_priceOf_0 : decode cX12_priceOf 0 = .ok (.iconst 0, 1) := by decide +kernel
theorem dX12_priceOf_1 : decode cX12_priceOf 1 = .ok (.istore_n 3, 1) := by decide +kernel
theorem dX12_priceOf_2 : decode cX12_priceOf 2 = .ok (.iconst 0, 1) := by decide +kernel
theorem dX12_priceOf_3 : decode cX12_priceOf 3 = .ok (.istore 4, 2) := by decide +kernel
theorem dX12_priceOf_5 : decode cX12_priceOf 5 = .ok (.iconst 0, 1) := by decide +kernel
theorem dX12_priceOf_6 : decode cX12_priceOf 6 = .ok (.istore 5, 2) := by decide +kernel
theorem dX12_priceOf_8 : decode cX12_priceOf 8 = .ok (.iload 5, 2) := by decide +kernel
theorem dX12_priceOf_10 : decode cX12_priceOf 10 = .ok (.bipush 6, 2) := by decide +kernel
theorem dX12_priceOf_12 : decode cX12_priceOf 12 = .ok (.if_icmp .ge 41, 3) := by decide +kernel
theorem dX12_priceOf_15 : decode cX12_priceOf 15 = .ok (.iload_n 3, 1) := by decide +kernel
theorem dX12_priceOf_16 : decode cX12_priceOf 16 = .ok (.aload_n 0, 1) := by decide +kernel
theorem dX12_priceOf_17 : decode cX12_priceOf 17 = .ok (.getfield 49, 3) := by decide +kernel
theorem dX12_priceOf_20 : decode cX12_priceOf 20 = .ok (.bipush 6, 2) := by decide +kernel
theorem dX12_priceOf_22 : decode cX12_priceOf 22 = .ok (.iload_n 1, 1) := by decide +kernel
theorem dX12_priceOf_23 : decode cX12_priceOf 23 = .ok (.imul, 1) := by decide +kernel
theorem dX12_priceOf_24 : decode cX12_priceOf 24 = .ok (.iload 5, 2) := by decide +kernel
theorem dX12_priceOf_26 : decode cX12_priceOf 26 = .ok (.iadd, 1) := by decide +kernel
theorem dX12_priceOf_27 : decode cX12_priceOf 27 = .ok (.iaload, 1) := by decide +kernel
theorem dX12_priceOf_28 : decode cX12_priceOf 28 = .ok (.iadd, 1) := by decide +kernel
theorem dX12_priceOf_29 : decode cX12_priceOf 29 = .ok (.istore_n 3, 1) := by decide +kernel
theorem dX12_priceOf_30 : decode cX12_priceOf 30 = .ok (.iload 4, 2) := by decide +kernel
theorem dX12_priceOf_32 : decode cX12_priceOf 32 = .ok (.aload_n 0, 1) := by decide +kernel
theorem dX12_priceOf_33 : decode cX12_priceOf 33 = .ok (.getfield 49, 3) := by decide +kernel
theorem dX12_priceOf_36 : decode cX12_priceOf 36 = .ok (.bipush 6, 2) := by decide +kernel
theorem dX12_priceOf_38 : decode cX12_priceOf 38 = .ok (.iload 5, 2) := by decide +kernel
theorem dX12_priceOf_40 : decode cX12_priceOf 40 = .ok (.imul, 1) := by decide +kernel
theorem dX12_priceOf_41 : decode cX12_priceOf 41 = .ok (.iload_n 2, 1) := by decide +kernel
theorem dX12_priceOf_42 : decode cX12_priceOf 42 = .ok (.iadd, 1) := by decide +kernel
theorem dX12_priceOf_43 : decode cX12_priceOf 43 = .ok (.iaload, 1) := by decide +kernel
theorem dX12_priceOf_44 : decode cX12_priceOf 44 = .ok (.iadd, 1) := by decide +kernel
theorem dX12_priceOf_45 : decode cX12_priceOf 45 = .ok (.istore 4, 2) := by decide +kernel
theorem dX12_priceOf_47 : decode cX12_priceOf 47 = .ok (.iinc 5 1, 3) := by decide +kernel
theorem dX12_priceOf_50 : decode cX12_priceOf 50 = .ok (.goto (-42), 3) := by decide +kernel
theorem dX12_priceOf_53 : decode cX12_priceOf 53 = .ok (.aload_n 0, 1) := by decide +kernel
theorem dX12_priceOf_54 : decode cX12_priceOf 54 = .ok (.getfield 49, 3) := by decide +kernel
theorem dX12_priceOf_57 : decode cX12_priceOf 57 = .ok (.bipush 6, 2) := by decide +kernel
theorem dX12_priceOf_59 : decode cX12_priceOf 59 = .ok (.iload_n 1, 1) := by decide +kernel
theorem dX12_priceOf_60 : decode cX12_priceOf 60 = .ok (.imul, 1) := by decide +kernel
theorem dX12_priceOf_61 : decode cX12_priceOf 61 = .ok (.iload_n 2, 1) := by decide +kernel
theorem dX12_priceOf_62 : decode cX12_priceOf 62 = .ok (.iadd, 1) := by decide +kernel
theorem dX12_priceOf_63 : decode cX12_priceOf 63 = .ok (.iaload, 1) := by decide +kernel
theorem dX12_priceOf_64 : decode cX12_priceOf 64 = .ok (.istore 5, 2) := by decide +kernel
theorem dX12_priceOf_66 : decode cX12_priceOf 66 = .ok (.iload 5, 2) := by decide +kernel
theorem dX12_priceOf_68 : decode cX12_priceOf 68 = .ok (.ifCond .le 23, 3) := by decide +kernel
theorem dX12_priceOf_71 : decode cX12_priceOf 71 = .ok (.ldc2_w 240, 3) := by decide +kernel
theorem dX12_priceOf_74 : decode cX12_priceOf 74 = .ok (.aload_n 0, 1) := by decide +kernel
theorem dX12_priceOf_75 : decode cX12_priceOf 75 = .ok (.iload_n 3, 1) := by decide +kernel
theorem dX12_priceOf_76 : decode cX12_priceOf 76 = .ok (.invokevirtual 242, 3) := by decide +kernel
theorem dX12_priceOf_79 : decode cX12_priceOf 79 = .ok (.aload_n 0, 1) := by decide +kernel
theorem dX12_priceOf_80 : decode cX12_priceOf 80 = .ok (.iload 5, 2) := by decide +kernel
theorem dX12_priceOf_82 : decode cX12_priceOf 82 = .ok (.invokevirtual 242, 3) := by decide +kernel
theorem dX12_priceOf_85 : decode cX12_priceOf 85 = .ok (.isub, 1) := by decide +kernel
theorem dX12_priceOf_86 : decode cX12_priceOf 86 = .ok (.i2l, 1) := by decide +kernel
theorem dX12_priceOf_87 : decode cX12_priceOf 87 = .ok (.lmul, 1) := by decide +kernel
theorem dX12_priceOf_88 : decode cX12_priceOf 88 = .ok (.goto 34, 3) := by decide +kernel
theorem dX12_priceOf_91 : decode cX12_priceOf 91 = .ok (.aload_n 0, 1) := by decide +kernel
theorem dX12_priceOf_92 : decode cX12_priceOf 92 = .ok (.getfield 52, 3) := by decide +kernel
theorem dX12_priceOf_95 : decode cX12_priceOf 95 = .ok (.i2l, 1) := by decide +kernel
theorem dX12_priceOf_96 : decode cX12_priceOf 96 = .ok (.ldc2_w 240, 3) := by decide +kernel
theorem dX12_priceOf_99 : decode cX12_priceOf 99 = .ok (.aload_n 0, 1) := by decide +kernel
theorem dX12_priceOf_100 : decode cX12_priceOf 100 = .ok (.aload_n 0, 1) := by decide +kernel
theorem dX12_priceOf_101 : decode cX12_priceOf 101 = .ok (.getfield 228, 3) := by decide +kernel
theorem dX12_priceOf_104 : decode cX12_priceOf 104 = .ok (.bipush 6, 2) := by decide +kernel
theorem dX12_priceOf_106 : decode cX12_priceOf 106 = .ok (.iadd, 1) := by decide +kernel
theorem dX12_priceOf_107 : decode cX12_priceOf 107 = .ok (.invokevirtual 242, 3) := by decide +kernel
theorem dX12_priceOf_110 : decode cX12_priceOf 110 = .ok (.aload_n 0, 1) := by decide +kernel
theorem dX12_priceOf_111 : decode cX12_priceOf 111 = .ok (.iload 4, 2) := by decide +kernel
theorem dX12_priceOf_113 : decode cX12_priceOf 113 = .ok (.iconst 1, 1) := by decide +kernel
theorem dX12_priceOf_114 : decode cX12_priceOf 114 = .ok (.iadd, 1) := by decide +kernel
theorem dX12_priceOf_115 : decode cX12_priceOf 115 = .ok (.invokevirtual 242, 3) := by decide +kernel
theorem dX12_priceOf_118 : decode cX12_priceOf 118 = .ok (.isub, 1) := by decide +kernel
theorem dX12_priceOf_119 : decode cX12_priceOf 119 = .ok (.i2l, 1) := by decide +kernel
theorem dX12_priceOf_120 : decode cX12_priceOf 120 = .ok (.lmul, 1) := by decide +kernel
theorem dX12_priceOf_121 : decode cX12_priceOf 121 = .ok (.ladd, 1) := by decide +kernel
theorem dX12_priceOf_122 : decode cX12_priceOf 122 = .ok (.lreturn, 1) := by decide +kernel
def J_X12_priceOf_b8 (v1 v2 v3 v4 v5 : Int) (st : z_St) : Option ((Int × Int × Int) ⊕ (Int × Int)) :=
  z_g (z32 v5 ∧ z32 6) (if v5 < 6 then
    z_g (0 ≤ (6 * v1) + v5 ∧ (6 * v1) + v5 < 36) <|
    z_g (0 ≤ (6 * v5) + v2 ∧ (6 * v5) + v2 < 36) <|
    some (.inl (v3 + (st 182 ((6 * v1) + v5)), v4 + (st 182 ((6 * v5) + v2)), v5 + 1))
  else
    some (.inr (v3, v4)))
set_option maxRecDepth 100000 in
set_option maxHeartbeats 4000000 in
theorem w_X12_priceOf_b8 {κ : zK} {a : Nat → Nat} {v1 v2 v3 v4 v5 : Int} {st : z_St} {mc9 ms9 : Nat} {o : (Int × Int × Int) ⊕ (Int × Int)} (hc : z_C κ RX12 cX12_priceOf 6 9 mc9 ms9) (hap : z_AP κ a z_N) (k1 : ∀ s9 : (Int × Int × Int), o = .inl s9 → z_V κ z_T z_N a 0 0 8 [(0, .ref (a 168)), (1, .int (zI v1)), (2, .int (zI v2)), (3, .int (zI s9.1)), (4, .int (zI s9.2.1)), (5, .int (zI s9.2.2))] [] st) (k2 : ∀ x9 : (Int × Int), o = .inr x9 → z_V κ z_T z_N a 0 0 53 [(0, .ref (a 168)), (1, .int (zI v1)), (2, .int (zI v2)), (3, .int (zI x9.1)), (4, .int (zI x9.2))] [] st) (h : J_X12_priceOf_b8 v1 v2 v3 v4 v5 st = some o) : z_V κ z_T z_N a 0 0 8 [(0, .ref (a 168)), (1, .int (zI v1)), (2, .int (zI v2)), (3, .int (zI v3)), (4, .int (zI v4)), (5, .int (zI v5))] [] st := by
  unfold J_X12_priceOf_b8 at h
  refine z_iload 5 hc dX12_priceOf_8 rfl ?_
  refine z_bipush hc dX12_priceOf_10 rfl ?_
  refine z_icmp_ge (tgt := 53) hc dX12_priceOf_12 (by decide) h (fun c12 h => ?_) (fun c12 h => ?_)
  · refine z_iload_n (i := 3) 3 hc dX12_priceOf_15 rfl rfl ?_
    refine z_aload_n (i := 0) 0 hc dX12_priceOf_16 rfl rfl ?_
    refine z_getA (k' := 182) hc fl_RX12_49 tT_168 (by decide) rfl rfl dX12_priceOf_17 ?_
    refine z_bipush hc dX12_priceOf_20 rfl ?_
    refine z_iload_n (i := 1) 1 hc dX12_priceOf_22 rfl rfl ?_
    refine z_imul hc dX12_priceOf_23 ?_
    refine z_iload 5 hc dX12_priceOf_24 rfl ?_
    refine z_iadd hc dX12_priceOf_26 ?_
    refine z_iald (kI := 182) (nI9 := 36) hc tT_182 (by decide) rfl rfl (by decide) dX12_priceOf_27 h (fun g1 h => ?_)
    refine z_iadd hc dX12_priceOf_28 ?_
    refine z_istore_n (i := 3) [(3, .int (zI (v3 + (st 182 ((6 * v1) + v5))))), (0, .ref (a 168)), (1, .int (zI v1)), (2, .int (zI v2)), (4, .int (zI v4)), (5, .int (zI v5))] hc dX12_priceOf_29 rfl (by decide) rfl ?_
    refine z_iload 4 hc dX12_priceOf_30 rfl ?_
    refine z_aload_n (i := 0) 1 hc dX12_priceOf_32 rfl rfl ?_
    refine z_getA (k' := 182) hc fl_RX12_49 tT_168 (by decide) rfl rfl dX12_priceOf_33 ?_
    refine z_bipush hc dX12_priceOf_36 rfl ?_
    refine z_iload 5 hc dX12_priceOf_38 rfl ?_
    refine z_imul hc dX12_priceOf_40 ?_
    refine z_iload_n (i := 2) 3 hc dX12_priceOf_41 rfl rfl ?_
    refine z_iadd hc dX12_priceOf_42 ?_
    refine z_iald (kI := 182) (nI9 := 36) hc tT_182 (by decide) rfl rfl (by decide) dX12_priceOf_43 h (fun g2 h => ?_)
    refine z_iadd hc dX12_priceOf_44 ?_
    refine z_istore [(4, .int (zI (v4 + (st 182 ((6 * v5) + v2))))), (3, .int (zI (v3 + (st 182 ((6 * v1) + v5))))), (0, .ref (a 168)), (1, .int (zI v1)), (2, .int (zI v2)), (5, .int (zI v5))] hc dX12_priceOf_45 (by decide) rfl ?_
    refine z_iinc [(5, .int (zI (v5 + 1))), (4, .int (zI (v4 + (st 182 ((6 * v5) + v2))))), (3, .int (zI (v3 + (st 182 ((6 * v1) + v5))))), (0, .ref (a 168)), (1, .int (zI v1)), (2, .int (zI v2))] 5 hc dX12_priceOf_47 rfl (by decide) rfl ?_
    refine z_goto (tgt := 8) hc dX12_priceOf_50 (by decide) ?_
    refine z_sub [(0, .ref (a 168)), (1, .int (zI v1)), (2, .int (zI v2)), (3, .int (zI (v3 + (st 182 ((6 * v1) + v5))))), (4, .int (zI (v4 + (st 182 ((6 * v5) + v2))))), (5, .int (zI (v5 + 1)))] [3, 4, 5, 2, 1, 0] rfl ?_
    exact k1 _ (Option.some.inj h).symm
  · refine z_sub [(0, .ref (a 168)), (1, .int (zI v1)), (2, .int (zI v2)), (3, .int (zI v3)), (4, .int (zI v4))] [0, 1, 2, 3, 4] rfl ?_
    exact k2 (v3, v4) (Option.some.inj h).symm
def J_X12_priceOf_122 (s0 : Int) (st : z_St) : Option (Int) :=
  some s0
set_option maxRecDepth 100000 in
set_option maxHeartbeats 4000000 in
theorem w_X12_priceOf_122 {κ : zK} {a : Nat → Nat} {s0 : Int} {st : z_St} {o : Int} (hc : z_C κ RX12 cX12_priceOf 6 9 0 0) (hap : z_AP κ a z_N) (he : z_E 1 κ (some .long) z_T z_N a o st) (h : J_X12_priceOf_122 s0 st = some o) : z_V κ z_T z_N a 0 0 122 [] [.long (zJ s0)] st := by
  unfold J_X12_priceOf_122 at h
  have h := Option.some.inj h
  subst h
  exact z_retJ hc he dX12_priceOf_122
def J_X12_priceOf (x1 x2 : Int) (st : z_St) : Option (Int) :=
  z_b (z_iter z_F (fun q9 : (Int × Int × Int) => J_X12_priceOf_b8 x1 x2 q9.1 q9.2.1 q9.2.2 st) (0, 0, 0)) fun lx3 =>
    z_g (0 ≤ (6 * x1) + x2 ∧ (6 * x1) + x2 < 36) <|
    z_g (z32 (st 182 ((6 * x1) + x2))) (if 0 < st 182 ((6 * x1) + x2) then
      z_b (J_X12_lg lx3.1 st) fun r5 =>
      z_b (J_X12_lg (st 182 ((6 * x1) + x2)) st) fun r7 =>
      z_g (z32 (r5 - r7)) <|
      J_X12_priceOf_122 (100 * (r5 - r7)) st
    else
      z_g (z32 (st 168 21)) <|
      z_b (J_X12_lg ((st 168 20) + 6) st) fun r9 =>
      z_b (J_X12_lg (lx3.2 + 1) st) fun r11 =>
      z_g (z32 (r9 - r11)) <|
      J_X12_priceOf_122 ((st 168 21) + (100 * (r9 - r11))) st)
set_option maxRecDepth 100000 in
set_option maxHeartbeats 4000000 in
theorem w_X12_priceOf {κ : zK} {a : Nat → Nat} {x1 x2 : Int} {st : z_St} {o : Int} (hc : z_C κ RX12 cX12_priceOf 6 9 0 0) (hap : z_AP κ a z_N) (he : z_E 1 κ (some .long) z_T z_N a o st) (h : J_X12_priceOf x1 x2 st = some o) : z_V κ z_T z_N a 0 0 0 [(0, .ref (a 168)), (1, .int (zI x1)), (2, .int (zI x2))] [] st := by
  unfold J_X12_priceOf at h
  refine z_iconst hc dX12_priceOf_0 ?_
  refine z_istore_n (i := 3) [(3, .int (zI 0)), (0, .ref (a 168)), (1, .int (zI x1)), (2, .int (zI x2))] hc dX12_priceOf_1 rfl (by decide) rfl ?_
  refine z_iconst hc dX12_priceOf_2 ?_
  refine z_istore [(4, .int (zI 0)), (3, .int (zI 0)), (0, .ref (a 168)), (1, .int (zI x1)), (2, .int (zI x2))] hc dX12_priceOf_3 (by decide) rfl ?_
  refine z_iconst hc dX12_priceOf_5 ?_
  refine z_istore [(5, .int (zI 0)), (4, .int (zI 0)), (3, .int (zI 0)), (0, .ref (a 168)), (1, .int (zI x1)), (2, .int (zI x2))] hc dX12_priceOf_6 (by decide) rfl ?_
  obtain ⟨lx3, hlx3, h⟩ := z_b_some h
  refine z_sub [(0, .ref (a 168)), (1, .int (zI x1)), (2, .int (zI x2)), (3, .int (zI 0)), (4, .int (zI 0)), (5, .int (zI 0))] [3, 4, 5, 2, 1, 0] rfl ?_
  refine z_loop (fun q9 : (Int × Int × Int) => J_X12_priceOf_b8 x1 x2 q9.1 q9.2.1 q9.2.2 st) (fun q9 : (Int × Int × Int) => z_V κ z_T z_N a 0 0 8 [(0, .ref (a 168)), (1, .int (zI x1)), (2, .int (zI x2)), (3, .int (zI q9.1)), (4, .int (zI q9.2.1)), (5, .int (zI q9.2.2))] [] st) (fun x9 : (Int × Int) => z_V κ z_T z_N a 0 0 53 [(0, .ref (a 168)), (1, .int (zI x1)), (2, .int (zI x2)), (3, .int (zI x9.1)), (4, .int (zI x9.2))] [] st) (fun q9 o9 hb k1 k2 => ?_) _ _ _ hlx3 ?_
  · exact w_X12_priceOf_b8 hc hap k1 k2 hb
  · show z_V κ z_T z_N a 0 0 53 [(0, .ref (a 168)), (1, .int (zI x1)), (2, .int (zI x2)), (3, .int (zI lx3.1)), (4, .int (zI lx3.2))] [] st
    refine z_aload_n (i := 0) 0 hc dX12_priceOf_53 rfl rfl ?_
    refine z_getA (k' := 182) hc fl_RX12_49 tT_168 (by decide) rfl rfl dX12_priceOf_54 ?_
    refine z_bipush hc dX12_priceOf_57 rfl ?_
    refine z_iload_n (i := 1) 1 hc dX12_priceOf_59 rfl rfl ?_
    refine z_imul hc dX12_priceOf_60 ?_
    refine z_iload_n (i := 2) 2 hc dX12_priceOf_61 rfl rfl ?_
    refine z_iadd hc dX12_priceOf_62 ?_
    refine z_iald (kI := 182) (nI9 := 36) hc tT_182 (by decide) rfl rfl (by decide) dX12_priceOf_63 h (fun g4 h => ?_)
    refine z_istore [(5, .int (zI (st 182 ((6 * x1) + x2)))), (0, .ref (a 168)), (1, .int (zI x1)), (2, .int (zI x2)), (3, .int (zI lx3.1)), (4, .int (zI lx3.2))] hc dX12_priceOf_64 (by decide) rfl ?_
    refine z_iload 0 hc dX12_priceOf_66 rfl ?_
    refine z_if_le (tgt := 91) hc dX12_priceOf_68 (by decide) h (fun c68 h => ?_) (fun c68 h => ?_)
    · refine z_ldc2 100 hc kc_RX12_240 dX12_priceOf_71 rfl ?_
      refine z_aload_n (i := 0) 1 hc dX12_priceOf_74 rfl rfl ?_
      refine z_iload_n (i := 3) 4 hc dX12_priceOf_75 rfl rfl ?_
      obtain ⟨r5, hr5, h⟩ := z_b_some h
      refine z_callVI [.int (zI lx3.1)] hc hap o_X12_lg ml_RX12_242 (fun l hl => c_X12_lg hl  hr5) (by decide) tT_168 (by decide) ⟨_, rfl, rfl⟩ rfl rfl (Nat.le_of_ble_eq_true rfl) (Nat.zero_le _) (Nat.zero_le _) dX12_priceOf_76 ?_
      refine z_aload_n (i := 0) 1 hc dX12_priceOf_79 rfl rfl ?_
      refine z_iload 0 hc dX12_priceOf_80 rfl ?_
      obtain ⟨r7, hr7, h⟩ := z_b_some h
      refine z_callVI [.int (zI (st 182 ((6 * x1) + x2)))] hc hap o_X12_lg ml_RX12_242 (fun l hl => c_X12_lg hl  hr7) (by decide) tT_168 (by decide) ⟨_, rfl, rfl⟩ rfl rfl (Nat.le_of_ble_eq_true rfl) (Nat.zero_le _) (Nat.zero_le _) dX12_priceOf_82 ?_
      refine z_isub hc dX12_priceOf_85 ?_
      refine z_i2l hc dX12_priceOf_86 h (fun h => ?_)
      refine z_lmul hc dX12_priceOf_87 ?_
      refine z_goto (tgt := 122) hc dX12_priceOf_88 (by decide) ?_
      refine z_sub [] [] rfl ?_
      exact w_X12_priceOf_122 hc hap he h
    · refine z_aload_n (i := 0) 1 hc dX12_priceOf_91 rfl rfl ?_
      refine z_getI (kI := 168) (jI := 21) hc fl_RX12_52 tT_168 (by decide) rfl rfl rfl dX12_priceOf_92 ?_
      refine z_i2l hc dX12_priceOf_95 h (fun h => ?_)
      refine z_ldc2 100 hc kc_RX12_240 dX12_priceOf_96 rfl ?_
      refine z_aload_n (i := 0) 1 hc dX12_priceOf_99 rfl rfl ?_
      refine z_aload_n (i := 0) 1 hc dX12_priceOf_100 rfl rfl ?_
      refine z_getI (kI := 168) (jI := 20) hc fl_RX12_228 tT_168 (by decide) rfl rfl rfl dX12_priceOf_101 ?_
      refine z_bipush hc dX12_priceOf_104 rfl ?_
      refine z_iadd hc dX12_priceOf_106 ?_
      obtain ⟨r9, hr9, h⟩ := z_b_some h
      refine z_callVI [.int (zI ((st 168 20) + 6))] hc hap o_X12_lg ml_RX12_242 (fun l hl => c_X12_lg hl  hr9) (by decide) tT_168 (by decide) ⟨_, rfl, rfl⟩ rfl rfl (Nat.le_of_ble_eq_true rfl) (Nat.zero_le _) (Nat.zero_le _) dX12_priceOf_107 ?_
      refine z_aload_n (i := 0) 1 hc dX12_priceOf_110 rfl rfl ?_
      refine z_iload 5 hc dX12_priceOf_111 rfl ?_
      refine z_iconst hc dX12_priceOf_113 ?_
      refine z_iadd hc dX12_priceOf_114 ?_
      obtain ⟨r11, hr11, h⟩ := z_b_some h
      refine z_callVI [.int (zI (lx3.2 + 1))] hc hap o_X12_lg ml_RX12_242 (fun l hl => c_X12_lg hl  hr11) (by decide) tT_168 (by decide) ⟨_, rfl, rfl⟩ rfl rfl (Nat.le_of_ble_eq_true rfl) (Nat.zero_le _) (Nat.zero_le _) dX12_priceOf_115 ?_
      refine z_isub hc dX12_priceOf_118 ?_
      refine z_i2l hc dX12_priceOf_119 h (fun h => ?_)
      refine z_lmul hc dX12_priceOf_120 ?_
      refine z_ladd hc dX12_priceOf_121 ?_
      refine z_sub [] [] rfl ?_
      exact w_X12_priceOf_122 hc hap he h
set_option maxRecDepth 100000 in
set_option maxHeartbeats 4000000 in
theorem c_X12_priceOf {l : Launch} (hl : l.stackTraces = false) {a : Nat → Nat} {x1 x2 : Int} {st : z_St} {o : Int} (h : J_X12_priceOf x1 x2 st = some o) : z_M 1 l yX12_priceOf cX12_priceOf 6 (some .long) 9 z_T z_N a [.ref (a 168), .int (zI x1), .int (zI x2)] st o st := z_of hl (by decide +kernel) (Nat.le_of_ble_eq_true rfl) (fun κ hc hap he => w_X12_priceOf hc hap he h)
theorem dX12_dear_0 : decode cX12_dear 0 = .ok (.aload_n 0, 1) := by decide +kernel
theorem dX12_dear_1 : decode cX12_dear 1 = .ok (.getfield 56, 3) := by decide +kernel
theorem dX12_dear_4 : decode cX12_dear 4 = .ok (.i2l, 1) := by decide +kernel
theorem dX12_dear_5 : decode cX12_dear 5 = .ok (.aload_n 0, 1) := by decide +kernel
theorem dX12_dear_6 : decode cX12_dear 6 = .ok (.iload_n 1, 1) := by decide +kernel
theorem dX12_dear_7 : decode cX12_dear 7 = .ok (.iload_n 2, 1) := by decide +kernel
theorem dX12_dear_8 : decode cX12_dear 8 = .ok (.invokevirtual 249, 3) := by decide +kernel
theorem dX12_dear_11 : decode cX12_dear 11 = .ok (.lmul, 1) := by decide +kernel
theorem dX12_dear_12 : decode cX12_dear 12 = .ok (.lreturn, 1) := by decide +kernel
def J_X12_dear (x1 x2 : Int) (st : z_St) : Option (Int) :=
  z_g (z32 (st 168 22)) <|
  z_b (J_X12_priceOf x1 x2 st) fun r1 =>
  some ((st 168 22) * r1)
set_option maxRecDepth 100000 in
set_option maxHeartbeats 4000000 in
theorem w_X12_dear {κ : zK} {a : Nat → Nat} {x1 x2 : Int} {st : z_St} {o : Int} (hc : z_C κ RX12 cX12_dear 3 10 0 0) (hap : z_AP κ a z_N) (he : z_E 1 κ (some .long) z_T z_N a o st) (h : J_X12_dear x1 x2 st = some o) : z_V κ z_T z_N a 0 0 0 [(0, .ref (a 168)), (1, .int (zI x1)), (2, .int (zI x2))] [] st := by
  unfold J_X12_dear at h
  refine z_aload_n (i := 0) 0 hc dX12_dear_0 rfl rfl ?_
  refine z_getI (kI := 168) (jI := 22) hc fl_RX12_56 tT_168 (by decide) rfl rfl rfl dX12_dear_1 ?_
  refine z_i2l hc dX12_dear_4 h (fun h => ?_)
  refine z_aload_n (i := 0) 0 hc dX12_dear_5 rfl rfl ?_
  refine z_iload_n (i := 1) 1 hc dX12_dear_6 rfl rfl ?_
  refine z_iload_n (i := 2) 2 hc dX12_dear_7 rfl rfl ?_
  obtain ⟨r1, hr1, h⟩ := z_b_some h
  refine z_callVJ [.int (zI x1), .int (zI x2)] hc hap o_X12_priceOf ml_RX12_249 (fun l hl => c_X12_priceOf hl  hr1) (by decide) tT_168 (by decide) ⟨_, rfl, rfl⟩ rfl rfl (Nat.le_of_ble_eq_true rfl) (Nat.zero_le _) (Nat.zero_le _) dX12_dear_8 ?_
  refine z_lmul hc dX12_dear_11 ?_
  have h := Option.some.inj h
  subst h
  exact z_retJ hc he dX12_dear_12
set_option maxRecDepth 100000 in
set_option maxHeartbeats 4000000 in
theorem c_X12_dear {l : Launch} (hl : l.stackTraces = false) {a : Nat → Nat} {x1 x2 : Int} {st : z_St} {o : Int} (h : J_X12_dear x1 x2 st = some o) : z_M 1 l yX12_dear cX12_dear 3 (some .long) 10 z_T z_N a [.ref (a 168), .int (zI x1), .int (zI x2)] st o st := z_of hl (by decide +kernel) (Nat.le_of_ble_eq_true rfl) (fun κ hc hap he => w_X12_dear hc hap he h)
theorem dX12_weightOf_0 : decode cX12_weightOf 0 = .ok (.iconst 0, 1) := by decide +kernel
theorem dX12_weightOf_1 : decode cX12_weightOf 1 = .ok (.istore_n 2, 1) := by decide +kernel
theorem dX12_weightOf_2 : decode cX12_weightOf 2 = .ok (.iload_n 2, 1) := by decide +kernel
theorem dX12_weightOf_3 : decode cX12_weightOf 3 = .ok (.iload_n 1, 1) := by decide +kernel
theorem dX12_weightOf_4 : decode cX12_weightOf 4 = .ok (.if_icmp .gt 153, 3) := by decide +kernel
theorem dX12_weightOf_7 : decode cX12_weightOf 7 = .ok (.iconst 0, 1) := by decide +kernel
theorem dX12_weightOf_8 : decode cX12_weightOf 8 = .ok (.istore_n 3, 1) := by decide +kernel
theorem dX12_weightOf_9 : decode cX12_weightOf 9 = .ok (.iload_n 3, 1) := by decide +kernel
theorem dX12_weightOf_10 : decode cX12_weightOf 10 = .ok (.aload_n 0, 1) := by decide +kernel
theorem dX12_weightOf_11 : decode cX12_weightOf 11 = .ok (.getfield 128, 3) := by decide +kernel
theorem dX12_weightOf_14 : decode cX12_weightOf 14 = .ok (.if_icmp .gt 137, 3) := by decide +kernel
theorem dX12_weightOf_17 : decode cX12_weightOf 17 = .ok (.iload_n 2, 1) := by decide +kernel
theorem dX12_weightOf_18 : decode cX12_weightOf 18 = .ok (.ifCond .ne 11, 3) := by decide +kernel
theorem dX12_weightOf_21 : decode cX12_weightOf 21 = .ok (.iload_n 3, 1) := by decide +kernel
theorem dX12_weightOf_22 : decode cX12_weightOf 22 = .ok (.ifCond .ne 7, 3) := by decide +kernel
theorem dX12_weightOf_25 : decode cX12_weightOf 25 = .ok (.lconst 0, 1) := by decide +kernel
theorem dX12_weightOf_26 : decode cX12_weightOf 26 = .ok (.goto 6, 3) := by decide +kernel
theorem dX12_weightOf_29 : decode cX12_weightOf 29 = .ok (.ldc2_w 205, 3) := by decide +kernel
theorem dX12_weightOf_32 : decode cX12_weightOf 32 = .ok (.lstore 4, 2) := by decide +kernel
theorem dX12_weightOf_34 : decode cX12_weightOf 34 = .ok (.iconst 0, 1) := by decide +kernel
theorem dX12_weightOf_35 : decode cX12_weightOf 35 = .ok (.istore 6, 2) := by decide +kernel
theorem dX12_weightOf_37 : decode cX12_weightOf 37 = .ok (.iload 6, 2) := by decide +kernel
theorem dX12_weightOf_39 : decode cX12_weightOf 39 = .ok (.iload_n 3, 1) := by decide +kernel
theorem dX12_weightOf_40 : decode cX12_weightOf 40 = .ok (.if_icmp .ge 77, 3) := by decide +kernel
theorem dX12_weightOf_43 : decode cX12_weightOf 43 = .ok (.iload_n 2, 1) := by decide +kernel
theorem dX12_weightOf_44 : decode cX12_weightOf 44 = .ok (.ifCond .le 73, 3) := by decide +kernel
theorem dX12_weightOf_47 : decode cX12_weightOf 47 = .ok (.aload_n 0, 1) := by decide +kernel
theorem dX12_weightOf_48 : decode cX12_weightOf 48 = .ok (.getfield 75, 3) := by decide +kernel
theorem dX12_weightOf_51 : decode cX12_weightOf 51 = .ok (.bipush 17, 2) := by decide +kernel
theorem dX12_weightOf_53 : decode cX12_weightOf 53 = .ok (.iload_n 2, 1) := by decide +kernel
theorem dX12_weightOf_54 : decode cX12_weightOf 54 = .ok (.iconst 1, 1) := by decide +kernel
theorem dX12_weightOf_55 : decode cX12_weightOf 55 = .ok (.isub, 1) := by decide +kernel
theorem dX12_weightOf_56 : decode cX12_weightOf 56 = .ok (.imul, 1) := by decide +kernel
theorem dX12_weightOf_57 : decode cX12_weightOf 57 = .ok (.iload 6, 2) := by decide +kernel
theorem dX12_weightOf_59 : decode cX12_weightOf 59 = .ok (.iadd, 1) := by decide +kernel
theorem dX12_weightOf_60 : decode cX12_weightOf 60 = .ok (.laload, 1) := by decide +kernel
theorem dX12_weightOf_61 : decode cX12_weightOf 61 = .ok (.ldc2_w 205, 3) := by decide +kernel
theorem dX12_weightOf_64 : decode cX12_weightOf 64 = .ok (.lcmp, 1) := by decide +kernel
theorem dX12_weightOf_65 : decode cX12_weightOf 65 = .ok (.ifCond .ge 42, 3) := by decide +kernel
theorem dX12_weightOf_68 : decode cX12_weightOf 68 = .ok (.aload_n 0, 1) := by decide +kernel
theorem dX12_weightOf_69 : decode cX12_weightOf 69 = .ok (.lload 4, 2) := by decide +kernel
theorem dX12_weightOf_71 : decode cX12_weightOf 71 = .ok (.aload_n 0, 1) := by decide +kernel
theorem dX12_weightOf_72 : decode cX12_weightOf 72 = .ok (.getfield 75, 3) := by decide +kernel
theorem dX12_weightOf_75 : decode cX12_weightOf 75 = .ok (.bipush 17, 2) := by decide +kernel
theorem dX12_weightOf_77 : decode cX12_weightOf 77 = .ok (.iload_n 2, 1) := by decide +kernel
theorem dX12_weightOf_78 : decode cX12_weightOf 78 = .ok (.iconst 1, 1) := by decide +kernel
theorem dX12_weightOf_79 : decode cX12_weightOf 79 = .ok (.isub, 1) := by decide +kernel
theorem dX12_weightOf_80 : decode cX12_weightOf 80 = .ok (.imul, 1) := by decide +kernel
theorem dX12_weightOf_81 : decode cX12_weightOf 81 = .ok (.iload 6, 2) := by decide +kernel
theorem dX12_weightOf_83 : decode cX12_weightOf 83 = .ok (.iadd, 1) := by decide +kernel
theorem dX12_weightOf_84 : decode cX12_weightOf 84 = .ok (.laload, 1) := by decide +kernel
theorem dX12_weightOf_85 : decode cX12_weightOf 85 = .ok (.aload_n 0, 1) := by decide +kernel
theorem dX12_weightOf_86 : decode cX12_weightOf 86 = .ok (.aload_n 0, 1) := by decide +kernel
theorem dX12_weightOf_87 : decode cX12_weightOf 87 = .ok (.getfield 69, 3) := by decide +kernel
theorem dX12_weightOf_90 : decode cX12_weightOf 90 = .ok (.iload_n 2, 1) := by decide +kernel
theorem dX12_weightOf_91 : decode cX12_weightOf 91 = .ok (.iconst 1, 1) := by decide +kernel
theorem dX12_weightOf_92 : decode cX12_weightOf 92 = .ok (.isub, 1) := by decide +kernel
theorem dX12_weightOf_93 : decode cX12_weightOf 93 = .ok (.iaload, 1) := by decide +kernel
theorem dX12_weightOf_94 : decode cX12_weightOf 94 = .ok (.iload 6, 2) := by decide +kernel
theorem dX12_weightOf_96 : decode cX12_weightOf 96 = .ok (.iload_n 3, 1) := by decide +kernel
theorem dX12_weightOf_97 : decode cX12_weightOf 97 = .ok (.invokevirtual 221, 3) := by decide +kernel
theorem dX12_weightOf_100 : decode cX12_weightOf 100 = .ok (.ladd, 1) := by decide +kernel
theorem dX12_weightOf_101 : decode cX12_weightOf 101 = .ok (.invokevirtual 207, 3) := by decide +kernel
theorem dX12_weightOf_104 : decode cX12_weightOf 104 = .ok (.goto 5, 3) := by decide +kernel
theorem dX12_weightOf_107 : decode cX12_weightOf 107 = .ok (.lload 4, 2) := by decide +kernel
theorem dX12_weightOf_109 : decode cX12_weightOf 109 = .ok (.lstore 4, 2) := by decide +kernel
theorem dX12_weightOf_111 : decode cX12_weightOf 111 = .ok (.iinc 6 1, 3) := by decide +kernel
theorem dX12_weightOf_114 : decode cX12_weightOf 114 = .ok (.goto (-77), 3) := by decide +kernel
theorem dX12_weightOf_117 : decode cX12_weightOf 117 = .ok (.aload_n 0, 1) := by decide +kernel
theorem dX12_weightOf_118 : decode cX12_weightOf 118 = .ok (.getfield 75, 3) := by decide +kernel
theorem dX12_weightOf_121 : decode cX12_weightOf 121 = .ok (.bipush 17, 2) := by decide +kernel
theorem dX12_weightOf_123 : decode cX12_weightOf 123 = .ok (.iload_n 2, 1) := by decide +kernel
theorem dX12_weightOf_124 : decode cX12_weightOf 124 = .ok (.imul, 1) := by decide +kernel
theorem dX12_weightOf_125 : decode cX12_weightOf 125 = .ok (.iload_n 3, 1) := by decide +kernel
theorem dX12_weightOf_126 : decode cX12_weightOf 126 = .ok (.iadd, 1) := by decide +kernel
theorem dX12_weightOf_127 : decode cX12_weightOf 127 = .ok (.lload 4, 2) := by decide +kernel
theorem dX12_weightOf_129 : decode cX12_weightOf 129 = .ok (.ldc2_w 205, 3) := by decide +kernel
theorem dX12_weightOf_132 : decode cX12_weightOf 132 = .ok (.lcmp, 1) := by decide +kernel
theorem dX12_weightOf_133 : decode cX12_weightOf 133 = .ok (.ifCond .ge 8, 3) := by decide +kernel
theorem dX12_weightOf_136 : decode cX12_weightOf 136 = .ok (.lload 4, 2) := by decide +kernel
theorem dX12_weightOf_138 : decode cX12_weightOf 138 = .ok (.goto 6, 3) := by decide +kernel
theorem dX12_weightOf_141 : decode cX12_weightOf 141 = .ok (.ldc2_w 205, 3) := by decide +kernel
theorem dX12_weightOf_144 : decode cX12_weightOf 144 = .ok (.lastore, 1) := by decide +kernel
theorem dX12_weightOf_145 : decode cX12_weightOf 145 = .ok (.iinc 3 1, 3) := by decide +kernel
theorem dX12_weightOf_148 : decode cX12_weightOf 148 = .ok (.goto (-139), 3) := by decide +kernel
theorem dX12_weightOf_151 : decode cX12_weightOf 151 = .ok (.iinc 2 1, 3) := by decide +kernel
theorem dX12_weightOf_154 : decode cX12_weightOf 154 = .ok (.goto (-152), 3) := by decide +kernel
theorem dX12_weightOf_157 : decode cX12_weightOf 157 = .ok (.aload_n 0, 1) := by decide +kernel
theorem dX12_weightOf_158 : decode cX12_weightOf 158 = .ok (.getfield 75, 3) := by decide +kernel
theorem dX12_weightOf_161 : decode cX12_weightOf 161 = .ok (.bipush 17, 2) := by decide +kernel
theorem dX12_weightOf_163 : decode cX12_weightOf 163 = .ok (.iload_n 1, 1) := by decide +kernel
theorem dX12_weightOf_164 : decode cX12_weightOf 164 = .ok (.imul, 1) := by decide +kernel
theorem dX12_weightOf_165 : decode cX12_weightOf 165 = .ok (.aload_n 0, 1) := by decide +kernel
theorem dX12_weightOf_166 : decode cX12_weightOf 166 = .ok (.getfield 128, 3) := by decide +kernel
theorem dX12_weightOf_169 : decode cX12_weightOf 169 = .ok (.iadd, 1) := by decide +kernel
theorem dX12_weightOf_170 : decode cX12_weightOf 170 = .ok (.laload, 1) := by decide +kernel
theorem dX12_weightOf_171 : decode cX12_weightOf 171 = .ok (.lstore_n 2, 1) := by decide +kernel
theorem dX12_weightOf_172 : decode cX12_weightOf 172 = .ok (.iconst 0, 1) := by decide +kernel
theorem dX12_weightOf_173 : decode cX12_weightOf 173 = .ok (.istore 4, 2) := by decide +kernel
theorem dX12_weightOf_175 : decode cX12_weightOf 175 = .ok (.iload 4, 2) := by decide +kernel
theorem dX12_weightOf_177 : decode cX12_weightOf 177 = .ok (.iload_n 1, 1) := by decide +kernel
theorem dX12_weightOf_178 : decode cX12_weightOf 178 = .ok (.if_icmp .gt 59, 3) := by decide +kernel
theorem dX12_weightOf_181 : decode cX12_weightOf 181 = .ok (.lload_n 2, 1) := by decide +kernel
theorem dX12_weightOf_182 : decode cX12_weightOf 182 = .ok (.ldc2_w 205, 3) := by decide +kernel
theorem dX12_weightOf_185 : decode cX12_weightOf 185 = .ok (.lcmp, 1) := by decide +kernel
theorem dX12_weightOf_186 : decode cX12_weightOf 186 = .ok (.ifCond .ge 51, 3) := by decide +kernel
theorem dX12_weightOf_189 : decode cX12_weightOf 189 = .ok (.lload_n 2, 1) := by decide +kernel
theorem dX12_weightOf_190 : decode cX12_weightOf 190 = .ok (.aload_n 0, 1) := by decide +kernel
theorem dX12_weightOf_191 : decode cX12_weightOf 191 = .ok (.iload 4, 2) := by decide +kernel
theorem dX12_weightOf_193 : decode cX12_weightOf 193 = .ok (.ifCond .ne 7, 3) := by decide +kernel
theorem dX12_weightOf_196 : decode cX12_weightOf 196 = .ok (.iconst 5, 1) := by decide +kernel
theorem dX12_weightOf_197 : decode cX12_weightOf 197 = .ok (.goto 12, 3) := by decide +kernel
theorem dX12_weightOf_200 : decode cX12_weightOf 200 = .ok (.aload_n 0, 1) := by decide +kernel
theorem dX12_weightOf_201 : decode cX12_weightOf 201 = .ok (.getfield 69, 3) := by decide +kernel
theorem dX12_weightOf_204 : decode cX12_weightOf 204 = .ok (.iload 4, 2) := by decide +kernel
theorem dX12_weightOf_206 : decode cX12_weightOf 206 = .ok (.iconst 1, 1) := by decide +kernel
theorem dX12_weightOf_207 : decode cX12_weightOf 207 = .ok (.isub, 1) := by decide +kernel
theorem dX12_weightOf_208 : decode cX12_weightOf 208 = .ok (.iaload, 1) := by decide +kernel
theorem dX12_weightOf_209 : decode cX12_weightOf 209 = .ok (.iload 4, 2) := by decide +kernel
theorem dX12_weightOf_211 : decode cX12_weightOf 211 = .ok (.iload_n 1, 1) := by decide +kernel
theorem dX12_weightOf_212 : decode cX12_weightOf 212 = .ok (.if_icmp .ne 7, 3) := by decide +kernel
theorem dX12_weightOf_215 : decode cX12_weightOf 215 = .ok (.iconst 5, 1) := by decide +kernel
theorem dX12_weightOf_216 : decode cX12_weightOf 216 = .ok (.goto 10, 3) := by decide +kernel
theorem dX12_weightOf_219 : decode cX12_weightOf 219 = .ok (.aload_n 0, 1) := by decide +kernel
theorem dX12_weightOf_220 : decode cX12_weightOf 220 = .ok (.getfield 69, 3) := by decide +kernel
theorem dX12_weightOf_223 : decode cX12_weightOf 223 = .ok (.iload 4, 2) := by decide +kernel
theorem dX12_weightOf_225 : decode cX12_weightOf 225 = .ok (.iaload, 1) := by decide +kernel
theorem dX12_weightOf_226 : decode cX12_weightOf 226 = .ok (.invokevirtual 253, 3) := by decide +kernel
theorem dX12_weightOf_229 : decode cX12_weightOf 229 = .ok (.ladd, 1) := by decide +kernel
theorem dX12_weightOf_230 : decode cX12_weightOf 230 = .ok (.lstore_n 2, 1) := by decide +kernel
theorem dX12_weightOf_231 : decode cX12_weightOf 231 = .ok (.iinc 4 1, 3) := by decide +kernel
theorem dX12_weightOf_234 : decode cX12_weightOf 234 = .ok (.goto (-59), 3) := by decide +kernel
theorem dX12_weightOf_237 : decode cX12_weightOf 237 = .ok (.aload_n 0, 1) := by decide +kernel
theorem dX12_weightOf_238 : decode cX12_weightOf 238 = .ok (.getfield 128, 3) := by decide +kernel
theorem dX12_weightOf_241 : decode cX12_weightOf 241 = .ok (.ifCond .le 7, 3) := by decide +kernel
theorem dX12_weightOf_244 : decode cX12_weightOf 244 = .ok (.lload_n 2, 1) := by decide +kernel
theorem dX12_weightOf_245 : decode cX12_weightOf 245 = .ok (.goto 6, 3) := by decide +kernel
theorem dX12_weightOf_248 : decode cX12_weightOf 248 = .ok (.ldc2_w 205, 3) := by decide +kernel
theorem dX12_weightOf_251 : decode cX12_weightOf 251 = .ok (.lreturn, 1) := by decide +kernel
def J_X12_weightOf_109 (v1 v2 v3 v6 s0 : Int) (st : z_St) : Option ((Int × Int) ⊕ Int) :=
  some (.inl (s0, v6 + 1))
set_option maxRecDepth 100000 in
set_option maxHeartbeats 4000000 in
theorem w_X12_weightOf_109 {κ : zK} {a : Nat → Nat} {v1 v2 v3 v6 s0 : Int} {st : z_St} {mc9 ms9 : Nat} {o : (Int × Int) ⊕ Int} (hc : z_C κ RX12 cX12_weightOf 7 11 mc9 ms9) (hap : z_AP κ a z_N) (k1 : ∀ s9 : (Int × Int), o = .inl s9 → z_V κ z_T z_N a 0 0 37 [(0, .ref (a 168)), (1, .int (zI v1)), (2, .int (zI v2)), (3, .int (zI v3)), (4, .long (zJ s9.1)), (6, .int (zI s9.2))] [] st) (k2 : ∀ x9 : Int, o = .inr x9 → z_V κ z_T z_N a 0 0 117 [(0, .ref (a 168)), (1, .int (zI v1)), (2, .int (zI v2)), (3, .int (zI v3)), (4, .long (zJ x9))] [] st) (h : J_X12_weightOf_109 v1 v2 v3 v6 s0 st = some o) : z_V κ z_T z_N a 0 0 109 [(0, .ref (a 168)), (1, .int (zI v1)), (2, .int (zI v2)), (3, .int (zI v3)), (6, .int (zI v6))] [.long (zJ s0)] st := by
  unfold J_X12_weightOf_109 at h
  refine z_lstore [(4, .long (zJ s0)), (0, .ref (a 168)), (1, .int (zI v1)), (2, .int (zI v2)), (3, .int (zI v3)), (6, .int (zI v6))] hc dX12_weightOf_109 (by decide) rfl ?_
  refine z_iinc [(6, .int (zI (v6 + 1))), (4, .long (zJ s0)), (0, .ref (a 168)), (1, .int (zI v1)), (2, .int (zI v2)), (3, .int (zI v3))] 5 hc dX12_weightOf_111 rfl (by decide) rfl ?_
  refine z_goto (tgt := 37) hc dX12_weightOf_114 (by decide) ?_
  refine z_sub [(0, .ref (a 168)), (1, .int (zI v1)), (2, .int (zI v2)), (3, .int (zI v3)), (4, .long (zJ s0)), (6, .int (zI (v6 + 1)))] [2, 3, 4, 5, 1, 0] rfl ?_
  exact k1 _ (Option.some.inj h).symm
def J_X12_weightOf_b37 (v1 v2 v3 v4 v6 : Int) (st : z_St) : Option ((Int × Int) ⊕ Int) :=
  z_g (z32 v6 ∧ z32 v3) (if v6 < v3 then
    z_g (z32 v2) (if 0 < v2 then
      z_g (0 ≤ (17 * (v2 - 1)) + v6 ∧ (17 * (v2 - 1)) + v6 < 85) <|
      z_g (z64 (st 188 ((17 * (v2 - 1)) + v6)) ∧ z64 1000000000000000000) (if st 188 ((17 * (v2 - 1)) + v6) < 1000000000000000000 then
        z_g (0 ≤ (17 * (v2 - 1)) + v6 ∧ (17 * (v2 - 1)) + v6 < 85) <|
        z_g (0 ≤ v2 - 1 ∧ v2 - 1 < 4) <|
        z_b (J_X12_tableOf (st 186 (v2 - 1)) v6 v3 st) fun r4 =>
        z_b (J_X12_least v4 ((st 188 ((17 * (v2 - 1)) + v6)) + r4) st) fun r6 =>
        J_X12_weightOf_109 v1 v2 v3 v6 r6 st
      else
        J_X12_weightOf_109 v1 v2 v3 v6 v4 st)
    else
      some (.inr v4))
  else
    some (.inr v4))
set_option maxRecDepth 100000 in
set_option maxHeartbeats 4000000 in
theorem w_X12_weightOf_b37 {κ : zK} {a : Nat → Nat} {v1 v2 v3 v4 v6 : Int} {st : z_St} {mc9 ms9 : Nat} {o : (Int × Int) ⊕ Int} (hc : z_C κ RX12 cX12_weightOf 7 11 mc9 ms9) (hap : z_AP κ a z_N) (k1 : ∀ s9 : (Int × Int), o = .inl s9 → z_V κ z_T z_N a 0 0 37 [(0, .ref (a 168)), (1, .int (zI v1)), (2, .int (zI v2)), (3, .int (zI v3)), (4, .long (zJ s9.1)), (6, .int (zI s9.2))] [] st) (k2 : ∀ x9 : Int, o = .inr x9 → z_V κ z_T z_N a 0 0 117 [(0, .ref (a 168)), (1, .int (zI v1)), (2, .int (zI v2)), (3, .int (zI v3)), (4, .long (zJ x9))] [] st) (h : J_X12_weightOf_b37 v1 v2 v3 v4 v6 st = some o) : z_V κ z_T z_N a 0 0 37 [(0, .ref (a 168)), (1, .int (zI v1)), (2, .int (zI v2)), (3, .int (zI v3)), (4, .long (zJ v4)), (6, .int (zI v6))] [] st := by
  unfold J_X12_weightOf_b37 at h
  refine z_iload 5 hc dX12_weightOf_37 rfl ?_
  refine z_iload_n (i := 3) 3 hc dX12_weightOf_39 rfl rfl ?_
  refine z_icmp_ge (tgt := 117) hc dX12_weightOf_40 (by decide) h (fun c40 h => ?_) (fun c40 h => ?_)
  · refine z_iload_n (i := 2) 2 hc dX12_weightOf_43 rfl rfl ?_
    refine z_if_le (tgt := 117) hc dX12_weightOf_44 (by decide) h (fun c44 h => ?_) (fun c44 h => ?_)
    · refine z_aload_n (i := 0) 0 hc dX12_weightOf_47 rfl rfl ?_
      refine z_getA (k' := 188) hc fl_RX12_75 tT_168 (by decide) rfl rfl dX12_weightOf_48 ?_
      refine z_bipush hc dX12_weightOf_51 rfl ?_
      refine z_iload_n (i := 2) 2 hc dX12_weightOf_53 rfl rfl ?_
      refine z_iconst hc dX12_weightOf_54 ?_
      refine z_isub hc dX12_weightOf_55 ?_
      refine z_imul hc dX12_weightOf_56 ?_
      refine z_iload 5 hc dX12_weightOf_57 rfl ?_
      refine z_iadd hc dX12_weightOf_59 ?_
      refine z_lald (kI := 188) (nI9 := 85) hc tT_188 (by decide) rfl rfl (by decide) dX12_weightOf_60 h (fun g1 h => ?_)
      refine z_ldc2 1000000000000000000 hc kc_RX12_205 dX12_weightOf_61 rfl ?_
      refine z_lcmp_ge (tgt := 107) hc dX12_weightOf_64 dX12_weightOf_65 (by decide) h (fun c64 h => ?_) (fun c64 h => ?_)
      · refine z_aload_n (i := 0) 0 hc dX12_weightOf_68 rfl rfl ?_
        refine z_lload 4 hc dX12_weightOf_69 rfl ?_
        refine z_aload_n (i := 0) 0 hc dX12_weightOf_71 rfl rfl ?_
        refine z_getA (k' := 188) hc fl_RX12_75 tT_168 (by decide) rfl rfl dX12_weightOf_72 ?_
        refine z_bipush hc dX12_weightOf_75 rfl ?_
        refine z_iload_n (i := 2) 2 hc dX12_weightOf_77 rfl rfl ?_
        refine z_iconst hc dX12_weightOf_78 ?_
        refine z_isub hc dX12_weightOf_79 ?_
        refine z_imul hc dX12_weightOf_80 ?_
        refine z_iload 5 hc dX12_weightOf_81 rfl ?_
        refine z_iadd hc dX12_weightOf_83 ?_
        refine z_lald (kI := 188) (nI9 := 85) hc tT_188 (by decide) rfl rfl (by decide) dX12_weightOf_84 h (fun g2 h => ?_)
        refine z_aload_n (i := 0) 0 hc dX12_weightOf_85 rfl rfl ?_
        refine z_aload_n (i := 0) 0 hc dX12_weightOf_86 rfl rfl ?_
        refine z_getA (k' := 186) hc fl_RX12_69 tT_168 (by decide) rfl rfl dX12_weightOf_87 ?_
        refine z_iload_n (i := 2) 2 hc dX12_weightOf_90 rfl rfl ?_
        refine z_iconst hc dX12_weightOf_91 ?_
        refine z_isub hc dX12_weightOf_92 ?_
        refine z_iald (kI := 186) (nI9 := 4) hc tT_186 (by decide) rfl rfl (by decide) dX12_weightOf_93 h (fun g3 h => ?_)
        refine z_iload 5 hc dX12_weightOf_94 rfl ?_
        refine z_iload_n (i := 3) 3 hc dX12_weightOf_96 rfl rfl ?_
        obtain ⟨r4, hr4, h⟩ := z_b_some h
        refine z_callVJ [.int (zI (st 186 (v2 - 1))), .int (zI v6), .int (zI v3)] hc hap o_X12_tableOf ml_RX12_221 (fun l hl => c_X12_tableOf hl  hr4) (by decide) tT_168 (by decide) ⟨_, rfl, rfl⟩ rfl rfl (Nat.le_of_ble_eq_true rfl) (Nat.zero_le _) (Nat.zero_le _) dX12_weightOf_97 ?_
        refine z_ladd hc dX12_weightOf_100 ?_
        obtain ⟨r6, hr6, h⟩ := z_b_some h
        refine z_callVJ [.long (zJ v4), .long (zJ ((st 188 ((17 * (v2 - 1)) + v6)) + r4))] hc hap o_X12_least ml_RX12_207 (fun l hl => c_X12_least hl  hr6) (by decide) tT_168 (by decide) ⟨_, rfl, rfl⟩ rfl rfl (Nat.le_of_ble_eq_true rfl) (Nat.zero_le _) (Nat.zero_le _) dX12_weightOf_101 ?_
        refine z_goto (tgt := 109) hc dX12_weightOf_104 (by decide) ?_
        refine z_sub [(0, .ref (a 168)), (1, .int (zI v1)), (2, .int (zI v2)), (3, .int (zI v3)), (6, .int (zI v6))] [0, 1, 2, 3, 5] rfl ?_
        exact w_X12_weightOf_109 hc hap k1 k2 h
      · refine z_lload 4 hc dX12_weightOf_107 rfl ?_
        refine z_sub [(0, .ref (a 168)), (1, .int (zI v1)), (2, .int (zI v2)), (3, .int (zI v3)), (6, .int (zI v6))] [0, 1, 2, 3, 5] rfl ?_
        exact w_X12_weightOf_109 hc hap k1 k2 h
    · refine z_sub [(0, .ref (a 168)), (1, .int (zI v1)), (2, .int (zI v2)), (3, .int (zI v3)), (4, .long (zJ v4))] [0, 1, 2, 3, 4] rfl ?_
      exact k2 v4 (Option.some.inj h).symm
  · refine z_sub [(0, .ref (a 168)), (1, .int (zI v1)), (2, .int (zI v2)), (3, .int (zI v3)), (4, .long (zJ v4))] [0, 1, 2, 3, 4] rfl ?_
    exact k2 v4 (Option.some.inj h).symm
def J_X12_weightOf_144 (v1 v2 v3 s0 s1 : Int) (st : z_St) : Option ((Int × z_St) ⊕ z_St) :=
  z_g (0 ≤ s1 ∧ s1 < 85) <|
  z_let (z_up st 188 s1 s0) fun st9 =>
  some (.inl (v3 + 1, st9))
set_option maxRecDepth 100000 in
set_option maxHeartbeats 4000000 in
theorem w_X12_weightOf_144 {κ : zK} {a : Nat → Nat} {v1 v2 v3 s0 s1 : Int} {st : z_St} {mc9 ms9 : Nat} {o : (Int × z_St) ⊕ z_St} (hc : z_C κ RX12 cX12_weightOf 7 11 mc9 ms9) (hap : z_AP κ a z_N) (k1 : ∀ s9 : (Int × z_St), o = .inl s9 → z_V κ z_T z_N a 0 0 9 [(0, .ref (a 168)), (1, .int (zI v1)), (2, .int (zI v2)), (3, .int (zI s9.1))] [] s9.2) (k2 : ∀ x9 : z_St, o = .inr x9 → z_V κ z_T z_N a 0 0 151 [(0, .ref (a 168)), (1, .int (zI v1)), (2, .int (zI v2))] [] x9) (h : J_X12_weightOf_144 v1 v2 v3 s0 s1 st = some o) : z_V κ z_T z_N a 0 0 144 [(0, .ref (a 168)), (1, .int (zI v1)), (2, .int (zI v2)), (3, .int (zI v3))] [.long (zJ s0), .int (zI s1), .ref (a 188)] st := by
  unfold J_X12_weightOf_144 at h
  refine z_last (kI := 188) (nI9 := 85) hc hap tT_188 (by decide) rfl rfl (by decide) dX12_weightOf_144 h (fun st9 h => ?_)
  refine z_iinc [(3, .int (zI (v3 + 1))), (0, .ref (a 168)), (1, .int (zI v1)), (2, .int (zI v2))] 3 hc dX12_weightOf_145 rfl (by decide) rfl ?_
  refine z_goto (tgt := 9) hc dX12_weightOf_148 (by decide) ?_
  refine z_sub [(0, .ref (a 168)), (1, .int (zI v1)), (2, .int (zI v2)), (3, .int (zI (v3 + 1)))] [1, 2, 3, 0] rfl ?_
  exact k1 _ (Option.some.inj h).symm
def J_X12_weightOf_32 (v1 v2 v3 s0 : Int) (st : z_St) : Option ((Int × z_St) ⊕ z_St) :=
  z_b (z_iter z_F (fun q9 : (Int × Int) => J_X12_weightOf_b37 v1 v2 v3 q9.1 q9.2 st) (s0, 0)) fun lx8 =>
    z_g (z64 lx8 ∧ z64 1000000000000000000) (if lx8 < 1000000000000000000 then
      J_X12_weightOf_144 v1 v2 v3 lx8 ((17 * v2) + v3) st
    else
      J_X12_weightOf_144 v1 v2 v3 1000000000000000000 ((17 * v2) + v3) st)
set_option maxRecDepth 100000 in
set_option maxHeartbeats 4000000 in
theorem w_X12_weightOf_32 {κ : zK} {a : Nat → Nat} {v1 v2 v3 s0 : Int} {st : z_St} {mc9 ms9 : Nat} {o : (Int × z_St) ⊕ z_St} (hc : z_C κ RX12 cX12_weightOf 7 11 mc9 ms9) (hap : z_AP κ a z_N) (k1 : ∀ s9 : (Int × z_St), o = .inl s9 → z_V κ z_T z_N a 0 0 9 [(0, .ref (a 168)), (1, .int (zI v1)), (2, .int (zI v2)), (3, .int (zI s9.1))] [] s9.2) (k2 : ∀ x9 : z_St, o = .inr x9 → z_V κ z_T z_N a 0 0 151 [(0, .ref (a 168)), (1, .int (zI v1)), (2, .int (zI v2))] [] x9) (h : J_X12_weightOf_32 v1 v2 v3 s0 st = some o) : z_V κ z_T z_N a 0 0 32 [(0, .ref (a 168)), (1, .int (zI v1)), (2, .int (zI v2)), (3, .int (zI v3))] [.long (zJ s0)] st := by
  unfold J_X12_weightOf_32 at h
  refine z_lstore [(4, .long (zJ s0)), (0, .ref (a 168)), (1, .int (zI v1)), (2, .int (zI v2)), (3, .int (zI v3))] hc dX12_weightOf_32 (by decide) rfl ?_
  refine z_iconst hc dX12_weightOf_34 ?_
  refine z_istore [(6, .int (zI 0)), (4, .long (zJ s0)), (0, .ref (a 168)), (1, .int (zI v1)), (2, .int (zI v2)), (3, .int (zI v3))] hc dX12_weightOf_35 (by decide) rfl ?_
  obtain ⟨lx8, hlx8, h⟩ := z_b_some h
  refine z_sub [(0, .ref (a 168)), (1, .int (zI v1)), (2, .int (zI v2)), (3, .int (zI v3)), (4, .long (zJ s0)), (6, .int (zI 0))] [2, 3, 4, 5, 1, 0] rfl ?_
  refine z_loop (fun q9 : (Int × Int) => J_X12_weightOf_b37 v1 v2 v3 q9.1 q9.2 st) (fun q9 : (Int × Int) => z_V κ z_T z_N a 0 0 37 [(0, .ref (a 168)), (1, .int (zI v1)), (2, .int (zI v2)), (3, .int (zI v3)), (4, .long (zJ q9.1)), (6, .int (zI q9.2))] [] st) (fun x9 : Int => z_V κ z_T z_N a 0 0 117 [(0, .ref (a 168)), (1, .int (zI v1)), (2, .int (zI v2)), (3, .int (zI v3)), (4, .long (zJ x9))] [] st) (fun q9 o9 hb k1 k2 => ?_) _ _ _ hlx8 ?_
  · exact w_X12_weightOf_b37 hc hap k1 k2 hb
  · show z_V κ z_T z_N a 0 0 117 [(0, .ref (a 168)), (1, .int (zI v1)), (2, .int (zI v2)), (3, .int (zI v3)), (4, .long (zJ lx8))] [] st
    refine z_aload_n (i := 0) 0 hc dX12_weightOf_117 rfl rfl ?_
    refine z_getA (k' := 188) hc fl_RX12_75 tT_168 (by decide) rfl rfl dX12_weightOf_118 ?_
    refine z_bipush hc dX12_weightOf_121 rfl ?_
    refine z_iload_n (i := 2) 2 hc dX12_weightOf_123 rfl rfl ?_
    refine z_imul hc dX12_weightOf_124 ?_
    refine z_iload_n (i := 3) 3 hc dX12_weightOf_125 rfl rfl ?_
    refine z_iadd hc dX12_weightOf_126 ?_
    refine z_lload 4 hc dX12_weightOf_127 rfl ?_
    refine z_ldc2 1000000000000000000 hc kc_RX12_205 dX12_weightOf_129 rfl ?_
    refine z_lcmp_ge (tgt := 141) hc dX12_weightOf_132 dX12_weightOf_133 (by decide) h (fun c132 h => ?_) (fun c132 h => ?_)
    · refine z_lload 4 hc dX12_weightOf_136 rfl ?_
      refine z_goto (tgt := 144) hc dX12_weightOf_138 (by decide) ?_
      refine z_sub [(0, .ref (a 168)), (1, .int (zI v1)), (2, .int (zI v2)), (3, .int (zI v3))] [0, 1, 2, 3] rfl ?_
      exact w_X12_weightOf_144 hc hap k1 k2 h
    · refine z_ldc2 1000000000000000000 hc kc_RX12_205 dX12_weightOf_141 rfl ?_
      refine z_sub [(0, .ref (a 168)), (1, .int (zI v1)), (2, .int (zI v2)), (3, .int (zI v3))] [0, 1, 2, 3] rfl ?_
      exact w_X12_weightOf_144 hc hap k1 k2 h
def J_X12_weightOf_29 (v1 v2 v3 : Int) (st : z_St) : Option ((Int × z_St) ⊕ z_St) :=
  J_X12_weightOf_32 v1 v2 v3 1000000000000000000 st
set_option maxRecDepth 100000 in
set_option maxHeartbeats 4000000 in
theorem w_X12_weightOf_29 {κ : zK} {a : Nat → Nat} {v1 v2 v3 : Int} {st : z_St} {mc9 ms9 : Nat} {o : (Int × z_St) ⊕ z_St} (hc : z_C κ RX12 cX12_weightOf 7 11 mc9 ms9) (hap : z_AP κ a z_N) (k1 : ∀ s9 : (Int × z_St), o = .inl s9 → z_V κ z_T z_N a 0 0 9 [(0, .ref (a 168)), (1, .int (zI v1)), (2, .int (zI v2)), (3, .int (zI s9.1))] [] s9.2) (k2 : ∀ x9 : z_St, o = .inr x9 → z_V κ z_T z_N a 0 0 151 [(0, .ref (a 168)), (1, .int (zI v1)), (2, .int (zI v2))] [] x9) (h : J_X12_weightOf_29 v1 v2 v3 st = some o) : z_V κ z_T z_N a 0 0 29 [(0, .ref (a 168)), (1, .int (zI v1)), (2, .int (zI v2)), (3, .int (zI v3))] [] st := by
  unfold J_X12_weightOf_29 at h
  refine z_ldc2 1000000000000000000 hc kc_RX12_205 dX12_weightOf_29 rfl ?_
  refine z_sub [(0, .ref (a 168)), (1, .int (zI v1)), (2, .int (zI v2)), (3, .int (zI v3))] [0, 1, 2, 3] rfl ?_
  exact w_X12_weightOf_32 hc hap k1 k2 h
def J_X12_weightOf_b9 (v1 v2 v3 : Int) (st : z_St) : Option ((Int × z_St) ⊕ z_St) :=
  z_g (z32 v3 ∧ z32 (st 168 2)) (if st 168 2 < v3 then
    some (.inr st)
  else
    z_g (z32 v2) (if v2 = 0 then
      z_g (z32 v3) (if v3 = 0 then
        J_X12_weightOf_32 v1 v2 v3 0 st
      else
        J_X12_weightOf_29 v1 v2 v3 st)
    else
      J_X12_weightOf_29 v1 v2 v3 st))
set_option maxRecDepth 100000 in
set_option maxHeartbeats 4000000 in
theorem w_X12_weightOf_b9 {κ : zK} {a : Nat → Nat} {v1 v2 v3 : Int} {st : z_St} {mc9 ms9 : Nat} {o : (Int × z_St) ⊕ z_St} (hc : z_C κ RX12 cX12_weightOf 7 11 mc9 ms9) (hap : z_AP κ a z_N) (k1 : ∀ s9 : (Int × z_St), o = .inl s9 → z_V κ z_T z_N a 0 0 9 [(0, .ref (a 168)), (1, .int (zI v1)), (2, .int (zI v2)), (3, .int (zI s9.1))] [] s9.2) (k2 : ∀ x9 : z_St, o = .inr x9 → z_V κ z_T z_N a 0 0 151 [(0, .ref (a 168)), (1, .int (zI v1)), (2, .int (zI v2))] [] x9) (h : J_X12_weightOf_b9 v1 v2 v3 st = some o) : z_V κ z_T z_N a 0 0 9 [(0, .ref (a 168)), (1, .int (zI v1)), (2, .int (zI v2)), (3, .int (zI v3))] [] st := by
  unfold J_X12_weightOf_b9 at h
  refine z_iload_n (i := 3) 3 hc dX12_weightOf_9 rfl rfl ?_
  refine z_aload_n (i := 0) 0 hc dX12_weightOf_10 rfl rfl ?_
  refine z_getI (kI := 168) (jI := 2) hc fl_RX12_128 tT_168 (by decide) rfl rfl rfl dX12_weightOf_11 ?_
  refine z_icmp_gt (tgt := 151) hc dX12_weightOf_14 (by decide) h (fun c14 h => ?_) (fun c14 h => ?_)
  · refine z_sub [(0, .ref (a 168)), (1, .int (zI v1)), (2, .int (zI v2))] [0, 1, 2] rfl ?_
    exact k2 st (Option.some.inj h).symm
  · refine z_iload_n (i := 2) 2 hc dX12_weightOf_17 rfl rfl ?_
    refine z_if_ne (tgt := 29) hc dX12_weightOf_18 (by decide) h (fun c18 h => ?_) (fun c18 h => ?_)
    · refine z_iload_n (i := 3) 3 hc dX12_weightOf_21 rfl rfl ?_
      refine z_if_ne (tgt := 29) hc dX12_weightOf_22 (by decide) h (fun c22 h => ?_) (fun c22 h => ?_)
      · refine z_lconst 0 hc dX12_weightOf_25 rfl ?_
        refine z_goto (tgt := 32) hc dX12_weightOf_26 (by decide) ?_
        refine z_sub [(0, .ref (a 168)), (1, .int (zI v1)), (2, .int (zI v2)), (3, .int (zI v3))] [0, 1, 2, 3] rfl ?_
        exact w_X12_weightOf_32 hc hap k1 k2 h
      · refine z_sub [(0, .ref (a 168)), (1, .int (zI v1)), (2, .int (zI v2)), (3, .int (zI v3))] [0, 1, 2, 3] rfl ?_
        exact w_X12_weightOf_29 hc hap k1 k2 h
    · refine z_sub [(0, .ref (a 168)), (1, .int (zI v1)), (2, .int (zI v2)), (3, .int (zI v3))] [0, 1, 2, 3] rfl ?_
      exact w_X12_weightOf_29 hc hap k1 k2 h
def J_X12_weightOf_b2 (v1 v2 : Int) (st : z_St) : Option ((Int × z_St) ⊕ z_St) :=
  z_g (z32 v2 ∧ z32 v1) (if v1 < v2 then
    some (.inr st)
  else
    z_b (z_iter z_F (fun q9 : (Int × z_St) => J_X12_weightOf_b9 v1 v2 q9.1 q9.2) (0, st)) fun lx10 =>
      some (.inl (v2 + 1, lx10)))
set_option maxRecDepth 100000 in
set_option maxHeartbeats 4000000 in
theorem w_X12_weightOf_b2 {κ : zK} {a : Nat → Nat} {v1 v2 : Int} {st : z_St} {mc9 ms9 : Nat} {o : (Int × z_St) ⊕ z_St} (hc : z_C κ RX12 cX12_weightOf 7 11 mc9 ms9) (hap : z_AP κ a z_N) (k1 : ∀ s9 : (Int × z_St), o = .inl s9 → z_V κ z_T z_N a 0 0 2 [(0, .ref (a 168)), (1, .int (zI v1)), (2, .int (zI s9.1))] [] s9.2) (k2 : ∀ x9 : z_St, o = .inr x9 → z_V κ z_T z_N a 0 0 157 [(0, .ref (a 168)), (1, .int (zI v1))] [] x9) (h : J_X12_weightOf_b2 v1 v2 st = some o) : z_V κ z_T z_N a 0 0 2 [(0, .ref (a 168)), (1, .int (zI v1)), (2, .int (zI v2))] [] st := by
  unfold J_X12_weightOf_b2 at h
  refine z_iload_n (i := 2) 2 hc dX12_weightOf_2 rfl rfl ?_
  refine z_iload_n (i := 1) 1 hc dX12_weightOf_3 rfl rfl ?_
  refine z_icmp_gt (tgt := 157) hc dX12_weightOf_4 (by decide) h (fun c4 h => ?_) (fun c4 h => ?_)
  · refine z_sub [(0, .ref (a 168)), (1, .int (zI v1))] [0, 1] rfl ?_
    exact k2 st (Option.some.inj h).symm
  · refine z_iconst hc dX12_weightOf_7 ?_
    refine z_istore_n (i := 3) [(3, .int (zI 0)), (0, .ref (a 168)), (1, .int (zI v1)), (2, .int (zI v2))] hc dX12_weightOf_8 rfl (by decide) rfl ?_
    obtain ⟨lx10, hlx10, h⟩ := z_b_some h
    refine z_sub [(0, .ref (a 168)), (1, .int (zI v1)), (2, .int (zI v2)), (3, .int (zI 0))] [1, 2, 3, 0] rfl ?_
    refine z_loop (fun q9 : (Int × z_St) => J_X12_weightOf_b9 v1 v2 q9.1 q9.2) (fun q9 : (Int × z_St) => z_V κ z_T z_N a 0 0 9 [(0, .ref (a 168)), (1, .int (zI v1)), (2, .int (zI v2)), (3, .int (zI q9.1))] [] q9.2) (fun x9 : z_St => z_V κ z_T z_N a 0 0 151 [(0, .ref (a 168)), (1, .int (zI v1)), (2, .int (zI v2))] [] x9) (fun q9 o9 hb k1 k2 => ?_) _ _ _ hlx10 ?_
    · exact w_X12_weightOf_b9 hc hap k1 k2 hb
    · show z_V κ z_T z_N a 0 0 151 [(0, .ref (a 168)), (1, .int (zI v1)), (2, .int (zI v2))] [] lx10
      refine z_iinc [(2, .int (zI (v2 + 1))), (0, .ref (a 168)), (1, .int (zI v1))] 2 hc dX12_weightOf_151 rfl (by decide) rfl ?_
      refine z_goto (tgt := 2) hc dX12_weightOf_154 (by decide) ?_
      refine z_sub [(0, .ref (a 168)), (1, .int (zI v1)), (2, .int (zI (v2 + 1)))] [1, 2, 0] rfl ?_
      exact k1 _ (Option.some.inj h).symm
def J_X12_weightOf_226 (v1 v4 s0 s1 s3 : Int) (st : z_St) : Option ((Int × Int) ⊕ Int) :=
  z_b (J_X12_dear s1 s0 st) fun r13 =>
  some (.inl (s3 + r13, v4 + 1))
set_option maxRecDepth 100000 in
set_option maxHeartbeats 4000000 in
theorem w_X12_weightOf_226 {κ : zK} {a : Nat → Nat} {v1 v4 s0 s1 s3 : Int} {st : z_St} {mc9 ms9 : Nat} {o : (Int × Int) ⊕ Int} (hc : z_C κ RX12 cX12_weightOf 7 11 mc9 ms9) (hap : z_AP κ a z_N) (k1 : ∀ s9 : (Int × Int), o = .inl s9 → z_V κ z_T z_N a 0 0 175 [(0, .ref (a 168)), (1, .int (zI v1)), (2, .long (zJ s9.1)), (4, .int (zI s9.2))] [] st) (k2 : ∀ x9 : Int, o = .inr x9 → z_V κ z_T z_N a 0 0 237 [(0, .ref (a 168)), (2, .long (zJ x9))] [] st) (h : J_X12_weightOf_226 v1 v4 s0 s1 s3 st = some o) : z_V κ z_T z_N a 0 0 226 [(0, .ref (a 168)), (1, .int (zI v1)), (4, .int (zI v4))] [.int (zI s0), .int (zI s1), .ref (a 168), .long (zJ s3)] st := by
  unfold J_X12_weightOf_226 at h
  obtain ⟨r13, hr13, h⟩ := z_b_some h
  refine z_callVJ [.int (zI s1), .int (zI s0)] hc hap o_X12_dear ml_RX12_253 (fun l hl => c_X12_dear hl  hr13) (by decide) tT_168 (by decide) ⟨_, rfl, rfl⟩ rfl rfl (Nat.le_of_ble_eq_true rfl) (Nat.zero_le _) (Nat.zero_le _) dX12_weightOf_226 ?_
  refine z_ladd hc dX12_weightOf_229 ?_
  refine z_lstore_n (i := 2) [(2, .long (zJ (s3 + r13))), (0, .ref (a 168)), (1, .int (zI v1)), (4, .int (zI v4))] hc dX12_weightOf_230 rfl (by decide) rfl ?_
  refine z_iinc [(4, .int (zI (v4 + 1))), (2, .long (zJ (s3 + r13))), (0, .ref (a 168)), (1, .int (zI v1))] 3 hc dX12_weightOf_231 rfl (by decide) rfl ?_
  refine z_goto (tgt := 175) hc dX12_weightOf_234 (by decide) ?_
  refine z_sub [(0, .ref (a 168)), (1, .int (zI v1)), (2, .long (zJ (s3 + r13))), (4, .int (zI (v4 + 1)))] [2, 3, 1, 0] rfl ?_
  exact k1 _ (Option.some.inj h).symm
def J_X12_weightOf_209 (v1 v4 s0 s2 : Int) (st : z_St) : Option ((Int × Int) ⊕ Int) :=
  z_g (z32 v4 ∧ z32 v1) (if v4 = v1 then
    J_X12_weightOf_226 v1 v4 5 s0 s2 st
  else
    z_g (0 ≤ v4 ∧ v4 < 4) <|
    J_X12_weightOf_226 v1 v4 (st 186 v4) s0 s2 st)
set_option maxRecDepth 100000 in
set_option maxHeartbeats 4000000 in
theorem w_X12_weightOf_209 {κ : zK} {a : Nat → Nat} {v1 v4 s0 s2 : Int} {st : z_St} {mc9 ms9 : Nat} {o : (Int × Int) ⊕ Int} (hc : z_C κ RX12 cX12_weightOf 7 11 mc9 ms9) (hap : z_AP κ a z_N) (k1 : ∀ s9 : (Int × Int), o = .inl s9 → z_V κ z_T z_N a 0 0 175 [(0, .ref (a 168)), (1, .int (zI v1)), (2, .long (zJ s9.1)), (4, .int (zI s9.2))] [] st) (k2 : ∀ x9 : Int, o = .inr x9 → z_V κ z_T z_N a 0 0 237 [(0, .ref (a 168)), (2, .long (zJ x9))] [] st) (h : J_X12_weightOf_209 v1 v4 s0 s2 st = some o) : z_V κ z_T z_N a 0 0 209 [(0, .ref (a 168)), (1, .int (zI v1)), (4, .int (zI v4))] [.int (zI s0), .ref (a 168), .long (zJ s2)] st := by
  unfold J_X12_weightOf_209 at h
  refine z_iload 2 hc dX12_weightOf_209 rfl ?_
  refine z_iload_n (i := 1) 1 hc dX12_weightOf_211 rfl rfl ?_
  refine z_icmp_ne (tgt := 219) hc dX12_weightOf_212 (by decide) h (fun c212 h => ?_) (fun c212 h => ?_)
  · refine z_iconst hc dX12_weightOf_215 ?_
    refine z_goto (tgt := 226) hc dX12_weightOf_216 (by decide) ?_
    refine z_sub [(0, .ref (a 168)), (1, .int (zI v1)), (4, .int (zI v4))] [0, 1, 2] rfl ?_
    exact w_X12_weightOf_226 hc hap k1 k2 h
  · refine z_aload_n (i := 0) 0 hc dX12_weightOf_219 rfl rfl ?_
    refine z_getA (k' := 186) hc fl_RX12_69 tT_168 (by decide) rfl rfl dX12_weightOf_220 ?_
    refine z_iload 2 hc dX12_weightOf_223 rfl ?_
    refine z_iald (kI := 186) (nI9 := 4) hc tT_186 (by decide) rfl rfl (by decide) dX12_weightOf_225 h (fun g15 h => ?_)
    refine z_sub [(0, .ref (a 168)), (1, .int (zI v1)), (4, .int (zI v4))] [0, 1, 2] rfl ?_
    exact w_X12_weightOf_226 hc hap k1 k2 h
def J_X12_weightOf_b175 (v1 v2 v4 : Int) (st : z_St) : Option ((Int × Int) ⊕ Int) :=
  z_g (z32 v4 ∧ z32 v1) (if v1 < v4 then
    some (.inr v2)
  else
    z_g (z64 v2 ∧ z64 1000000000000000000) (if v2 < 1000000000000000000 then
      z_g (z32 v4) (if v4 = 0 then
        J_X12_weightOf_209 v1 v4 5 v2 st
      else
        z_g (0 ≤ v4 - 1 ∧ v4 - 1 < 4) <|
        J_X12_weightOf_209 v1 v4 (st 186 (v4 - 1)) v2 st)
    else
      some (.inr v2)))
set_option maxRecDepth 100000 in
set_option maxHeartbeats 4000000 in
theorem w_X12_weightOf_b175 {κ : zK} {a : Nat → Nat} {v1 v2 v4 : Int} {st : z_St} {mc9 ms9 : Nat} {o : (Int × Int) ⊕ Int} (hc : z_C κ RX12 cX12_weightOf 7 11 mc9 ms9) (hap : z_AP κ a z_N) (k1 : ∀ s9 : (Int × Int), o = .inl s9 → z_V κ z_T z_N a 0 0 175 [(0, .ref (a 168)), (1, .int (zI v1)), (2, .long (zJ s9.1)), (4, .int (zI s9.2))] [] st) (k2 : ∀ x9 : Int, o = .inr x9 → z_V κ z_T z_N a 0 0 237 [(0, .ref (a 168)), (2, .long (zJ x9))] [] st) (h : J_X12_weightOf_b175 v1 v2 v4 st = some o) : z_V κ z_T z_N a 0 0 175 [(0, .ref (a 168)), (1, .int (zI v1)), (2, .long (zJ v2)), (4, .int (zI v4))] [] st := by
  unfold J_X12_weightOf_b175 at h
  refine z_iload 3 hc dX12_weightOf_175 rfl ?_
  refine z_iload_n (i := 1) 1 hc dX12_weightOf_177 rfl rfl ?_
  refine z_icmp_gt (tgt := 237) hc dX12_weightOf_178 (by decide) h (fun c178 h => ?_) (fun c178 h => ?_)
  · refine z_sub [(0, .ref (a 168)), (2, .long (zJ v2))] [0, 2] rfl ?_
    exact k2 v2 (Option.some.inj h).symm
  · refine z_lload_n (i := 2) 2 hc dX12_weightOf_181 rfl rfl ?_
    refine z_ldc2 1000000000000000000 hc kc_RX12_205 dX12_weightOf_182 rfl ?_
    refine z_lcmp_ge (tgt := 237) hc dX12_weightOf_185 dX12_weightOf_186 (by decide) h (fun c185 h => ?_) (fun c185 h => ?_)
    · refine z_lload_n (i := 2) 2 hc dX12_weightOf_189 rfl rfl ?_
      refine z_aload_n (i := 0) 0 hc dX12_weightOf_190 rfl rfl ?_
      refine z_iload 3 hc dX12_weightOf_191 rfl ?_
      refine z_if_ne (tgt := 200) hc dX12_weightOf_193 (by decide) h (fun c193 h => ?_) (fun c193 h => ?_)
      · refine z_iconst hc dX12_weightOf_196 ?_
        refine z_goto (tgt := 209) hc dX12_weightOf_197 (by decide) ?_
        refine z_sub [(0, .ref (a 168)), (1, .int (zI v1)), (4, .int (zI v4))] [0, 1, 3] rfl ?_
        exact w_X12_weightOf_209 hc hap k1 k2 h
      · refine z_aload_n (i := 0) 0 hc dX12_weightOf_200 rfl rfl ?_
        refine z_getA (k' := 186) hc fl_RX12_69 tT_168 (by decide) rfl rfl dX12_weightOf_201 ?_
        refine z_iload 3 hc dX12_weightOf_204 rfl ?_
        refine z_iconst hc dX12_weightOf_206 ?_
        refine z_isub hc dX12_weightOf_207 ?_
        refine z_iald (kI := 186) (nI9 := 4) hc tT_186 (by decide) rfl rfl (by decide) dX12_weightOf_208 h (fun g16 h => ?_)
        refine z_sub [(0, .ref (a 168)), (1, .int (zI v1)), (4, .int (zI v4))] [0, 1, 3] rfl ?_
        exact w_X12_weightOf_209 hc hap k1 k2 h
    · refine z_sub [(0, .ref (a 168)), (2, .long (zJ v2))] [0, 2] rfl ?_
      exact k2 v2 (Option.some.inj h).symm
def J_X12_weightOf_251 (s0 : Int) (st : z_St) : Option (Int × z_St) :=
  some (s0, st)
set_option maxRecDepth 100000 in
set_option maxHeartbeats 4000000 in
theorem w_X12_weightOf_251 {κ : zK} {a : Nat → Nat} {s0 : Int} {st : z_St} {o : Int × z_St} (hc : z_C κ RX12 cX12_weightOf 7 11 0 0) (hap : z_AP κ a z_N) (he : z_E 1 κ (some .long) z_T z_N a o.1 o.2) (h : J_X12_weightOf_251 s0 st = some o) : z_V κ z_T z_N a 0 0 251 [] [.long (zJ s0)] st := by
  unfold J_X12_weightOf_251 at h
  have h := Option.some.inj h
  subst h
  exact z_retJ hc he dX12_weightOf_251
def J_X12_weightOf (x1 : Int) (st : z_St) : Option (Int × z_St) :=
  z_b (z_iter z_F (fun q9 : (Int × z_St) => J_X12_weightOf_b2 x1 q9.1 q9.2) (0, st)) fun lx11 =>
    z_g (0 ≤ (17 * x1) + (lx11 168 2) ∧ (17 * x1) + (lx11 168 2) < 85) <|
    z_b (z_iter z_F (fun q9 : (Int × Int) => J_X12_weightOf_b175 x1 q9.1 q9.2 lx11) (lx11 188 ((17 * x1) + (lx11 168 2)), 0)) fun lx17 =>
      z_g (z32 (lx11 168 2)) (if 0 < lx11 168 2 then
        J_X12_weightOf_251 lx17 lx11
      else
        J_X12_weightOf_251 1000000000000000000 lx11)
set_option maxRecDepth 100000 in
set_option maxHeartbeats 4000000 in
theorem w_X12_weightOf {κ : zK} {a : Nat → Nat} {x1 : Int} {st : z_St} {o : Int × z_St} (hc : z_C κ RX12 cX12_weightOf 7 11 0 0) (hap : z_AP κ a z_N) (he : z_E 1 κ (some .long) z_T z_N a o.1 o.2) (h : J_X12_weightOf x1 st = some o) : z_V κ z_T z_N a 0 0 0 [(0, .ref (a 168)), (1, .int (zI x1))] [] st := by
  unfold J_X12_weightOf at h
  refine z_iconst hc dX12_weightOf_0 ?_
  refine z_istore_n (i := 2) [(2, .int (zI 0)), (0, .ref (a 168)), (1, .int (zI x1))] hc dX12_weightOf_1 rfl (by decide) rfl ?_
  obtain ⟨lx11, hlx11, h⟩ := z_b_some h
  refine z_sub [(0, .ref (a 168)), (1, .int (zI x1)), (2, .int (zI 0))] [1, 2, 0] rfl ?_
  refine z_loop (fun q9 : (Int × z_St) => J_X12_weightOf_b2 x1 q9.1 q9.2) (fun q9 : (Int × z_St) => z_V κ z_T z_N a 0 0 2 [(0, .ref (a 168)), (1, .int (zI x1)), (2, .int (zI q9.1))] [] q9.2) (fun x9 : z_St => z_V κ z_T z_N a 0 0 157 [(0, .ref (a 168)), (1, .int (zI x1))] [] x9) (fun q9 o9 hb k1 k2 => ?_) _ _ _ hlx11 ?_
  · exact w_X12_weightOf_b2 hc hap k1 k2 hb
  · show z_V κ z_T z_N a 0 0 157 [(0, .ref (a 168)), (1, .int (zI x1))] [] lx11
    refine z_aload_n (i := 0) 0 hc dX12_weightOf_157 rfl rfl ?_
    refine z_getA (k' := 188) hc fl_RX12_75 tT_168 (by decide) rfl rfl dX12_weightOf_158 ?_
    refine z_bipush hc dX12_weightOf_161 rfl ?_
    refine z_iload_n (i := 1) 1 hc dX12_weightOf_163 rfl rfl ?_
    refine z_imul hc dX12_weightOf_164 ?_
    refine z_aload_n (i := 0) 0 hc dX12_weightOf_165 rfl rfl ?_
    refine z_getI (kI := 168) (jI := 2) hc fl_RX12_128 tT_168 (by decide) rfl rfl rfl dX12_weightOf_166 ?_
    refine z_iadd hc dX12_weightOf_169 ?_
    refine z_lald (kI := 188) (nI9 := 85) hc tT_188 (by decide) rfl rfl (by decide) dX12_weightOf_170 h (fun g12 h => ?_)
    refine z_lstore_n (i := 2) [(2, .long (zJ (lx11 188 ((17 * x1) + (lx11 168 2))))), (0, .ref (a 168)), (1, .int (zI x1))] hc dX12_weightOf_171 rfl (by decide) rfl ?_
    refine z_iconst hc dX12_weightOf_172 ?_
    refine z_istore [(4, .int (zI 0)), (2, .long (zJ (lx11 188 ((17 * x1) + (lx11 168 2))))), (0, .ref (a 168)), (1, .int (zI x1))] hc dX12_weightOf_173 (by decide) rfl ?_
    obtain ⟨lx17, hlx17, h⟩ := z_b_some h
    refine z_sub [(0, .ref (a 168)), (1, .int (zI x1)), (2, .long (zJ (lx11 188 ((17 * x1) + (lx11 168 2))))), (4, .int (zI 0))] [2, 3, 1, 0] rfl ?_
    refine z_loop (fun q9 : (Int × Int) => J_X12_weightOf_b175 x1 q9.1 q9.2 lx11) (fun q9 : (Int × Int) => z_V κ z_T z_N a 0 0 175 [(0, .ref (a 168)), (1, .int (zI x1)), (2, .long (zJ q9.1)), (4, .int (zI q9.2))] [] lx11) (fun x9 : Int => z_V κ z_T z_N a 0 0 237 [(0, .ref (a 168)), (2, .long (zJ x9))] [] lx11) (fun q9 o9 hb k1 k2 => ?_) _ _ _ hlx17 ?_
    · exact w_X12_weightOf_b175 hc hap k1 k2 hb
    · show z_V κ z_T z_N a 0 0 237 [(0, .ref (a 168)), (2, .long (zJ lx17))] [] lx11
      refine z_aload_n (i := 0) 0 hc dX12_weightOf_237 rfl rfl ?_
      refine z_getI (kI := 168) (jI := 2) hc fl_RX12_128 tT_168 (by decide) rfl rfl rfl dX12_weightOf_238 ?_
      refine z_if_le (tgt := 248) hc dX12_weightOf_241 (by decide) h (fun c241 h => ?_) (fun c241 h => ?_)
      · refine z_lload_n (i := 2) 1 hc dX12_weightOf_244 rfl rfl ?_
        refine z_goto (tgt := 251) hc dX12_weightOf_245 (by decide) ?_
        refine z_sub [] [] rfl ?_
        exact w_X12_weightOf_251 hc hap he h
      · refine z_ldc2 1000000000000000000 hc kc_RX12_205 dX12_weightOf_248 rfl ?_
        refine z_sub [] [] rfl ?_
        exact w_X12_weightOf_251 hc hap he h
set_option maxRecDepth 100000 in
set_option maxHeartbeats 4000000 in
theorem c_X12_weightOf {l : Launch} (hl : l.stackTraces = false) {a : Nat → Nat} {x1 : Int} {st : z_St} {o : Int × z_St} (h : J_X12_weightOf x1 st = some o) : z_M 1 l yX12_weightOf cX12_weightOf 7 (some .long) 11 z_T z_N a [.ref (a 168), .int (zI x1)] st o.1 o.2 := z_of hl (by decide +kernel) (Nat.le_of_ble_eq_true rfl) (fun κ hc hap he => w_X12_weightOf hc hap he h)
theorem dX12_laysRows_0 : decode cX12_laysRows 0 = .ok (.aload_n 0, 1) := by decide +kernel
theorem dX12_laysRows_1 : decode cX12_laysRows 1 = .ok (.invokevirtual 218, 3) := by decide +kernel
theorem dX12_laysRows_4 : decode cX12_laysRows 4 = .ok (.aload_n 0, 1) := by decide +kernel
theorem dX12_laysRows_5 : decode cX12_laysRows 5 = .ok (.iconst 0, 1) := by decide +kernel
theorem dX12_laysRows_6 : decode cX12_laysRows 6 = .ok (.putfield 256, 3) := by decide +kernel
theorem dX12_laysRows_9 : decode cX12_laysRows 9 = .ok (.iconst (-1), 1) := by decide +kernel
theorem dX12_laysRows_10 : decode cX12_laysRows 10 = .ok (.istore_n 1, 1) := by decide +kernel
theorem dX12_laysRows_11 : decode cX12_laysRows 11 = .ok (.iconst 1, 1) := by decide +kernel
theorem dX12_laysRows_12 : decode cX12_laysRows 12 = .ok (.istore_n 2, 1) := by decide +kernel
theorem dX12_laysRows_13 : decode cX12_laysRows 13 = .ok (.iload_n 2, 1) := by decide +kernel
theorem dX12_laysRows_14 : decode cX12_laysRows 14 = .ok (.sipush 5555, 3) := by decide +kernel
theorem dX12_laysRows_17 : decode cX12_laysRows 17 = .ok (.if_icmp .gt 102, 3) := by decide +kernel
theorem dX12_laysRows_20 : decode cX12_laysRows 20 = .ok (.aload_n 0, 1) := by decide +kernel
theorem dX12_laysRows_21 : decode cX12_laysRows 21 = .ok (.getfield 189, 3) := by decide +kernel
theorem dX12_laysRows_24 : decode cX12_laysRows 24 = .ok (.ifCond .le 95, 3) := by decide +kernel
theorem dX12_laysRows_27 : decode cX12_laysRows 27 = .ok (.aload_n 0, 1) := by decide +kernel
theorem dX12_laysRows_28 : decode cX12_laysRows 28 = .ok (.iload_n 2, 1) := by decide +kernel
theorem dX12_laysRows_29 : decode cX12_laysRows 29 = .ok (.aload_n 0, 1) := by decide +kernel
theorem dX12_laysRows_30 : decode cX12_laysRows 30 = .ok (.getfield 69, 3) := by decide +kernel
theorem dX12_laysRows_33 : decode cX12_laysRows 33 = .ok (.invokevirtual 231, 3) := by decide +kernel
theorem dX12_laysRows_36 : decode cX12_laysRows 36 = .ok (.istore_n 3, 1) := by decide +kernel
theorem dX12_laysRows_37 : decode cX12_laysRows 37 = .ok (.iload_n 3, 1) := by decide +kernel
theorem dX12_laysRows_38 : decode cX12_laysRows 38 = .ok (.ifCond .le 75, 3) := by decide +kernel
theorem dX12_laysRows_41 : decode cX12_laysRows 41 = .ok (.aload_n 0, 1) := by decide +kernel
theorem dX12_laysRows_42 : decode cX12_laysRows 42 = .ok (.iload_n 3, 1) := by decide +kernel
theorem dX12_laysRows_43 : decode cX12_laysRows 43 = .ok (.invokevirtual 259, 3) := by decide +kernel
theorem dX12_laysRows_46 : decode cX12_laysRows 46 = .ok (.lstore 4, 2) := by decide +kernel
theorem dX12_laysRows_48 : decode cX12_laysRows 48 = .ok (.aload_n 0, 1) := by decide +kernel
theorem dX12_laysRows_49 : decode cX12_laysRows 49 = .ok (.getfield 78, 3) := by decide +kernel
theorem dX12_laysRows_52 : decode cX12_laysRows 52 = .ok (.aload_n 0, 1) := by decide +kernel
theorem dX12_laysRows_53 : decode cX12_laysRows 53 = .ok (.getfield 256, 3) := by decide +kernel
theorem dX12_laysRows_56 : decode cX12_laysRows 56 = .ok (.lload 4, 2) := by decide +kernel
theorem dX12_laysRows_58 : decode cX12_laysRows 58 = .ok (.lastore, 1) := by decide +kernel
theorem dX12_laysRows_59 : decode cX12_laysRows 59 = .ok (.aload_n 0, 1) := by decide +kernel
theorem dX12_laysRows_60 : decode cX12_laysRows 60 = .ok (.getfield 81, 3) := by decide +kernel
theorem dX12_laysRows_63 : decode cX12_laysRows 63 = .ok (.aload_n 0, 1) := by decide +kernel
theorem dX12_laysRows_64 : decode cX12_laysRows 64 = .ok (.getfield 256, 3) := by decide +kernel
theorem dX12_laysRows_67 : decode cX12_laysRows 67 = .ok (.iload_n 2, 1) := by decide +kernel
theorem dX12_laysRows_68 : decode cX12_laysRows 68 = .ok (.iastore, 1) := by decide +kernel
theorem dX12_laysRows_69 : decode cX12_laysRows 69 = .ok (.lload 4, 2) := by decide +kernel
theorem dX12_laysRows_71 : decode cX12_laysRows 71 = .ok (.ldc2_w 205, 3) := by decide +kernel
theorem dX12_laysRows_74 : decode cX12_laysRows 74 = .ok (.lcmp, 1) := by decide +kernel
theorem dX12_laysRows_75 : decode cX12_laysRows 75 = .ok (.ifCond .ge 26, 3) := by decide +kernel
theorem dX12_laysRows_78 : decode cX12_laysRows 78 = .ok (.iload_n 1, 1) := by decide +kernel
theorem dX12_laysRows_79 : decode cX12_laysRows 79 = .ok (.ifCond .lt 15, 3) := by decide +kernel
theorem dX12_laysRows_82 : decode cX12_laysRows 82 = .ok (.lload 4, 2) := by decide +kernel
theorem dX12_laysRows_84 : decode cX12_laysRows 84 = .ok (.aload_n 0, 1) := by decide +kernel
theorem dX12_laysRows_85 : decode cX12_laysRows 85 = .ok (.getfield 78, 3) := by decide +kernel
theorem dX12_laysRows_88 : decode cX12_laysRows 88 = .ok (.iload_n 1, 1) := by decide +kernel
theorem dX12_laysRows_89 : decode cX12_laysRows 89 = .ok (.laload, 1) := by decide +kernel
theorem dX12_laysRows_90 : decode cX12_laysRows 90 = .ok (.lcmp, 1) := by decide +kernel
theorem dX12_laysRows_91 : decode cX12_laysRows 91 = .ok (.ifCond .ge 10, 3) := by decide +kernel
theorem dX12_laysRows_94 : decode cX12_laysRows 94 = .ok (.aload_n 0, 1) := by decide +kernel
theorem dX12_laysRows_95 : decode cX12_laysRows 95 = .ok (.getfield 256, 3) := by decide +kernel
theorem dX12_laysRows_98 : decode cX12_laysRows 98 = .ok (.goto 4, 3) := by decide +kernel
theorem dX12_laysRows_101 : decode cX12_laysRows 101 = .ok (.iload_n 1, 1) := by decide +kernel
theorem dX12_laysRows_102 : decode cX12_laysRows 102 = .ok (.istore_n 1, 1) := by decide +kernel
theorem dX12_laysRows_103 : decode cX12_laysRows 103 = .ok (.aload_n 0, 1) := by decide +kernel
theorem dX12_laysRows_104 : decode cX12_laysRows 104 = .ok (.dup, 1) := by decide +kernel
theorem dX12_laysRows_105 : decode cX12_laysRows 105 = .ok (.getfield 256, 3) := by decide +kernel
theorem dX12_laysRows_108 : decode cX12_laysRows 108 = .ok (.iconst 1, 1) := by decide +kernel
theorem dX12_laysRows_109 : decode cX12_laysRows 109 = .ok (.iadd, 1) := by decide +kernel
theorem dX12_laysRows_110 : decode cX12_laysRows 110 = .ok (.putfield 256, 3) := by decide +kernel
theorem dX12_laysRows_113 : decode cX12_laysRows 113 = .ok (.iinc 2 1, 3) := by decide +kernel
theorem dX12_laysRows_116 : decode cX12_laysRows 116 = .ok (.goto (-103), 3) := by decide +kernel
theorem dX12_laysRows_119 : decode cX12_laysRows 119 = .ok (.iload_n 1, 1) := by decide +kernel
theorem dX12_laysRows_120 : decode cX12_laysRows 120 = .ok (.ireturn, 1) := by decide +kernel
def J_X12_laysRows_113 (v1 v2 : Int) (st : z_St) : Option ((Int × Int × z_St) ⊕ (Int × z_St)) :=
  some (.inl (v1, v2 + 1, st))
set_option maxRecDepth 100000 in
set_option maxHeartbeats 4000000 in
theorem w_X12_laysRows_113 {κ : zK} {a : Nat → Nat} {v1 v2 : Int} {st : z_St} {mc9 ms9 : Nat} {o : (Int × Int × z_St) ⊕ (Int × z_St)} (hc : z_C κ RX12 cX12_laysRows 6 12 mc9 ms9) (hap : z_AP κ a z_N) (k1 : ∀ s9 : (Int × Int × z_St), o = .inl s9 → z_V κ z_T z_N a 0 0 13 [(0, .ref (a 168)), (1, .int (zI s9.1)), (2, .int (zI s9.2.1))] [] s9.2.2) (k2 : ∀ x9 : (Int × z_St), o = .inr x9 → z_V κ z_T z_N a 0 0 119 [(1, .int (zI x9.1))] [] x9.2) (h : J_X12_laysRows_113 v1 v2 st = some o) : z_V κ z_T z_N a 0 0 113 [(0, .ref (a 168)), (1, .int (zI v1)), (2, .int (zI v2))] [] st := by
  unfold J_X12_laysRows_113 at h
  refine z_iinc [(2, .int (zI (v2 + 1))), (0, .ref (a 168)), (1, .int (zI v1))] 2 hc dX12_laysRows_113 rfl (by decide) rfl ?_
  refine z_goto (tgt := 13) hc dX12_laysRows_116 (by decide) ?_
  refine z_sub [(0, .ref (a 168)), (1, .int (zI v1)), (2, .int (zI (v2 + 1)))] [1, 2, 0] rfl ?_
  exact k1 _ (Option.some.inj h).symm
def J_X12_laysRows_102 (v2 s0 : Int) (st : z_St) : Option ((Int × Int × z_St) ⊕ (Int × z_St)) :=
  z_let (z_up st 168 31 ((st 168 31) + 1)) fun st10 =>
  J_X12_laysRows_113 s0 v2 st10
set_option maxRecDepth 100000 in
set_option maxHeartbeats 4000000 in
theorem w_X12_laysRows_102 {κ : zK} {a : Nat → Nat} {v2 s0 : Int} {st : z_St} {mc9 ms9 : Nat} {o : (Int × Int × z_St) ⊕ (Int × z_St)} (hc : z_C κ RX12 cX12_laysRows 6 12 mc9 ms9) (hap : z_AP κ a z_N) (k1 : ∀ s9 : (Int × Int × z_St), o = .inl s9 → z_V κ z_T z_N a 0 0 13 [(0, .ref (a 168)), (1, .int (zI s9.1)), (2, .int (zI s9.2.1))] [] s9.2.2) (k2 : ∀ x9 : (Int × z_St), o = .inr x9 → z_V κ z_T z_N a 0 0 119 [(1, .int (zI x9.1))] [] x9.2) (h : J_X12_laysRows_102 v2 s0 st = some o) : z_V κ z_T z_N a 0 0 102 [(0, .ref (a 168)), (2, .int (zI v2))] [.int (zI s0)] st := by
  unfold J_X12_laysRows_102 at h
  refine z_istore_n (i := 1) [(1, .int (zI s0)), (0, .ref (a 168)), (2, .int (zI v2))] hc dX12_laysRows_102 rfl (by decide) rfl ?_
  refine z_aload_n (i := 0) 1 hc dX12_laysRows_103 rfl rfl ?_
  refine z_dup hc dX12_laysRows_104 rfl ?_
  refine z_getI (kI := 168) (jI := 31) hc fl_RX12_256 tT_168 (by decide) rfl rfl rfl dX12_laysRows_105 ?_
  refine z_iconst hc dX12_laysRows_108 ?_
  refine z_iadd hc dX12_laysRows_109 ?_
  refine z_putI (kI := 168) (jI := 31) hc hap fp_RX12_256 tT_168 (by decide) rfl rfl rfl dX12_laysRows_110 h (fun st10 h => ?_)
  refine z_sub [(0, .ref (a 168)), (1, .int (zI s0)), (2, .int (zI v2))] [1, 0, 2] rfl ?_
  exact w_X12_laysRows_113 hc hap k1 k2 h
def J_X12_laysRows_94 (v2 : Int) (st : z_St) : Option ((Int × Int × z_St) ⊕ (Int × z_St)) :=
  J_X12_laysRows_102 v2 (st 168 31) st
set_option maxRecDepth 100000 in
set_option maxHeartbeats 4000000 in
theorem w_X12_laysRows_94 {κ : zK} {a : Nat → Nat} {v2 : Int} {st : z_St} {mc9 ms9 : Nat} {o : (Int × Int × z_St) ⊕ (Int × z_St)} (hc : z_C κ RX12 cX12_laysRows 6 12 mc9 ms9) (hap : z_AP κ a z_N) (k1 : ∀ s9 : (Int × Int × z_St), o = .inl s9 → z_V κ z_T z_N a 0 0 13 [(0, .ref (a 168)), (1, .int (zI s9.1)), (2, .int (zI s9.2.1))] [] s9.2.2) (k2 : ∀ x9 : (Int × z_St), o = .inr x9 → z_V κ z_T z_N a 0 0 119 [(1, .int (zI x9.1))] [] x9.2) (h : J_X12_laysRows_94 v2 st = some o) : z_V κ z_T z_N a 0 0 94 [(0, .ref (a 168)), (2, .int (zI v2))] [] st := by
  unfold J_X12_laysRows_94 at h
  refine z_aload_n (i := 0) 0 hc dX12_laysRows_94 rfl rfl ?_
  refine z_getI (kI := 168) (jI := 31) hc fl_RX12_256 tT_168 (by decide) rfl rfl rfl dX12_laysRows_95 ?_
  refine z_goto (tgt := 102) hc dX12_laysRows_98 (by decide) ?_
  refine z_sub [(0, .ref (a 168)), (2, .int (zI v2))] [0, 1] rfl ?_
  exact w_X12_laysRows_102 hc hap k1 k2 h
def J_X12_laysRows_101 (v1 v2 : Int) (st : z_St) : Option ((Int × Int × z_St) ⊕ (Int × z_St)) :=
  J_X12_laysRows_102 v2 v1 st
set_option maxRecDepth 100000 in
set_option maxHeartbeats 4000000 in
theorem w_X12_laysRows_101 {κ : zK} {a : Nat → Nat} {v1 v2 : Int} {st : z_St} {mc9 ms9 : Nat} {o : (Int × Int × z_St) ⊕ (Int × z_St)} (hc : z_C κ RX12 cX12_laysRows 6 12 mc9 ms9) (hap : z_AP κ a z_N) (k1 : ∀ s9 : (Int × Int × z_St), o = .inl s9 → z_V κ z_T z_N a 0 0 13 [(0, .ref (a 168)), (1, .int (zI s9.1)), (2, .int (zI s9.2.1))] [] s9.2.2) (k2 : ∀ x9 : (Int × z_St), o = .inr x9 → z_V κ z_T z_N a 0 0 119 [(1, .int (zI x9.1))] [] x9.2) (h : J_X12_laysRows_101 v1 v2 st = some o) : z_V κ z_T z_N a 0 0 101 [(0, .ref (a 168)), (1, .int (zI v1)), (2, .int (zI v2))] [] st := by
  unfold J_X12_laysRows_101 at h
  refine z_iload_n (i := 1) 1 hc dX12_laysRows_101 rfl rfl ?_
  refine z_sub [(0, .ref (a 168)), (2, .int (zI v2))] [0, 2] rfl ?_
  exact w_X12_laysRows_102 hc hap k1 k2 h
def J_X12_laysRows_b13 (v1 v2 : Int) (st : z_St) : Option ((Int × Int × z_St) ⊕ (Int × z_St)) :=
  z_g (z32 v2 ∧ z32 5555) (if 5555 < v2 then
    some (.inr (v1, st))
  else
    z_g (z32 (st 168 18)) (if 0 < st 168 18 then
      z_b (J_X12_apart v2 186 st) fun r4 =>
      z_g (z32 r4.1) (if 0 < r4.1 then
        z_b (J_X12_weightOf r4.1 r4.2) fun r6 =>
        z_g (0 ≤ r6.2 168 31 ∧ r6.2 168 31 < 780) <|
        z_let (z_up r6.2 189 (r6.2 168 31) r6.1) fun st8 =>
        z_g (0 ≤ st8 168 31 ∧ st8 168 31 < 780) <|
        z_let (z_up st8 190 (st8 168 31) v2) fun st9 =>
        z_g (z64 r6.1 ∧ z64 1000000000000000000) (if r6.1 < 1000000000000000000 then
          z_g (z32 v1) (if v1 < 0 then
            J_X12_laysRows_94 v2 st9
          else
            z_g (0 ≤ v1 ∧ v1 < 780) <|
            z_g (z64 r6.1 ∧ z64 (st9 189 v1)) (if r6.1 < st9 189 v1 then
              J_X12_laysRows_94 v2 st9
            else
              J_X12_laysRows_101 v1 v2 st9))
        else
          J_X12_laysRows_101 v1 v2 st9)
      else
        J_X12_laysRows_113 v1 v2 r4.2)
    else
      some (.inr (v1, st))))
set_option maxRecDepth 100000 in
set_option maxHeartbeats 4000000 in
theorem w_X12_laysRows_b13 {κ : zK} {a : Nat → Nat} {v1 v2 : Int} {st : z_St} {mc9 ms9 : Nat} {o : (Int × Int × z_St) ⊕ (Int × z_St)} (hc : z_C κ RX12 cX12_laysRows 6 12 mc9 ms9) (hap : z_AP κ a z_N) (k1 : ∀ s9 : (Int × Int × z_St), o = .inl s9 → z_V κ z_T z_N a 0 0 13 [(0, .ref (a 168)), (1, .int (zI s9.1)), (2, .int (zI s9.2.1))] [] s9.2.2) (k2 : ∀ x9 : (Int × z_St), o = .inr x9 → z_V κ z_T z_N a 0 0 119 [(1, .int (zI x9.1))] [] x9.2) (h : J_X12_laysRows_b13 v1 v2 st = some o) : z_V κ z_T z_N a 0 0 13 [(0, .ref (a 168)), (1, .int (zI v1)), (2, .int (zI v2))] [] st := by
  unfold J_X12_laysRows_b13 at h
  refine z_iload_n (i := 2) 2 hc dX12_laysRows_13 rfl rfl ?_
  refine z_sipush hc dX12_laysRows_14 rfl ?_
  refine z_icmp_gt (tgt := 119) hc dX12_laysRows_17 (by decide) h (fun c17 h => ?_) (fun c17 h => ?_)
  · refine z_sub [(1, .int (zI v1))] [1] rfl ?_
    exact k2 (v1, st) (Option.some.inj h).symm
  · refine z_aload_n (i := 0) 0 hc dX12_laysRows_20 rfl rfl ?_
    refine z_getI (kI := 168) (jI := 18) hc fl_RX12_189 tT_168 (by decide) rfl rfl rfl dX12_laysRows_21 ?_
    refine z_if_le (tgt := 119) hc dX12_laysRows_24 (by decide) h (fun c24 h => ?_) (fun c24 h => ?_)
    · refine z_aload_n (i := 0) 0 hc dX12_laysRows_27 rfl rfl ?_
      refine z_iload_n (i := 2) 2 hc dX12_laysRows_28 rfl rfl ?_
      refine z_aload_n (i := 0) 0 hc dX12_laysRows_29 rfl rfl ?_
      refine z_getA (k' := 186) hc fl_RX12_69 tT_168 (by decide) rfl rfl dX12_laysRows_30 ?_
      obtain ⟨r4, hr4, h⟩ := z_b_some h
      refine z_callVI [.int (zI v2), .ref (a 186)] hc hap o_X12_apart ml_RX12_231 (fun l hl => c_X12_apart hl (z_isArr_lit (by decide) tT_186) hr4) (by decide) tT_168 (by decide) ⟨_, rfl, rfl⟩ rfl rfl (Nat.le_of_ble_eq_true rfl) (Nat.zero_le _) (Nat.zero_le _) dX12_laysRows_33 ?_
      refine z_istore_n (i := 3) [(3, .int (zI r4.1)), (0, .ref (a 168)), (1, .int (zI v1)), (2, .int (zI v2))] hc dX12_laysRows_36 rfl (by decide) rfl ?_
      refine z_iload_n (i := 3) 0 hc dX12_laysRows_37 rfl rfl ?_
      refine z_if_le (tgt := 113) hc dX12_laysRows_38 (by decide) h (fun c38 h => ?_) (fun c38 h => ?_)
      · refine z_aload_n (i := 0) 1 hc dX12_laysRows_41 rfl rfl ?_
        refine z_iload_n (i := 3) 0 hc dX12_laysRows_42 rfl rfl ?_
        obtain ⟨r6, hr6, h⟩ := z_b_some h
        refine z_callVJ [.int (zI r4.1)] hc hap o_X12_weightOf ml_RX12_259 (fun l hl => c_X12_weightOf hl  hr6) (by decide) tT_168 (by decide) ⟨_, rfl, rfl⟩ rfl rfl (Nat.le_of_ble_eq_true rfl) (Nat.zero_le _) (Nat.zero_le _) dX12_laysRows_43 ?_
        refine z_lstore [(4, .long (zJ r6.1)), (3, .int (zI r4.1)), (0, .ref (a 168)), (1, .int (zI v1)), (2, .int (zI v2))] hc dX12_laysRows_46 (by decide) rfl ?_
        refine z_aload_n (i := 0) 2 hc dX12_laysRows_48 rfl rfl ?_
        refine z_getA (k' := 189) hc fl_RX12_78 tT_168 (by decide) rfl rfl dX12_laysRows_49 ?_
        refine z_aload_n (i := 0) 2 hc dX12_laysRows_52 rfl rfl ?_
        refine z_getI (kI := 168) (jI := 31) hc fl_RX12_256 tT_168 (by decide) rfl rfl rfl dX12_laysRows_53 ?_
        refine z_lload 0 hc dX12_laysRows_56 rfl ?_
        refine z_last (kI := 189) (nI9 := 780) hc hap tT_189 (by decide) rfl rfl (by decide) dX12_laysRows_58 h (fun st8 h => ?_)
        refine z_aload_n (i := 0) 2 hc dX12_laysRows_59 rfl rfl ?_
        refine z_getA (k' := 190) hc fl_RX12_81 tT_168 (by decide) rfl rfl dX12_laysRows_60 ?_
        refine z_aload_n (i := 0) 2 hc dX12_laysRows_63 rfl rfl ?_
        refine z_getI (kI := 168) (jI := 31) hc fl_RX12_256 tT_168 (by decide) rfl rfl rfl dX12_laysRows_64 ?_
        refine z_iload_n (i := 2) 4 hc dX12_laysRows_67 rfl rfl ?_
        refine z_iast (kI := 190) (nI9 := 780) hc hap tT_190 (by decide) rfl rfl (by decide) dX12_laysRows_68 h (fun st9 h => ?_)
        refine z_lload 0 hc dX12_laysRows_69 rfl ?_
        refine z_ldc2 1000000000000000000 hc kc_RX12_205 dX12_laysRows_71 rfl ?_
        refine z_lcmp_ge (tgt := 101) hc dX12_laysRows_74 dX12_laysRows_75 (by decide) h (fun c74 h => ?_) (fun c74 h => ?_)
        · refine z_iload_n (i := 1) 3 hc dX12_laysRows_78 rfl rfl ?_
          refine z_if_lt (tgt := 94) hc dX12_laysRows_79 (by decide) h (fun c79 h => ?_) (fun c79 h => ?_)
          · refine z_sub [(0, .ref (a 168)), (2, .int (zI v2))] [2, 4] rfl ?_
            exact w_X12_laysRows_94 hc hap k1 k2 h
          · refine z_lload 0 hc dX12_laysRows_82 rfl ?_
            refine z_aload_n (i := 0) 2 hc dX12_laysRows_84 rfl rfl ?_
            refine z_getA (k' := 189) hc fl_RX12_78 tT_168 (by decide) rfl rfl dX12_laysRows_85 ?_
            refine z_iload_n (i := 1) 3 hc dX12_laysRows_88 rfl rfl ?_
            refine z_lald (kI := 189) (nI9 := 780) hc tT_189 (by decide) rfl rfl (by decide) dX12_laysRows_89 h (fun g11 h => ?_)
            refine z_lcmp_ge (tgt := 101) hc dX12_laysRows_90 dX12_laysRows_91 (by decide) h (fun c90 h => ?_) (fun c90 h => ?_)
            · refine z_sub [(0, .ref (a 168)), (2, .int (zI v2))] [2, 4] rfl ?_
              exact w_X12_laysRows_94 hc hap k1 k2 h
            · refine z_sub [(0, .ref (a 168)), (1, .int (zI v1)), (2, .int (zI v2))] [2, 3, 4] rfl ?_
              exact w_X12_laysRows_101 hc hap k1 k2 h
        · refine z_sub [(0, .ref (a 168)), (1, .int (zI v1)), (2, .int (zI v2))] [2, 3, 4] rfl ?_
          exact w_X12_laysRows_101 hc hap k1 k2 h
      · refine z_sub [(0, .ref (a 168)), (1, .int (zI v1)), (2, .int (zI v2))] [1, 2, 3] rfl ?_
        exact w_X12_laysRows_113 hc hap k1 k2 h
    · refine z_sub [(1, .int (zI v1))] [1] rfl ?_
      exact k2 (v1, st) (Option.some.inj h).symm
def J_X12_laysRows (st : z_St) : Option (Int × z_St) :=
  z_b (J_X12_laysTable st) fun st2 =>
  z_let (z_up st2 168 31 0) fun st3 =>
  z_b (z_iter z_F (fun q9 : (Int × Int × z_St) => J_X12_laysRows_b13 q9.1 q9.2.1 q9.2.2) ((-1), 1, st3)) fun lx12 =>
    some (lx12.1, lx12.2)
set_option maxRecDepth 100000 in
set_option maxHeartbeats 4000000 in
theorem w_X12_laysRows {κ : zK} {a : Nat → Nat} {st : z_St} {o : Int × z_St} (hc : z_C κ RX12 cX12_laysRows 6 12 0 0) (hap : z_AP κ a z_N) (he : z_E 0 κ (some .int) z_T z_N a o.1 o.2) (h : J_X12_laysRows st = some o) : z_V κ z_T z_N a 0 0 0 [(0, .ref (a 168))] [] st := by
  unfold J_X12_laysRows at h
  refine z_aload_n (i := 0) 0 hc dX12_laysRows_0 rfl rfl ?_
  obtain ⟨st2, hr1, h⟩ := z_b_some h
  refine z_callVV [] hc hap o_X12_laysTable ml_RX12_218 (fun l hl => c_X12_laysTable hl  hr1) (by decide) tT_168 (by decide) ⟨_, rfl, rfl⟩ rfl rfl (Nat.le_of_ble_eq_true rfl) (Nat.zero_le _) (Nat.zero_le _) dX12_laysRows_1 ?_
  refine z_aload_n (i := 0) 0 hc dX12_laysRows_4 rfl rfl ?_
  refine z_iconst hc dX12_laysRows_5 ?_
  refine z_putI (kI := 168) (jI := 31) hc hap fp_RX12_256 tT_168 (by decide) rfl rfl rfl dX12_laysRows_6 h (fun st3 h => ?_)
  refine z_iconst hc dX12_laysRows_9 ?_
  refine z_istore_n (i := 1) [(1, .int (zI (-1))), (0, .ref (a 168))] hc dX12_laysRows_10 rfl (by decide) rfl ?_
  refine z_iconst hc dX12_laysRows_11 ?_
  refine z_istore_n (i := 2) [(2, .int (zI 1)), (1, .int (zI (-1))), (0, .ref (a 168))] hc dX12_laysRows_12 rfl (by decide) rfl ?_
  obtain ⟨lx12, hlx12, h⟩ := z_b_some h
  refine z_sub [(0, .ref (a 168)), (1, .int (zI (-1))), (2, .int (zI 1))] [2, 1, 0] rfl ?_
  refine z_loop (fun q9 : (Int × Int × z_St) => J_X12_laysRows_b13 q9.1 q9.2.1 q9.2.2) (fun q9 : (Int × Int × z_St) => z_V κ z_T z_N a 0 0 13 [(0, .ref (a 168)), (1, .int (zI q9.1)), (2, .int (zI q9.2.1))] [] q9.2.2) (fun x9 : (Int × z_St) => z_V κ z_T z_N a 0 0 119 [(1, .int (zI x9.1))] [] x9.2) (fun q9 o9 hb k1 k2 => ?_) _ _ _ hlx12 ?_
  · exact w_X12_laysRows_b13 hc hap k1 k2 hb
  · show z_V κ z_T z_N a 0 0 119 [(1, .int (zI lx12.1))] [] lx12.2
    refine z_iload_n (i := 1) 0 hc dX12_laysRows_119 rfl rfl ?_
    have h := Option.some.inj h
    subst h
    exact z_retI hc he dX12_laysRows_120
set_option maxRecDepth 100000 in
set_option maxHeartbeats 4000000 in
theorem c_X12_laysRows {l : Launch} (hl : l.stackTraces = false) {a : Nat → Nat} {st : z_St} {o : Int × z_St} (h : J_X12_laysRows st = some o) : z_M 0 l yX12_laysRows cX12_laysRows 6 (some .int) 12 z_T z_N a [.ref (a 168)] st o.1 o.2 := z_of hl (by decide +kernel) (Nat.le_of_ble_eq_true rfl) (fun κ hc hap he => w_X12_laysRows hc hap he h)
theorem dX12_laysRest_0 : decode cX12_laysRest 0 = .ok (.iload_n 1, 1) := by decide +kernel
theorem dX12_laysRest_1 : decode cX12_laysRest 1 = .ok (.istore_n 2, 1) := by decide +kernel
theorem dX12_laysRest_2 : decode cX12_laysRest 2 = .ok (.iload_n 2, 1) := by decide +kernel
theorem dX12_laysRest_3 : decode cX12_laysRest 3 = .ok (.ifCond .lt 162, 3) := by decide +kernel
theorem dX12_laysRest_6 : decode cX12_laysRest 6 = .ok (.iconst 0, 1) := by decide +kernel
theorem dX12_laysRest_7 : decode cX12_laysRest 7 = .ok (.istore_n 3, 1) := by decide +kernel
theorem dX12_laysRest_8 : decode cX12_laysRest 8 = .ok (.iload_n 3, 1) := by decide +kernel
theorem dX12_laysRest_9 : decode cX12_laysRest 9 = .ok (.aload_n 0, 1) := by decide +kernel
theorem dX12_laysRest_10 : decode cX12_laysRest 10 = .ok (.getfield 128, 3) := by decide +kernel
theorem dX12_laysRest_13 : decode cX12_laysRest 13 = .ok (.if_icmp .gt 146, 3) := by decide +kernel
theorem dX12_laysRest_16 : decode cX12_laysRest 16 = .ok (.iload_n 2, 1) := by decide +kernel
theorem dX12_laysRest_17 : decode cX12_laysRest 17 = .ok (.iload_n 1, 1) := by decide +kernel
theorem dX12_laysRest_18 : decode cX12_laysRest 18 = .ok (.if_icmp .ne 15, 3) := by decide +kernel
theorem dX12_laysRest_21 : decode cX12_laysRest 21 = .ok (.iload_n 3, 1) := by decide +kernel
theorem dX12_laysRest_22 : decode cX12_laysRest 22 = .ok (.aload_n 0, 1) := by decide +kernel
theorem dX12_laysRest_23 : decode cX12_laysRest 23 = .ok (.getfield 128, 3) := by decide +kernel
theorem dX12_laysRest_26 : decode cX12_laysRest 26 = .ok (.if_icmp .ne 7, 3) := by decide +kernel
theorem dX12_laysRest_29 : decode cX12_laysRest 29 = .ok (.lconst 0, 1) := by decide +kernel
theorem dX12_laysRest_30 : decode cX12_laysRest 30 = .ok (.goto 6, 3) := by decide +kernel
theorem dX12_laysRest_33 : decode cX12_laysRest 33 = .ok (.ldc2_w 205, 3) := by decide +kernel
theorem dX12_laysRest_36 : decode cX12_laysRest 36 = .ok (.lstore 4, 2) := by decide +kernel
theorem dX12_laysRest_38 : decode cX12_laysRest 38 = .ok (.iload_n 3, 1) := by decide +kernel
theorem dX12_laysRest_39 : decode cX12_laysRest 39 = .ok (.iconst 1, 1) := by decide +kernel
theorem dX12_laysRest_40 : decode cX12_laysRest 40 = .ok (.iadd, 1) := by decide +kernel
theorem dX12_laysRest_41 : decode cX12_laysRest 41 = .ok (.istore 6, 2) := by decide +kernel
theorem dX12_laysRest_43 : decode cX12_laysRest 43 = .ok (.iload 6, 2) := by decide +kernel
theorem dX12_laysRest_45 : decode cX12_laysRest 45 = .ok (.aload_n 0, 1) := by decide +kernel
theorem dX12_laysRest_46 : decode cX12_laysRest 46 = .ok (.getfield 128, 3) := by decide +kernel
theorem dX12_laysRest_49 : decode cX12_laysRest 49 = .ok (.if_icmp .gt 76, 3) := by decide +kernel
theorem dX12_laysRest_52 : decode cX12_laysRest 52 = .ok (.iload_n 2, 1) := by decide +kernel
theorem dX12_laysRest_53 : decode cX12_laysRest 53 = .ok (.iload_n 1, 1) := by decide +kernel
theorem dX12_laysRest_54 : decode cX12_laysRest 54 = .ok (.if_icmp .ge 71, 3) := by decide +kernel
theorem dX12_laysRest_57 : decode cX12_laysRest 57 = .ok (.aload_n 0, 1) := by decide +kernel
theorem dX12_laysRest_58 : decode cX12_laysRest 58 = .ok (.getfield 75, 3) := by decide +kernel
theorem dX12_laysRest_61 : decode cX12_laysRest 61 = .ok (.bipush 17, 2) := by decide +kernel
theorem dX12_laysRest_63 : decode cX12_laysRest 63 = .ok (.iload_n 2, 1) := by decide +kernel
theorem dX12_laysRest_64 : decode cX12_laysRest 64 = .ok (.iconst 1, 1) := by decide +kernel
theorem dX12_laysRest_65 : decode cX12_laysRest 65 = .ok (.iadd, 1) := by decide +kernel
theorem dX12_laysRest_66 : decode cX12_laysRest 66 = .ok (.imul, 1) := by decide +kernel
theorem dX12_laysRest_67 : decode cX12_laysRest 67 = .ok (.iload 6, 2) := by decide +kernel
theorem dX12_laysRest_69 : decode cX12_laysRest 69 = .ok (.iadd, 1) := by decide +kernel
theorem dX12_laysRest_70 : decode cX12_laysRest 70 = .ok (.laload, 1) := by decide +kernel
theorem dX12_laysRest_71 : decode cX12_laysRest 71 = .ok (.ldc2_w 205, 3) := by decide +kernel
theorem dX12_laysRest_74 : decode cX12_laysRest 74 = .ok (.lcmp, 1) := by decide +kernel
theorem dX12_laysRest_75 : decode cX12_laysRest 75 = .ok (.ifCond .ge 40, 3) := by decide +kernel
theorem dX12_laysRest_78 : decode cX12_laysRest 78 = .ok (.aload_n 0, 1) := by decide +kernel
theorem dX12_laysRest_79 : decode cX12_laysRest 79 = .ok (.lload 4, 2) := by decide +kernel
theorem dX12_laysRest_81 : decode cX12_laysRest 81 = .ok (.aload_n 0, 1) := by decide +kernel
theorem dX12_laysRest_82 : decode cX12_laysRest 82 = .ok (.getfield 75, 3) := by decide +kernel
theorem dX12_laysRest_85 : decode cX12_laysRest 85 = .ok (.bipush 17, 2) := by decide +kernel
theorem dX12_laysRest_87 : decode cX12_laysRest 87 = .ok (.iload_n 2, 1) := by decide +kernel
theorem dX12_laysRest_88 : decode cX12_laysRest 88 = .ok (.iconst 1, 1) := by decide +kernel
theorem dX12_laysRest_89 : decode cX12_laysRest 89 = .ok (.iadd, 1) := by decide +kernel
theorem dX12_laysRest_90 : decode cX12_laysRest 90 = .ok (.imul, 1) := by decide +kernel
theorem dX12_laysRest_91 : decode cX12_laysRest 91 = .ok (.iload 6, 2) := by decide +kernel
theorem dX12_laysRest_93 : decode cX12_laysRest 93 = .ok (.iadd, 1) := by decide +kernel
theorem dX12_laysRest_94 : decode cX12_laysRest 94 = .ok (.laload, 1) := by decide +kernel
theorem dX12_laysRest_95 : decode cX12_laysRest 95 = .ok (.aload_n 0, 1) := by decide +kernel
theorem dX12_laysRest_96 : decode cX12_laysRest 96 = .ok (.aload_n 0, 1) := by decide +kernel
theorem dX12_laysRest_97 : decode cX12_laysRest 97 = .ok (.getfield 69, 3) := by decide +kernel
theorem dX12_laysRest_100 : decode cX12_laysRest 100 = .ok (.iload_n 2, 1) := by decide +kernel
theorem dX12_laysRest_101 : decode cX12_laysRest 101 = .ok (.iaload, 1) := by decide +kernel
theorem dX12_laysRest_102 : decode cX12_laysRest 102 = .ok (.iload_n 3, 1) := by decide +kernel
theorem dX12_laysRest_103 : decode cX12_laysRest 103 = .ok (.iload 6, 2) := by decide +kernel
theorem dX12_laysRest_105 : decode cX12_laysRest 105 = .ok (.invokevirtual 221, 3) := by decide +kernel
theorem dX12_laysRest_108 : decode cX12_laysRest 108 = .ok (.ladd, 1) := by decide +kernel
theorem dX12_laysRest_109 : decode cX12_laysRest 109 = .ok (.invokevirtual 207, 3) := by decide +kernel
theorem dX12_laysRest_112 : decode cX12_laysRest 112 = .ok (.goto 5, 3) := by decide +kernel
theorem dX12_laysRest_115 : decode cX12_laysRest 115 = .ok (.lload 4, 2) := by decide +kernel
theorem dX12_laysRest_117 : decode cX12_laysRest 117 = .ok (.lstore 4, 2) := by decide +kernel
theorem dX12_laysRest_119 : decode cX12_laysRest 119 = .ok (.iinc 6 1, 3) := by decide +kernel
theorem dX12_laysRest_122 : decode cX12_laysRest 122 = .ok (.goto (-79), 3) := by decide +kernel
theorem dX12_laysRest_125 : decode cX12_laysRest 125 = .ok (.aload_n 0, 1) := by decide +kernel
theorem dX12_laysRest_126 : decode cX12_laysRest 126 = .ok (.getfield 75, 3) := by decide +kernel
theorem dX12_laysRest_129 : decode cX12_laysRest 129 = .ok (.bipush 17, 2) := by decide +kernel
theorem dX12_laysRest_131 : decode cX12_laysRest 131 = .ok (.iload_n 2, 1) := by decide +kernel
theorem dX12_laysRest_132 : decode cX12_laysRest 132 = .ok (.imul, 1) := by decide +kernel
theorem dX12_laysRest_133 : decode cX12_laysRest 133 = .ok (.iload_n 3, 1) := by decide +kernel
theorem dX12_laysRest_134 : decode cX12_laysRest 134 = .ok (.iadd, 1) := by decide +kernel
theorem dX12_laysRest_135 : decode cX12_laysRest 135 = .ok (.lload 4, 2) := by decide +kernel
theorem dX12_laysRest_137 : decode cX12_laysRest 137 = .ok (.ldc2_w 205, 3) := by decide +kernel
theorem dX12_laysRest_140 : decode cX12_laysRest 140 = .ok (.lcmp, 1) := by decide +kernel
theorem dX12_laysRest_141 : decode cX12_laysRest 141 = .ok (.ifCond .ge 8, 3) := by decide +kernel
theorem dX12_laysRest_144 : decode cX12_laysRest 144 = .ok (.lload 4, 2) := by decide +kernel
theorem dX12_laysRest_146 : decode cX12_laysRest 146 = .ok (.goto 6, 3) := by decide +kernel
theorem dX12_laysRest_149 : decode cX12_laysRest 149 = .ok (.ldc2_w 205, 3) := by decide +kernel
theorem dX12_laysRest_152 : decode cX12_laysRest 152 = .ok (.lastore, 1) := by decide +kernel
theorem dX12_laysRest_153 : decode cX12_laysRest 153 = .ok (.iinc 3 1, 3) := by decide +kernel
theorem dX12_laysRest_156 : decode cX12_laysRest 156 = .ok (.goto (-148), 3) := by decide +kernel
theorem dX12_laysRest_159 : decode cX12_laysRest 159 = .ok (.iinc 2 (-1), 3) := by decide +kernel
theorem dX12_laysRest_162 : decode cX12_laysRest 162 = .ok (.goto (-160), 3) := by decide +kernel
theorem dX12_laysRest_165 : decode cX12_laysRest 165 = .ok (.return_, 1) := by decide +kernel
def J_X12_laysRest_117 (v1 v2 v3 v6 s0 : Int) (st : z_St) : Option ((Int × Int) ⊕ Int) :=
  some (.inl (s0, v6 + 1))
set_option maxRecDepth 100000 in
set_option maxHeartbeats 4000000 in
theorem w_X12_laysRest_117 {κ : zK} {a : Nat → Nat} {v1 v2 v3 v6 s0 : Int} {st : z_St} {mc9 ms9 : Nat} {o : (Int × Int) ⊕ Int} (hc : z_C κ RX12 cX12_laysRest 7 10 mc9 ms9) (hap : z_AP κ a z_N) (k1 : ∀ s9 : (Int × Int), o = .inl s9 → z_V κ z_T z_N a 0 0 43 [(0, .ref (a 168)), (1, .int (zI v1)), (2, .int (zI v2)), (3, .int (zI v3)), (4, .long (zJ s9.1)), (6, .int (zI s9.2))] [] st) (k2 : ∀ x9 : Int, o = .inr x9 → z_V κ z_T z_N a 0 0 125 [(0, .ref (a 168)), (1, .int (zI v1)), (2, .int (zI v2)), (3, .int (zI v3)), (4, .long (zJ x9))] [] st) (h : J_X12_laysRest_117 v1 v2 v3 v6 s0 st = some o) : z_V κ z_T z_N a 0 0 117 [(0, .ref (a 168)), (1, .int (zI v1)), (2, .int (zI v2)), (3, .int (zI v3)), (6, .int (zI v6))] [.long (zJ s0)] st := by
  unfold J_X12_laysRest_117 at h
  refine z_lstore [(4, .long (zJ s0)), (0, .ref (a 168)), (1, .int (zI v1)), (2, .int (zI v2)), (3, .int (zI v3)), (6, .int (zI v6))] hc dX12_laysRest_117 (by decide) rfl ?_
  refine z_iinc [(6, .int (zI (v6 + 1))), (4, .long (zJ s0)), (0, .ref (a 168)), (1, .int (zI v1)), (2, .int (zI v2)), (3, .int (zI v3))] 5 hc dX12_laysRest_119 rfl (by decide) rfl ?_
  refine z_goto (tgt := 43) hc dX12_laysRest_122 (by decide) ?_
  refine z_sub [(0, .ref (a 168)), (1, .int (zI v1)), (2, .int (zI v2)), (3, .int (zI v3)), (4, .long (zJ s0)), (6, .int (zI (v6 + 1)))] [2, 3, 4, 5, 1, 0] rfl ?_
  exact k1 _ (Option.some.inj h).symm
def J_X12_laysRest_b43 (v1 v2 v3 v4 v6 : Int) (st : z_St) : Option ((Int × Int) ⊕ Int) :=
  z_g (z32 v6 ∧ z32 (st 168 2)) (if st 168 2 < v6 then
    some (.inr v4)
  else
    z_g (z32 v2 ∧ z32 v1) (if v2 < v1 then
      z_g (0 ≤ (17 * (v2 + 1)) + v6 ∧ (17 * (v2 + 1)) + v6 < 85) <|
      z_g (z64 (st 188 ((17 * (v2 + 1)) + v6)) ∧ z64 1000000000000000000) (if st 188 ((17 * (v2 + 1)) + v6) < 1000000000000000000 then
        z_g (0 ≤ (17 * (v2 + 1)) + v6 ∧ (17 * (v2 + 1)) + v6 < 85) <|
        z_g (0 ≤ v2 ∧ v2 < 4) <|
        z_b (J_X12_tableOf (st 186 v2) v3 v6 st) fun r4 =>
        z_b (J_X12_least v4 ((st 188 ((17 * (v2 + 1)) + v6)) + r4) st) fun r6 =>
        J_X12_laysRest_117 v1 v2 v3 v6 r6 st
      else
        J_X12_laysRest_117 v1 v2 v3 v6 v4 st)
    else
      some (.inr v4)))
set_option maxRecDepth 100000 in
set_option maxHeartbeats 4000000 in
theorem w_X12_laysRest_b43 {κ : zK} {a : Nat → Nat} {v1 v2 v3 v4 v6 : Int} {st : z_St} {mc9 ms9 : Nat} {o : (Int × Int) ⊕ Int} (hc : z_C κ RX12 cX12_laysRest 7 10 mc9 ms9) (hap : z_AP κ a z_N) (k1 : ∀ s9 : (Int × Int), o = .inl s9 → z_V κ z_T z_N a 0 0 43 [(0, .ref (a 168)), (1, .int (zI v1)), (2, .int (zI v2)), (3, .int (zI v3)), (4, .long (zJ s9.1)), (6, .int (zI s9.2))] [] st) (k2 : ∀ x9 : Int, o = .inr x9 → z_V κ z_T z_N a 0 0 125 [(0, .ref (a 168)), (1, .int (zI v1)), (2, .int (zI v2)), (3, .int (zI v3)), (4, .long (zJ x9))] [] st) (h : J_X12_laysRest_b43 v1 v2 v3 v4 v6 st = some o) : z_V κ z_T z_N a 0 0 43 [(0, .ref (a 168)), (1, .int (zI v1)), (2, .int (zI v2)), (3, .int (zI v3)), (4, .long (zJ v4)), (6, .int (zI v6))] [] st := by
  unfold J_X12_laysRest_b43 at h
  refine z_iload 5 hc dX12_laysRest_43 rfl ?_
  refine z_aload_n (i := 0) 0 hc dX12_laysRest_45 rfl rfl ?_
  refine z_getI (kI := 168) (jI := 2) hc fl_RX12_128 tT_168 (by decide) rfl rfl rfl dX12_laysRest_46 ?_
  refine z_icmp_gt (tgt := 125) hc dX12_laysRest_49 (by decide) h (fun c49 h => ?_) (fun c49 h => ?_)
  · refine z_sub [(0, .ref (a 168)), (1, .int (zI v1)), (2, .int (zI v2)), (3, .int (zI v3)), (4, .long (zJ v4))] [0, 1, 2, 3, 4] rfl ?_
    exact k2 v4 (Option.some.inj h).symm
  · refine z_iload_n (i := 2) 2 hc dX12_laysRest_52 rfl rfl ?_
    refine z_iload_n (i := 1) 1 hc dX12_laysRest_53 rfl rfl ?_
    refine z_icmp_ge (tgt := 125) hc dX12_laysRest_54 (by decide) h (fun c54 h => ?_) (fun c54 h => ?_)
    · refine z_aload_n (i := 0) 0 hc dX12_laysRest_57 rfl rfl ?_
      refine z_getA (k' := 188) hc fl_RX12_75 tT_168 (by decide) rfl rfl dX12_laysRest_58 ?_
      refine z_bipush hc dX12_laysRest_61 rfl ?_
      refine z_iload_n (i := 2) 2 hc dX12_laysRest_63 rfl rfl ?_
      refine z_iconst hc dX12_laysRest_64 ?_
      refine z_iadd hc dX12_laysRest_65 ?_
      refine z_imul hc dX12_laysRest_66 ?_
      refine z_iload 5 hc dX12_laysRest_67 rfl ?_
      refine z_iadd hc dX12_laysRest_69 ?_
      refine z_lald (kI := 188) (nI9 := 85) hc tT_188 (by decide) rfl rfl (by decide) dX12_laysRest_70 h (fun g1 h => ?_)
      refine z_ldc2 1000000000000000000 hc kc_RX12_205 dX12_laysRest_71 rfl ?_
      refine z_lcmp_ge (tgt := 115) hc dX12_laysRest_74 dX12_laysRest_75 (by decide) h (fun c74 h => ?_) (fun c74 h => ?_)
      · refine z_aload_n (i := 0) 0 hc dX12_laysRest_78 rfl rfl ?_
        refine z_lload 4 hc dX12_laysRest_79 rfl ?_
        refine z_aload_n (i := 0) 0 hc dX12_laysRest_81 rfl rfl ?_
        refine z_getA (k' := 188) hc fl_RX12_75 tT_168 (by decide) rfl rfl dX12_laysRest_82 ?_
        refine z_bipush hc dX12_laysRest_85 rfl ?_
        refine z_iload_n (i := 2) 2 hc dX12_laysRest_87 rfl rfl ?_
        refine z_iconst hc dX12_laysRest_88 ?_
        refine z_iadd hc dX12_laysRest_89 ?_
        refine z_imul hc dX12_laysRest_90 ?_
        refine z_iload 5 hc dX12_laysRest_91 rfl ?_
        refine z_iadd hc dX12_laysRest_93 ?_
        refine z_lald (kI := 188) (nI9 := 85) hc tT_188 (by decide) rfl rfl (by decide) dX12_laysRest_94 h (fun g2 h => ?_)
        refine z_aload_n (i := 0) 0 hc dX12_laysRest_95 rfl rfl ?_
        refine z_aload_n (i := 0) 0 hc dX12_laysRest_96 rfl rfl ?_
        refine z_getA (k' := 186) hc fl_RX12_69 tT_168 (by decide) rfl rfl dX12_laysRest_97 ?_
        refine z_iload_n (i := 2) 2 hc dX12_laysRest_100 rfl rfl ?_
        refine z_iald (kI := 186) (nI9 := 4) hc tT_186 (by decide) rfl rfl (by decide) dX12_laysRest_101 h (fun g3 h => ?_)
        refine z_iload_n (i := 3) 3 hc dX12_laysRest_102 rfl rfl ?_
        refine z_iload 5 hc dX12_laysRest_103 rfl ?_
        obtain ⟨r4, hr4, h⟩ := z_b_some h
        refine z_callVJ [.int (zI (st 186 v2)), .int (zI v3), .int (zI v6)] hc hap o_X12_tableOf ml_RX12_221 (fun l hl => c_X12_tableOf hl  hr4) (by decide) tT_168 (by decide) ⟨_, rfl, rfl⟩ rfl rfl (Nat.le_of_ble_eq_true rfl) (Nat.zero_le _) (Nat.zero_le _) dX12_laysRest_105 ?_
        refine z_ladd hc dX12_laysRest_108 ?_
        obtain ⟨r6, hr6, h⟩ := z_b_some h
        refine z_callVJ [.long (zJ v4), .long (zJ ((st 188 ((17 * (v2 + 1)) + v6)) + r4))] hc hap o_X12_least ml_RX12_207 (fun l hl => c_X12_least hl  hr6) (by decide) tT_168 (by decide) ⟨_, rfl, rfl⟩ rfl rfl (Nat.le_of_ble_eq_true rfl) (Nat.zero_le _) (Nat.zero_le _) dX12_laysRest_109 ?_
        refine z_goto (tgt := 117) hc dX12_laysRest_112 (by decide) ?_
        refine z_sub [(0, .ref (a 168)), (1, .int (zI v1)), (2, .int (zI v2)), (3, .int (zI v3)), (6, .int (zI v6))] [0, 1, 2, 3, 5] rfl ?_
        exact w_X12_laysRest_117 hc hap k1 k2 h
      · refine z_lload 4 hc dX12_laysRest_115 rfl ?_
        refine z_sub [(0, .ref (a 168)), (1, .int (zI v1)), (2, .int (zI v2)), (3, .int (zI v3)), (6, .int (zI v6))] [0, 1, 2, 3, 5] rfl ?_
        exact w_X12_laysRest_117 hc hap k1 k2 h
    · refine z_sub [(0, .ref (a 168)), (1, .int (zI v1)), (2, .int (zI v2)), (3, .int (zI v3)), (4, .long (zJ v4))] [0, 1, 2, 3, 4] rfl ?_
      exact k2 v4 (Option.some.inj h).symm
def J_X12_laysRest_152 (v1 v2 v3 s0 s1 : Int) (st : z_St) : Option ((Int × z_St) ⊕ z_St) :=
  z_g (0 ≤ s1 ∧ s1 < 85) <|
  z_let (z_up st 188 s1 s0) fun st9 =>
  some (.inl (v3 + 1, st9))
set_option maxRecDepth 100000 in
set_option maxHeartbeats 4000000 in
theorem w_X12_laysRest_152 {κ : zK} {a : Nat → Nat} {v1 v2 v3 s0 s1 : Int} {st : z_St} {mc9 ms9 : Nat} {o : (Int × z_St) ⊕ z_St} (hc : z_C κ RX12 cX12_laysRest 7 10 mc9 ms9) (hap : z_AP κ a z_N) (k1 : ∀ s9 : (Int × z_St), o = .inl s9 → z_V κ z_T z_N a 0 0 8 [(0, .ref (a 168)), (1, .int (zI v1)), (2, .int (zI v2)), (3, .int (zI s9.1))] [] s9.2) (k2 : ∀ x9 : z_St, o = .inr x9 → z_V κ z_T z_N a 0 0 159 [(0, .ref (a 168)), (1, .int (zI v1)), (2, .int (zI v2))] [] x9) (h : J_X12_laysRest_152 v1 v2 v3 s0 s1 st = some o) : z_V κ z_T z_N a 0 0 152 [(0, .ref (a 168)), (1, .int (zI v1)), (2, .int (zI v2)), (3, .int (zI v3))] [.long (zJ s0), .int (zI s1), .ref (a 188)] st := by
  unfold J_X12_laysRest_152 at h
  refine z_last (kI := 188) (nI9 := 85) hc hap tT_188 (by decide) rfl rfl (by decide) dX12_laysRest_152 h (fun st9 h => ?_)
  refine z_iinc [(3, .int (zI (v3 + 1))), (0, .ref (a 168)), (1, .int (zI v1)), (2, .int (zI v2))] 3 hc dX12_laysRest_153 rfl (by decide) rfl ?_
  refine z_goto (tgt := 8) hc dX12_laysRest_156 (by decide) ?_
  refine z_sub [(0, .ref (a 168)), (1, .int (zI v1)), (2, .int (zI v2)), (3, .int (zI (v3 + 1)))] [1, 2, 3, 0] rfl ?_
  exact k1 _ (Option.some.inj h).symm
def J_X12_laysRest_36 (v1 v2 v3 s0 : Int) (st : z_St) : Option ((Int × z_St) ⊕ z_St) :=
  z_b (z_iter z_F (fun q9 : (Int × Int) => J_X12_laysRest_b43 v1 v2 v3 q9.1 q9.2 st) (s0, v3 + 1)) fun lx8 =>
    z_g (z64 lx8 ∧ z64 1000000000000000000) (if lx8 < 1000000000000000000 then
      J_X12_laysRest_152 v1 v2 v3 lx8 ((17 * v2) + v3) st
    else
      J_X12_laysRest_152 v1 v2 v3 1000000000000000000 ((17 * v2) + v3) st)
set_option maxRecDepth 100000 in
set_option maxHeartbeats 4000000 in
theorem w_X12_laysRest_36 {κ : zK} {a : Nat → Nat} {v1 v2 v3 s0 : Int} {st : z_St} {mc9 ms9 : Nat} {o : (Int × z_St) ⊕ z_St} (hc : z_C κ RX12 cX12_laysRest 7 10 mc9 ms9) (hap : z_AP κ a z_N) (k1 : ∀ s9 : (Int × z_St), o = .inl s9 → z_V κ z_T z_N a 0 0 8 [(0, .ref (a 168)), (1, .int (zI v1)), (2, .int (zI v2)), (3, .int (zI s9.1))] [] s9.2) (k2 : ∀ x9 : z_St, o = .inr x9 → z_V κ z_T z_N a 0 0 159 [(0, .ref (a 168)), (1, .int (zI v1)), (2, .int (zI v2))] [] x9) (h : J_X12_laysRest_36 v1 v2 v3 s0 st = some o) : z_V κ z_T z_N a 0 0 36 [(0, .ref (a 168)), (1, .int (zI v1)), (2, .int (zI v2)), (3, .int (zI v3))] [.long (zJ s0)] st := by
  unfold J_X12_laysRest_36 at h
  refine z_lstore [(4, .long (zJ s0)), (0, .ref (a 168)), (1, .int (zI v1)), (2, .int (zI v2)), (3, .int (zI v3))] hc dX12_laysRest_36 (by decide) rfl ?_
  refine z_iload_n (i := 3) 4 hc dX12_laysRest_38 rfl rfl ?_
  refine z_iconst hc dX12_laysRest_39 ?_
  refine z_iadd hc dX12_laysRest_40 ?_
  refine z_istore [(6, .int (zI (v3 + 1))), (4, .long (zJ s0)), (0, .ref (a 168)), (1, .int (zI v1)), (2, .int (zI v2)), (3, .int (zI v3))] hc dX12_laysRest_41 (by decide) rfl ?_
  obtain ⟨lx8, hlx8, h⟩ := z_b_some h
  refine z_sub [(0, .ref (a 168)), (1, .int (zI v1)), (2, .int (zI v2)), (3, .int (zI v3)), (4, .long (zJ s0)), (6, .int (zI (v3 + 1)))] [2, 3, 4, 5, 1, 0] rfl ?_
  refine z_loop (fun q9 : (Int × Int) => J_X12_laysRest_b43 v1 v2 v3 q9.1 q9.2 st) (fun q9 : (Int × Int) => z_V κ z_T z_N a 0 0 43 [(0, .ref (a 168)), (1, .int (zI v1)), (2, .int (zI v2)), (3, .int (zI v3)), (4, .long (zJ q9.1)), (6, .int (zI q9.2))] [] st) (fun x9 : Int => z_V κ z_T z_N a 0 0 125 [(0, .ref (a 168)), (1, .int (zI v1)), (2, .int (zI v2)), (3, .int (zI v3)), (4, .long (zJ x9))] [] st) (fun q9 o9 hb k1 k2 => ?_) _ _ _ hlx8 ?_
  · exact w_X12_laysRest_b43 hc hap k1 k2 hb
  · show z_V κ z_T z_N a 0 0 125 [(0, .ref (a 168)), (1, .int (zI v1)), (2, .int (zI v2)), (3, .int (zI v3)), (4, .long (zJ lx8))] [] st
    refine z_aload_n (i := 0) 0 hc dX12_laysRest_125 rfl rfl ?_
    refine z_getA (k' := 188) hc fl_RX12_75 tT_168 (by decide) rfl rfl dX12_laysRest_126 ?_
    refine z_bipush hc dX12_laysRest_129 rfl ?_
    refine z_iload_n (i := 2) 2 hc dX12_laysRest_131 rfl rfl ?_
    refine z_imul hc dX12_laysRest_132 ?_
    refine z_iload_n (i := 3) 3 hc dX12_laysRest_133 rfl rfl ?_
    refine z_iadd hc dX12_laysRest_134 ?_
    refine z_lload 4 hc dX12_laysRest_135 rfl ?_
    refine z_ldc2 1000000000000000000 hc kc_RX12_205 dX12_laysRest_137 rfl ?_
    refine z_lcmp_ge (tgt := 149) hc dX12_laysRest_140 dX12_laysRest_141 (by decide) h (fun c140 h => ?_) (fun c140 h => ?_)
    · refine z_lload 4 hc dX12_laysRest_144 rfl ?_
      refine z_goto (tgt := 152) hc dX12_laysRest_146 (by decide) ?_
      refine z_sub [(0, .ref (a 168)), (1, .int (zI v1)), (2, .int (zI v2)), (3, .int (zI v3))] [0, 1, 2, 3] rfl ?_
      exact w_X12_laysRest_152 hc hap k1 k2 h
    · refine z_ldc2 1000000000000000000 hc kc_RX12_205 dX12_laysRest_149 rfl ?_
      refine z_sub [(0, .ref (a 168)), (1, .int (zI v1)), (2, .int (zI v2)), (3, .int (zI v3))] [0, 1, 2, 3] rfl ?_
      exact w_X12_laysRest_152 hc hap k1 k2 h
def J_X12_laysRest_33 (v1 v2 v3 : Int) (st : z_St) : Option ((Int × z_St) ⊕ z_St) :=
  J_X12_laysRest_36 v1 v2 v3 1000000000000000000 st
set_option maxRecDepth 100000 in
set_option maxHeartbeats 4000000 in
theorem w_X12_laysRest_33 {κ : zK} {a : Nat → Nat} {v1 v2 v3 : Int} {st : z_St} {mc9 ms9 : Nat} {o : (Int × z_St) ⊕ z_St} (hc : z_C κ RX12 cX12_laysRest 7 10 mc9 ms9) (hap : z_AP κ a z_N) (k1 : ∀ s9 : (Int × z_St), o = .inl s9 → z_V κ z_T z_N a 0 0 8 [(0, .ref (a 168)), (1, .int (zI v1)), (2, .int (zI v2)), (3, .int (zI s9.1))] [] s9.2) (k2 : ∀ x9 : z_St, o = .inr x9 → z_V κ z_T z_N a 0 0 159 [(0, .ref (a 168)), (1, .int (zI v1)), (2, .int (zI v2))] [] x9) (h : J_X12_laysRest_33 v1 v2 v3 st = some o) : z_V κ z_T z_N a 0 0 33 [(0, .ref (a 168)), (1, .int (zI v1)), (2, .int (zI v2)), (3, .int (zI v3))] [] st := by
  unfold J_X12_laysRest_33 at h
  refine z_ldc2 1000000000000000000 hc kc_RX12_205 dX12_laysRest_33 rfl ?_
  refine z_sub [(0, .ref (a 168)), (1, .int (zI v1)), (2, .int (zI v2)), (3, .int (zI v3))] [0, 1, 2, 3] rfl ?_
  exact w_X12_laysRest_36 hc hap k1 k2 h
def J_X12_laysRest_b8 (v1 v2 v3 : Int) (st : z_St) : Option ((Int × z_St) ⊕ z_St) :=
  z_g (z32 v3 ∧ z32 (st 168 2)) (if st 168 2 < v3 then
    some (.inr st)
  else
    z_g (z32 v2 ∧ z32 v1) (if v2 = v1 then
      z_g (z32 v3 ∧ z32 (st 168 2)) (if v3 = st 168 2 then
        J_X12_laysRest_36 v1 v2 v3 0 st
      else
        J_X12_laysRest_33 v1 v2 v3 st)
    else
      J_X12_laysRest_33 v1 v2 v3 st))
set_option maxRecDepth 100000 in
set_option maxHeartbeats 4000000 in
theorem w_X12_laysRest_b8 {κ : zK} {a : Nat → Nat} {v1 v2 v3 : Int} {st : z_St} {mc9 ms9 : Nat} {o : (Int × z_St) ⊕ z_St} (hc : z_C κ RX12 cX12_laysRest 7 10 mc9 ms9) (hap : z_AP κ a z_N) (k1 : ∀ s9 : (Int × z_St), o = .inl s9 → z_V κ z_T z_N a 0 0 8 [(0, .ref (a 168)), (1, .int (zI v1)), (2, .int (zI v2)), (3, .int (zI s9.1))] [] s9.2) (k2 : ∀ x9 : z_St, o = .inr x9 → z_V κ z_T z_N a 0 0 159 [(0, .ref (a 168)), (1, .int (zI v1)), (2, .int (zI v2))] [] x9) (h : J_X12_laysRest_b8 v1 v2 v3 st = some o) : z_V κ z_T z_N a 0 0 8 [(0, .ref (a 168)), (1, .int (zI v1)), (2, .int (zI v2)), (3, .int (zI v3))] [] st := by
  unfold J_X12_laysRest_b8 at h
  refine z_iload_n (i := 3) 3 hc dX12_laysRest_8 rfl rfl ?_
  refine z_aload_n (i := 0) 0 hc dX12_laysRest_9 rfl rfl ?_
  refine z_getI (kI := 168) (jI := 2) hc fl_RX12_128 tT_168 (by decide) rfl rfl rfl dX12_laysRest_10 ?_
  refine z_icmp_gt (tgt := 159) hc dX12_laysRest_13 (by decide) h (fun c13 h => ?_) (fun c13 h => ?_)
  · refine z_sub [(0, .ref (a 168)), (1, .int (zI v1)), (2, .int (zI v2))] [0, 1, 2] rfl ?_
    exact k2 st (Option.some.inj h).symm
  · refine z_iload_n (i := 2) 2 hc dX12_laysRest_16 rfl rfl ?_
    refine z_iload_n (i := 1) 1 hc dX12_laysRest_17 rfl rfl ?_
    refine z_icmp_ne (tgt := 33) hc dX12_laysRest_18 (by decide) h (fun c18 h => ?_) (fun c18 h => ?_)
    · refine z_iload_n (i := 3) 3 hc dX12_laysRest_21 rfl rfl ?_
      refine z_aload_n (i := 0) 0 hc dX12_laysRest_22 rfl rfl ?_
      refine z_getI (kI := 168) (jI := 2) hc fl_RX12_128 tT_168 (by decide) rfl rfl rfl dX12_laysRest_23 ?_
      refine z_icmp_ne (tgt := 33) hc dX12_laysRest_26 (by decide) h (fun c26 h => ?_) (fun c26 h => ?_)
      · refine z_lconst 0 hc dX12_laysRest_29 rfl ?_
        refine z_goto (tgt := 36) hc dX12_laysRest_30 (by decide) ?_
        refine z_sub [(0, .ref (a 168)), (1, .int (zI v1)), (2, .int (zI v2)), (3, .int (zI v3))] [0, 1, 2, 3] rfl ?_
        exact w_X12_laysRest_36 hc hap k1 k2 h
      · refine z_sub [(0, .ref (a 168)), (1, .int (zI v1)), (2, .int (zI v2)), (3, .int (zI v3))] [0, 1, 2, 3] rfl ?_
        exact w_X12_laysRest_33 hc hap k1 k2 h
    · refine z_sub [(0, .ref (a 168)), (1, .int (zI v1)), (2, .int (zI v2)), (3, .int (zI v3))] [0, 1, 2, 3] rfl ?_
      exact w_X12_laysRest_33 hc hap k1 k2 h
def J_X12_laysRest_b2 (v1 v2 : Int) (st : z_St) : Option ((Int × z_St) ⊕ z_St) :=
  z_g (z32 v2) (if v2 < 0 then
    some (.inr st)
  else
    z_b (z_iter z_F (fun q9 : (Int × z_St) => J_X12_laysRest_b8 v1 v2 q9.1 q9.2) (0, st)) fun lx10 =>
      some (.inl (v2 + (-1), lx10)))
set_option maxRecDepth 100000 in
set_option maxHeartbeats 4000000 in
theorem w_X12_laysRest_b2 {κ : zK} {a : Nat → Nat} {v1 v2 : Int} {st : z_St} {mc9 ms9 : Nat} {o : (Int × z_St) ⊕ z_St} (hc : z_C κ RX12 cX12_laysRest 7 10 mc9 ms9) (hap : z_AP κ a z_N) (k1 : ∀ s9 : (Int × z_St), o = .inl s9 → z_V κ z_T z_N a 0 0 2 [(0, .ref (a 168)), (1, .int (zI v1)), (2, .int (zI s9.1))] [] s9.2) (k2 : ∀ x9 : z_St, o = .inr x9 → z_V κ z_T z_N a 0 0 165 [] [] x9) (h : J_X12_laysRest_b2 v1 v2 st = some o) : z_V κ z_T z_N a 0 0 2 [(0, .ref (a 168)), (1, .int (zI v1)), (2, .int (zI v2))] [] st := by
  unfold J_X12_laysRest_b2 at h
  refine z_iload_n (i := 2) 2 hc dX12_laysRest_2 rfl rfl ?_
  refine z_if_lt (tgt := 165) hc dX12_laysRest_3 (by decide) h (fun c3 h => ?_) (fun c3 h => ?_)
  · refine z_sub [] [] rfl ?_
    exact k2 st (Option.some.inj h).symm
  · refine z_iconst hc dX12_laysRest_6 ?_
    refine z_istore_n (i := 3) [(3, .int (zI 0)), (0, .ref (a 168)), (1, .int (zI v1)), (2, .int (zI v2))] hc dX12_laysRest_7 rfl (by decide) rfl ?_
    obtain ⟨lx10, hlx10, h⟩ := z_b_some h
    refine z_sub [(0, .ref (a 168)), (1, .int (zI v1)), (2, .int (zI v2)), (3, .int (zI 0))] [1, 2, 3, 0] rfl ?_
    refine z_loop (fun q9 : (Int × z_St) => J_X12_laysRest_b8 v1 v2 q9.1 q9.2) (fun q9 : (Int × z_St) => z_V κ z_T z_N a 0 0 8 [(0, .ref (a 168)), (1, .int (zI v1)), (2, .int (zI v2)), (3, .int (zI q9.1))] [] q9.2) (fun x9 : z_St => z_V κ z_T z_N a 0 0 159 [(0, .ref (a 168)), (1, .int (zI v1)), (2, .int (zI v2))] [] x9) (fun q9 o9 hb k1 k2 => ?_) _ _ _ hlx10 ?_
    · exact w_X12_laysRest_b8 hc hap k1 k2 hb
    · show z_V κ z_T z_N a 0 0 159 [(0, .ref (a 168)), (1, .int (zI v1)), (2, .int (zI v2))] [] lx10
      refine z_iinc [(2, .int (zI (v2 + (-1)))), (0, .ref (a 168)), (1, .int (zI v1))] 2 hc dX12_laysRest_159 rfl (by decide) rfl ?_
      refine z_goto (tgt := 2) hc dX12_laysRest_162 (by decide) ?_
      refine z_sub [(0, .ref (a 168)), (1, .int (zI v1)), (2, .int (zI (v2 + (-1))))] [1, 2, 0] rfl ?_
      exact k1 _ (Option.some.inj h).symm
def J_X12_laysRest (x1 : Int) (st : z_St) : Option (z_St) :=
  z_b (z_iter z_F (fun q9 : (Int × z_St) => J_X12_laysRest_b2 x1 q9.1 q9.2) (x1, st)) fun lx11 =>
    some lx11
set_option maxRecDepth 100000 in
set_option maxHeartbeats 4000000 in
theorem w_X12_laysRest {κ : zK} {a : Nat → Nat} {x1 : Int} {st : z_St} {o : z_St} (hc : z_C κ RX12 cX12_laysRest 7 10 0 0) (hap : z_AP κ a z_N) (he : z_E 2 κ none z_T z_N a 0 o) (h : J_X12_laysRest x1 st = some o) : z_V κ z_T z_N a 0 0 0 [(0, .ref (a 168)), (1, .int (zI x1))] [] st := by
  unfold J_X12_laysRest at h
  refine z_iload_n (i := 1) 1 hc dX12_laysRest_0 rfl rfl ?_
  refine z_istore_n (i := 2) [(2, .int (zI x1)), (0, .ref (a 168)), (1, .int (zI x1))] hc dX12_laysRest_1 rfl (by decide) rfl ?_
  obtain ⟨lx11, hlx11, h⟩ := z_b_some h
  refine z_sub [(0, .ref (a 168)), (1, .int (zI x1)), (2, .int (zI x1))] [1, 2, 0] rfl ?_
  refine z_loop (fun q9 : (Int × z_St) => J_X12_laysRest_b2 x1 q9.1 q9.2) (fun q9 : (Int × z_St) => z_V κ z_T z_N a 0 0 2 [(0, .ref (a 168)), (1, .int (zI x1)), (2, .int (zI q9.1))] [] q9.2) (fun x9 : z_St => z_V κ z_T z_N a 0 0 165 [] [] x9) (fun q9 o9 hb k1 k2 => ?_) _ _ _ hlx11 ?_
  · exact w_X12_laysRest_b2 hc hap k1 k2 hb
  · show z_V κ z_T z_N a 0 0 165 [] [] lx11
    have h := Option.some.inj h
    subst h
    exact z_retV hc he dX12_laysRest_165
set_option maxRecDepth 100000 in
set_option maxHeartbeats 4000000 in
theorem c_X12_laysRest {l : Launch} (hl : l.stackTraces = false) {a : Nat → Nat} {x1 : Int} {st : z_St} {o : z_St} (h : J_X12_laysRest x1 st = some o) : z_M 2 l yX12_laysRest cX12_laysRest 7 none 10 z_T z_N a [.ref (a 168), .int (zI x1)] st 0 o := z_of hl (by decide +kernel) (Nat.le_of_ble_eq_true rfl) (fun κ hc hap he => w_X12_laysRest hc hap he h)
theorem dX12_sayingOf_0 : decode cX12_sayingOf 0 = .ok (.aload_n 0, 1) := by decide +kernel
theorem dX12_sayingOf_1 : decode cX12_sayingOf 1 = .ok (.getfield 37, 3) := by decide +kernel
theorem dX12_sayingOf_4 : decode cX12_sayingOf 4 = .ok (.iload_n 1, 1) := by decide +kernel
theorem dX12_sayingOf_5 : decode cX12_sayingOf 5 = .ok (.iaload, 1) := by decide +kernel
theorem dX12_sayingOf_6 : decode cX12_sayingOf 6 = .ok (.iconst 2, 1) := by decide +kernel
theorem dX12_sayingOf_7 : decode cX12_sayingOf 7 = .ok (.if_icmp .ne 63, 3) := by decide +kernel
theorem dX12_sayingOf_10 : decode cX12_sayingOf 10 = .ok (.aload_n 0, 1) := by decide +kernel
theorem dX12_sayingOf_11 : decode cX12_sayingOf 11 = .ok (.getfield 59, 3) := by decide +kernel
theorem dX12_sayingOf_14 : decode cX12_sayingOf 14 = .ok (.aload_n 0, 1) := by decide +kernel
theorem dX12_sayingOf_15 : decode cX12_sayingOf 15 = .ok (.iconst 2, 1) := by decide +kernel
theorem dX12_sayingOf_16 : decode cX12_sayingOf 16 = .ok (.iload_n 1, 1) := by decide +kernel
theorem dX12_sayingOf_17 : decode cX12_sayingOf 17 = .ok (.imul, 1) := by decide +kernel
theorem dX12_sayingOf_18 : decode cX12_sayingOf 18 = .ok (.iconst 1, 1) := by decide +kernel
theorem dX12_sayingOf_19 : decode cX12_sayingOf 19 = .ok (.iadd, 1) := by decide +kernel
theorem dX12_sayingOf_20 : decode cX12_sayingOf 20 = .ok (.iload_n 2, 1) := by decide +kernel
theorem dX12_sayingOf_21 : decode cX12_sayingOf 21 = .ok (.iload_n 3, 1) := by decide +kernel
theorem dX12_sayingOf_22 : decode cX12_sayingOf 22 = .ok (.invokevirtual 211, 3) := by decide +kernel
theorem dX12_sayingOf_25 : decode cX12_sayingOf 25 = .ok (.laload, 1) := by decide +kernel
theorem dX12_sayingOf_26 : decode cX12_sayingOf 26 = .ok (.aload_n 0, 1) := by decide +kernel
theorem dX12_sayingOf_27 : decode cX12_sayingOf 27 = .ok (.getfield 46, 3) := by decide +kernel
theorem dX12_sayingOf_30 : decode cX12_sayingOf 30 = .ok (.iconst 2, 1) := by decide +kernel
theorem dX12_sayingOf_31 : decode cX12_sayingOf 31 = .ok (.iload_n 1, 1) := by decide +kernel
theorem dX12_sayingOf_32 : decode cX12_sayingOf 32 = .ok (.imul, 1) := by decide +kernel
theorem dX12_sayingOf_33 : decode cX12_sayingOf 33 = .ok (.iconst 1, 1) := by decide +kernel
theorem dX12_sayingOf_34 : decode cX12_sayingOf 34 = .ok (.iadd, 1) := by decide +kernel
theorem dX12_sayingOf_35 : decode cX12_sayingOf 35 = .ok (.iaload, 1) := by decide +kernel
theorem dX12_sayingOf_36 : decode cX12_sayingOf 36 = .ok (.i2l, 1) := by decide +kernel
theorem dX12_sayingOf_37 : decode cX12_sayingOf 37 = .ok (.ladd, 1) := by decide +kernel
theorem dX12_sayingOf_38 : decode cX12_sayingOf 38 = .ok (.aload_n 0, 1) := by decide +kernel
theorem dX12_sayingOf_39 : decode cX12_sayingOf 39 = .ok (.getfield 59, 3) := by decide +kernel
theorem dX12_sayingOf_42 : decode cX12_sayingOf 42 = .ok (.aload_n 0, 1) := by decide +kernel
theorem dX12_sayingOf_43 : decode cX12_sayingOf 43 = .ok (.iconst 2, 1) := by decide +kernel
theorem dX12_sayingOf_44 : decode cX12_sayingOf 44 = .ok (.iload_n 1, 1) := by decide +kernel
theorem dX12_sayingOf_45 : decode cX12_sayingOf 45 = .ok (.imul, 1) := by decide +kernel
theorem dX12_sayingOf_46 : decode cX12_sayingOf 46 = .ok (.iload_n 2, 1) := by decide +kernel
theorem dX12_sayingOf_47 : decode cX12_sayingOf 47 = .ok (.iload_n 3, 1) := by decide +kernel
theorem dX12_sayingOf_48 : decode cX12_sayingOf 48 = .ok (.invokevirtual 211, 3) := by decide +kernel
theorem dX12_sayingOf_51 : decode cX12_sayingOf 51 = .ok (.laload, 1) := by decide +kernel
theorem dX12_sayingOf_52 : decode cX12_sayingOf 52 = .ok (.aload_n 0, 1) := by decide +kernel
theorem dX12_sayingOf_53 : decode cX12_sayingOf 53 = .ok (.getfield 46, 3) := by decide +kernel
theorem dX12_sayingOf_56 : decode cX12_sayingOf 56 = .ok (.iconst 2, 1) := by decide +kernel
theorem dX12_sayingOf_57 : decode cX12_sayingOf 57 = .ok (.iload_n 1, 1) := by decide +kernel
theorem dX12_sayingOf_58 : decode cX12_sayingOf 58 = .ok (.imul, 1) := by decide +kernel
theorem dX12_sayingOf_59 : decode cX12_sayingOf 59 = .ok (.iaload, 1) := by decide +kernel
theorem dX12_sayingOf_60 : decode cX12_sayingOf 60 = .ok (.i2l, 1) := by decide +kernel
theorem dX12_sayingOf_61 : decode cX12_sayingOf 61 = .ok (.ladd, 1) := by decide +kernel
theorem dX12_sayingOf_62 : decode cX12_sayingOf 62 = .ok (.lcmp, 1) := by decide +kernel
theorem dX12_sayingOf_63 : decode cX12_sayingOf 63 = .ok (.ifCond .ge 7, 3) := by decide +kernel
theorem dX12_sayingOf_66 : decode cX12_sayingOf 66 = .ok (.iconst 1, 1) := by decide +kernel
theorem dX12_sayingOf_67 : decode cX12_sayingOf 67 = .ok (.goto 4, 3) := by decide +kernel
theorem dX12_sayingOf_70 : decode cX12_sayingOf 70 = .ok (.iconst 0, 1) := by decide +kernel
theorem dX12_sayingOf_71 : decode cX12_sayingOf 71 = .ok (.istore 4, 2) := by decide +kernel
theorem dX12_sayingOf_73 : decode cX12_sayingOf 73 = .ok (.iload 4, 2) := by decide +kernel
theorem dX12_sayingOf_75 : decode cX12_sayingOf 75 = .ok (.ifCond .eq 7, 3) := by decide +kernel
theorem dX12_sayingOf_78 : decode cX12_sayingOf 78 = .ok (.iconst 1, 1) := by decide +kernel
theorem dX12_sayingOf_79 : decode cX12_sayingOf 79 = .ok (.goto 4, 3) := by decide +kernel
theorem dX12_sayingOf_82 : decode cX12_sayingOf 82 = .ok (.iconst 0, 1) := by decide +kernel
theorem dX12_sayingOf_83 : decode cX12_sayingOf 83 = .ok (.ireturn, 1) := by decide +kernel
def J_X12_sayingOf_83 (s0 : Int) (st : z_St) : Option (Int) :=
  some s0
set_option maxRecDepth 100000 in
set_option maxHeartbeats 4000000 in
theorem w_X12_sayingOf_83 {κ : zK} {a : Nat → Nat} {s0 : Int} {st : z_St} {o : Int} (hc : z_C κ RX12 cX12_sayingOf 5 9 0 0) (hap : z_AP κ a z_N) (he : z_E 0 κ (some .int) z_T z_N a o st) (h : J_X12_sayingOf_83 s0 st = some o) : z_V κ z_T z_N a 0 0 83 [] [.int (zI s0)] st := by
  unfold J_X12_sayingOf_83 at h
  have h := Option.some.inj h
  subst h
  exact z_retI hc he dX12_sayingOf_83
def J_X12_sayingOf_71 (s0 : Int) (st : z_St) : Option (Int) :=
  z_g (z32 s0) (if s0 = 0 then
    J_X12_sayingOf_83 0 st
  else
    J_X12_sayingOf_83 1 st)
set_option maxRecDepth 100000 in
set_option maxHeartbeats 4000000 in
theorem w_X12_sayingOf_71 {κ : zK} {a : Nat → Nat} {s0 : Int} {st : z_St} {o : Int} (hc : z_C κ RX12 cX12_sayingOf 5 9 0 0) (hap : z_AP κ a z_N) (he : z_E 0 κ (some .int) z_T z_N a o st) (h : J_X12_sayingOf_71 s0 st = some o) : z_V κ z_T z_N a 0 0 71 [] [.int (zI s0)] st := by
  unfold J_X12_sayingOf_71 at h
  refine z_istore [(4, .int (zI s0))] hc dX12_sayingOf_71 (by decide) rfl ?_
  refine z_iload 0 hc dX12_sayingOf_73 rfl ?_
  refine z_if_eq (tgt := 82) hc dX12_sayingOf_75 (by decide) h (fun c75 h => ?_) (fun c75 h => ?_)
  · refine z_iconst hc dX12_sayingOf_82 ?_
    refine z_sub [] [] rfl ?_
    exact w_X12_sayingOf_83 hc hap he h
  · refine z_iconst hc dX12_sayingOf_78 ?_
    refine z_goto (tgt := 83) hc dX12_sayingOf_79 (by decide) ?_
    refine z_sub [] [] rfl ?_
    exact w_X12_sayingOf_83 hc hap he h
def J_X12_sayingOf_70 (st : z_St) : Option (Int) :=
  J_X12_sayingOf_71 0 st
set_option maxRecDepth 100000 in
set_option maxHeartbeats 4000000 in
theorem w_X12_sayingOf_70 {κ : zK} {a : Nat → Nat} {st : z_St} {o : Int} (hc : z_C κ RX12 cX12_sayingOf 5 9 0 0) (hap : z_AP κ a z_N) (he : z_E 0 κ (some .int) z_T z_N a o st) (h : J_X12_sayingOf_70 st = some o) : z_V κ z_T z_N a 0 0 70 [] [] st := by
  unfold J_X12_sayingOf_70 at h
  refine z_iconst hc dX12_sayingOf_70 ?_
  refine z_sub [] [] rfl ?_
  exact w_X12_sayingOf_71 hc hap he h
def J_X12_sayingOf (x1 x2 x3 : Int) (st : z_St) : Option (Int) :=
  z_g (0 ≤ x1 ∧ x1 < 5) <|
  z_g (z32 (st 178 x1) ∧ z32 2) (if st 178 x1 = 2 then
    z_b (J_X12_span ((2 * x1) + 1) x2 x3 st) fun r2 =>
    z_g (0 ≤ r2 ∧ r2 < 2890) <|
    z_g (0 ≤ (2 * x1) + 1 ∧ (2 * x1) + 1 < 10) <|
    z_g (z32 (st 181 ((2 * x1) + 1))) <|
    z_b (J_X12_span (2 * x1) x2 x3 st) fun r6 =>
    z_g (0 ≤ r6 ∧ r6 < 2890) <|
    z_g (0 ≤ 2 * x1 ∧ 2 * x1 < 10) <|
    z_g (z32 (st 181 (2 * x1))) <|
    z_g (z64 ((st 183 r2) + (st 181 ((2 * x1) + 1))) ∧ z64 ((st 183 r6) + (st 181 (2 * x1)))) (if (st 183 r2) + (st 181 ((2 * x1) + 1)) < (st 183 r6) + (st 181 (2 * x1)) then
      J_X12_sayingOf_71 1 st
    else
      J_X12_sayingOf_70 st)
  else
    J_X12_sayingOf_70 st)
set_option maxRecDepth 100000 in
set_option maxHeartbeats 4000000 in
theorem w_X12_sayingOf {κ : zK} {a : Nat → Nat} {x1 x2 x3 : Int} {st : z_St} {o : Int} (hc : z_C κ RX12 cX12_sayingOf 5 9 0 0) (hap : z_AP κ a z_N) (he : z_E 0 κ (some .int) z_T z_N a o st) (h : J_X12_sayingOf x1 x2 x3 st = some o) : z_V κ z_T z_N a 0 0 0 [(0, .ref (a 168)), (1, .int (zI x1)), (2, .int (zI x2)), (3, .int (zI x3))] [] st := by
  unfold J_X12_sayingOf at h
  refine z_aload_n (i := 0) 0 hc dX12_sayingOf_0 rfl rfl ?_
  refine z_getA (k' := 178) hc fl_RX12_37 tT_168 (by decide) rfl rfl dX12_sayingOf_1 ?_
  refine z_iload_n (i := 1) 1 hc dX12_sayingOf_4 rfl rfl ?_
  refine z_iald (kI := 178) (nI9 := 5) hc tT_178 (by decide) rfl rfl (by decide) dX12_sayingOf_5 h (fun g1 h => ?_)
  refine z_iconst hc dX12_sayingOf_6 ?_
  refine z_icmp_ne (tgt := 70) hc dX12_sayingOf_7 (by decide) h (fun c7 h => ?_) (fun c7 h => ?_)
  · refine z_aload_n (i := 0) 0 hc dX12_sayingOf_10 rfl rfl ?_
    refine z_getA (k' := 183) hc fl_RX12_59 tT_168 (by decide) rfl rfl dX12_sayingOf_11 ?_
    refine z_aload_n (i := 0) 0 hc dX12_sayingOf_14 rfl rfl ?_
    refine z_iconst hc dX12_sayingOf_15 ?_
    refine z_iload_n (i := 1) 1 hc dX12_sayingOf_16 rfl rfl ?_
    refine z_imul hc dX12_sayingOf_17 ?_
    refine z_iconst hc dX12_sayingOf_18 ?_
    refine z_iadd hc dX12_sayingOf_19 ?_
    refine z_iload_n (i := 2) 2 hc dX12_sayingOf_20 rfl rfl ?_
    refine z_iload_n (i := 3) 3 hc dX12_sayingOf_21 rfl rfl ?_
    obtain ⟨r2, hr2, h⟩ := z_b_some h
    refine z_callVI [.int (zI ((2 * x1) + 1)), .int (zI x2), .int (zI x3)] hc hap o_X12_span ml_RX12_211 (fun l hl => c_X12_span hl  hr2) (by decide) tT_168 (by decide) ⟨_, rfl, rfl⟩ rfl rfl (Nat.le_of_ble_eq_true rfl) (Nat.zero_le _) (Nat.zero_le _) dX12_sayingOf_22 ?_
    refine z_lald (kI := 183) (nI9 := 2890) hc tT_183 (by decide) rfl rfl (by decide) dX12_sayingOf_25 h (fun g4 h => ?_)
    refine z_aload_n (i := 0) 0 hc dX12_sayingOf_26 rfl rfl ?_
    refine z_getA (k' := 181) hc fl_RX12_46 tT_168 (by decide) rfl rfl dX12_sayingOf_27 ?_
    refine z_iconst hc dX12_sayingOf_30 ?_
    refine z_iload_n (i := 1) 1 hc dX12_sayingOf_31 rfl rfl ?_
    refine z_imul hc dX12_sayingOf_32 ?_
    refine z_iconst hc dX12_sayingOf_33 ?_
    refine z_iadd hc dX12_sayingOf_34 ?_
    refine z_iald (kI := 181) (nI9 := 10) hc tT_181 (by decide) rfl rfl (by decide) dX12_sayingOf_35 h (fun g5 h => ?_)
    refine z_i2l hc dX12_sayingOf_36 h (fun h => ?_)
    refine z_ladd hc dX12_sayingOf_37 ?_
    refine z_aload_n (i := 0) 0 hc dX12_sayingOf_38 rfl rfl ?_
    refine z_getA (k' := 183) hc fl_RX12_59 tT_168 (by decide) rfl rfl dX12_sayingOf_39 ?_
    refine z_aload_n (i := 0) 0 hc dX12_sayingOf_42 rfl rfl ?_
    refine z_iconst hc dX12_sayingOf_43 ?_
    refine z_iload_n (i := 1) 1 hc dX12_sayingOf_44 rfl rfl ?_
    refine z_imul hc dX12_sayingOf_45 ?_
    refine z_iload_n (i := 2) 2 hc dX12_sayingOf_46 rfl rfl ?_
    refine z_iload_n (i := 3) 3 hc dX12_sayingOf_47 rfl rfl ?_
    obtain ⟨r6, hr6, h⟩ := z_b_some h
    refine z_callVI [.int (zI (2 * x1)), .int (zI x2), .int (zI x3)] hc hap o_X12_span ml_RX12_211 (fun l hl => c_X12_span hl  hr6) (by decide) tT_168 (by decide) ⟨_, rfl, rfl⟩ rfl rfl (Nat.le_of_ble_eq_true rfl) (Nat.zero_le _) (Nat.zero_le _) dX12_sayingOf_48 ?_
    refine z_lald (kI := 183) (nI9 := 2890) hc tT_183 (by decide) rfl rfl (by decide) dX12_sayingOf_51 h (fun g8 h => ?_)
    refine z_aload_n (i := 0) 0 hc dX12_sayingOf_52 rfl rfl ?_
    refine z_getA (k' := 181) hc fl_RX12_46 tT_168 (by decide) rfl rfl dX12_sayingOf_53 ?_
    refine z_iconst hc dX12_sayingOf_56 ?_
    refine z_iload_n (i := 1) 1 hc dX12_sayingOf_57 rfl rfl ?_
    refine z_imul hc dX12_sayingOf_58 ?_
    refine z_iald (kI := 181) (nI9 := 10) hc tT_181 (by decide) rfl rfl (by decide) dX12_sayingOf_59 h (fun g9 h => ?_)
    refine z_i2l hc dX12_sayingOf_60 h (fun h => ?_)
    refine z_ladd hc dX12_sayingOf_61 ?_
    refine z_lcmp_ge (tgt := 70) hc dX12_sayingOf_62 dX12_sayingOf_63 (by decide) h (fun c62 h => ?_) (fun c62 h => ?_)
    · refine z_iconst hc dX12_sayingOf_66 ?_
      refine z_goto (tgt := 71) hc dX12_sayingOf_67 (by decide) ?_
      refine z_sub [] [] rfl ?_
      exact w_X12_sayingOf_71 hc hap he h
    · refine z_sub [] [] rfl ?_
      exact w_X12_sayingOf_70 hc hap he h
  · refine z_sub [] [] rfl ?_
    exact w_X12_sayingOf_70 hc hap he h
set_option maxRecDepth 100000 in
set_option maxHeartbeats 4000000 in
theorem c_X12_sayingOf {l : Launch} (hl : l.stackTraces = false) {a : Nat → Nat} {x1 x2 x3 : Int} {st : z_St} {o : Int} (h : J_X12_sayingOf x1 x2 x3 st = some o) : z_M 0 l yX12_sayingOf cX12_sayingOf 5 (some .int) 9 z_T z_N a [.ref (a 168), .int (zI x1), .int (zI x2), .int (zI x3)] st o st := z_of hl (by decide +kernel) (Nat.le_of_ble_eq_true rfl) (fun κ hc hap he => w_X12_sayingOf hc hap he h)
theorem dX12_laysSounds_0 : decode cX12_laysSounds 0 = .ok (.iconst 2, 1) := by decide +kernel
theorem dX12_laysSounds_1 : decode cX12_laysSounds 1 = .ok (.iload_n 2, 1) := by decide +kernel
theorem dX12_laysSounds_2 : decode cX12_laysSounds 2 = .ok (.imul, 1) := by decide +kernel
theorem dX12_laysSounds_3 : decode cX12_laysSounds 3 = .ok (.iload_n 3, 1) := by decide +kernel
theorem dX12_laysSounds_4 : decode cX12_laysSounds 4 = .ok (.iadd, 1) := by decide +kernel
theorem dX12_laysSounds_5 : decode cX12_laysSounds 5 = .ok (.istore 6, 2) := by decide +kernel
theorem dX12_laysSounds_7 : decode cX12_laysSounds 7 = .ok (.aload_n 0, 1) := by decide +kernel
theorem dX12_laysSounds_8 : decode cX12_laysSounds 8 = .ok (.getfield 40, 3) := by decide +kernel
theorem dX12_laysSounds_11 : decode cX12_laysSounds 11 = .ok (.iload 6, 2) := by decide +kernel
theorem dX12_laysSounds_13 : decode cX12_laysSounds 13 = .ok (.iaload, 1) := by decide +kernel
theorem dX12_laysSounds_14 : decode cX12_laysSounds 14 = .ok (.istore 7, 2) := by decide +kernel
theorem dX12_laysSounds_16 : decode cX12_laysSounds 16 = .ok (.iload 7, 2) := by decide +kernel
theorem dX12_laysSounds_18 : decode cX12_laysSounds 18 = .ok (.istore 8, 2) := by decide +kernel
theorem dX12_laysSounds_20 : decode cX12_laysSounds 20 = .ok (.iload 8, 2) := by decide +kernel
theorem dX12_laysSounds_22 : decode cX12_laysSounds 22 = .ok (.ifCond .lt 162, 3) := by decide +kernel
theorem dX12_laysSounds_25 : decode cX12_laysSounds 25 = .ok (.iload 5, 2) := by decide +kernel
theorem dX12_laysSounds_27 : decode cX12_laysSounds 27 = .ok (.istore 9, 2) := by decide +kernel
theorem dX12_laysSounds_29 : decode cX12_laysSounds 29 = .ok (.iload 9, 2) := by decide +kernel
theorem dX12_laysSounds_31 : decode cX12_laysSounds 31 = .ok (.iload 4, 2) := by decide +kernel
theorem dX12_laysSounds_33 : decode cX12_laysSounds 33 = .ok (.if_icmp .lt 145, 3) := by decide +kernel
theorem dX12_laysSounds_36 : decode cX12_laysSounds 36 = .ok (.iload 8, 2) := by decide +kernel
theorem dX12_laysSounds_38 : decode cX12_laysSounds 38 = .ok (.iload 7, 2) := by decide +kernel
theorem dX12_laysSounds_40 : decode cX12_laysSounds 40 = .ok (.if_icmp .ne 14, 3) := by decide +kernel
theorem dX12_laysSounds_43 : decode cX12_laysSounds 43 = .ok (.iload 9, 2) := by decide +kernel
theorem dX12_laysSounds_45 : decode cX12_laysSounds 45 = .ok (.iload 5, 2) := by decide +kernel
theorem dX12_laysSounds_47 : decode cX12_laysSounds 47 = .ok (.if_icmp .ne 7, 3) := by decide +kernel
theorem dX12_laysSounds_50 : decode cX12_laysSounds 50 = .ok (.lconst 0, 1) := by decide +kernel
theorem dX12_laysSounds_51 : decode cX12_laysSounds 51 = .ok (.goto 6, 3) := by decide +kernel
theorem dX12_laysSounds_54 : decode cX12_laysSounds 54 = .ok (.ldc2_w 205, 3) := by decide +kernel
theorem dX12_laysSounds_57 : decode cX12_laysSounds 57 = .ok (.lstore 10, 2) := by decide +kernel
theorem dX12_laysSounds_59 : decode cX12_laysSounds 59 = .ok (.iload 8, 2) := by decide +kernel
theorem dX12_laysSounds_61 : decode cX12_laysSounds 61 = .ok (.iload 7, 2) := by decide +kernel
theorem dX12_laysSounds_63 : decode cX12_laysSounds 63 = .ok (.if_icmp .ge 94, 3) := by decide +kernel
theorem dX12_laysSounds_66 : decode cX12_laysSounds 66 = .ok (.iload 9, 2) := by decide +kernel
theorem dX12_laysSounds_68 : decode cX12_laysSounds 68 = .ok (.iload 5, 2) := by decide +kernel
theorem dX12_laysSounds_70 : decode cX12_laysSounds 70 = .ok (.if_icmp .ge 87, 3) := by decide +kernel
theorem dX12_laysSounds_73 : decode cX12_laysSounds 73 = .ok (.aload_n 0, 1) := by decide +kernel
theorem dX12_laysSounds_74 : decode cX12_laysSounds 74 = .ok (.aload_n 0, 1) := by decide +kernel
theorem dX12_laysSounds_75 : decode cX12_laysSounds 75 = .ok (.getfield 66, 3) := by decide +kernel
theorem dX12_laysSounds_78 : decode cX12_laysSounds 78 = .ok (.bipush 17, 2) := by decide +kernel
theorem dX12_laysSounds_80 : decode cX12_laysSounds 80 = .ok (.iload 8, 2) := by decide +kernel
theorem dX12_laysSounds_82 : decode cX12_laysSounds 82 = .ok (.imul, 1) := by decide +kernel
theorem dX12_laysSounds_83 : decode cX12_laysSounds 83 = .ok (.iload 9, 2) := by decide +kernel
theorem dX12_laysSounds_85 : decode cX12_laysSounds 85 = .ok (.iadd, 1) := by decide +kernel
theorem dX12_laysSounds_86 : decode cX12_laysSounds 86 = .ok (.iconst 1, 1) := by decide +kernel
theorem dX12_laysSounds_87 : decode cX12_laysSounds 87 = .ok (.iadd, 1) := by decide +kernel
theorem dX12_laysSounds_88 : decode cX12_laysSounds 88 = .ok (.laload, 1) := by decide +kernel
theorem dX12_laysSounds_89 : decode cX12_laysSounds 89 = .ok (.aload_n 0, 1) := by decide +kernel
theorem dX12_laysSounds_90 : decode cX12_laysSounds 90 = .ok (.getfield 66, 3) := by decide +kernel
theorem dX12_laysSounds_93 : decode cX12_laysSounds 93 = .ok (.bipush 17, 2) := by decide +kernel
theorem dX12_laysSounds_95 : decode cX12_laysSounds 95 = .ok (.iload 8, 2) := by decide +kernel
theorem dX12_laysSounds_97 : decode cX12_laysSounds 97 = .ok (.iconst 1, 1) := by decide +kernel
theorem dX12_laysSounds_98 : decode cX12_laysSounds 98 = .ok (.iadd, 1) := by decide +kernel
theorem dX12_laysSounds_99 : decode cX12_laysSounds 99 = .ok (.imul, 1) := by decide +kernel
theorem dX12_laysSounds_100 : decode cX12_laysSounds 100 = .ok (.iload 9, 2) := by decide +kernel
theorem dX12_laysSounds_102 : decode cX12_laysSounds 102 = .ok (.iadd, 1) := by decide +kernel
theorem dX12_laysSounds_103 : decode cX12_laysSounds 103 = .ok (.iconst 1, 1) := by decide +kernel
theorem dX12_laysSounds_104 : decode cX12_laysSounds 104 = .ok (.iadd, 1) := by decide +kernel
theorem dX12_laysSounds_105 : decode cX12_laysSounds 105 = .ok (.laload, 1) := by decide +kernel
theorem dX12_laysSounds_106 : decode cX12_laysSounds 106 = .ok (.invokevirtual 207, 3) := by decide +kernel
theorem dX12_laysSounds_109 : decode cX12_laysSounds 109 = .ok (.lstore 10, 2) := by decide +kernel
theorem dX12_laysSounds_111 : decode cX12_laysSounds 111 = .ok (.lload 10, 2) := by decide +kernel
theorem dX12_laysSounds_113 : decode cX12_laysSounds 113 = .ok (.ldc2_w 205, 3) := by decide +kernel
theorem dX12_laysSounds_116 : decode cX12_laysSounds 116 = .ok (.lcmp, 1) := by decide +kernel
theorem dX12_laysSounds_117 : decode cX12_laysSounds 117 = .ok (.ifCond .ge 35, 3) := by decide +kernel
theorem dX12_laysSounds_120 : decode cX12_laysSounds 120 = .ok (.lload 10, 2) := by decide +kernel
theorem dX12_laysSounds_122 : decode cX12_laysSounds 122 = .ok (.aload_n 0, 1) := by decide +kernel
theorem dX12_laysSounds_123 : decode cX12_laysSounds 123 = .ok (.iload 9, 2) := by decide +kernel
theorem dX12_laysSounds_125 : decode cX12_laysSounds 125 = .ok (.aload_n 0, 1) := by decide +kernel
theorem dX12_laysSounds_126 : decode cX12_laysSounds 126 = .ok (.getfield 43, 3) := by decide +kernel
theorem dX12_laysSounds_129 : decode cX12_laysSounds 129 = .ok (.iconst 4, 1) := by decide +kernel
theorem dX12_laysSounds_130 : decode cX12_laysSounds 130 = .ok (.iload 6, 2) := by decide +kernel
theorem dX12_laysSounds_132 : decode cX12_laysSounds 132 = .ok (.imul, 1) := by decide +kernel
theorem dX12_laysSounds_133 : decode cX12_laysSounds 133 = .ok (.iload 8, 2) := by decide +kernel
theorem dX12_laysSounds_135 : decode cX12_laysSounds 135 = .ok (.iadd, 1) := by decide +kernel
theorem dX12_laysSounds_136 : decode cX12_laysSounds 136 = .ok (.iaload, 1) := by decide +kernel
theorem dX12_laysSounds_137 : decode cX12_laysSounds 137 = .ok (.aload_n 0, 1) := by decide +kernel
theorem dX12_laysSounds_138 : decode cX12_laysSounds 138 = .ok (.iload 6, 2) := by decide +kernel
theorem dX12_laysSounds_140 : decode cX12_laysSounds 140 = .ok (.iload 8, 2) := by decide +kernel
theorem dX12_laysSounds_142 : decode cX12_laysSounds 142 = .ok (.invokevirtual 198, 3) := by decide +kernel
theorem dX12_laysSounds_145 : decode cX12_laysSounds 145 = .ok (.invokevirtual 201, 3) := by decide +kernel
theorem dX12_laysSounds_148 : decode cX12_laysSounds 148 = .ok (.ladd, 1) := by decide +kernel
theorem dX12_laysSounds_149 : decode cX12_laysSounds 149 = .ok (.goto 6, 3) := by decide +kernel
theorem dX12_laysSounds_152 : decode cX12_laysSounds 152 = .ok (.ldc2_w 205, 3) := by decide +kernel
theorem dX12_laysSounds_155 : decode cX12_laysSounds 155 = .ok (.lstore 10, 2) := by decide +kernel
theorem dX12_laysSounds_157 : decode cX12_laysSounds 157 = .ok (.aload_n 0, 1) := by decide +kernel
theorem dX12_laysSounds_158 : decode cX12_laysSounds 158 = .ok (.getfield 66, 3) := by decide +kernel
theorem dX12_laysSounds_161 : decode cX12_laysSounds 161 = .ok (.bipush 17, 2) := by decide +kernel
theorem dX12_laysSounds_163 : decode cX12_laysSounds 163 = .ok (.iload 8, 2) := by decide +kernel
theorem dX12_laysSounds_165 : decode cX12_laysSounds 165 = .ok (.imul, 1) := by decide +kernel
theorem dX12_laysSounds_166 : decode cX12_laysSounds 166 = .ok (.iload 9, 2) := by decide +kernel
theorem dX12_laysSounds_168 : decode cX12_laysSounds 168 = .ok (.iadd, 1) := by decide +kernel
theorem dX12_laysSounds_169 : decode cX12_laysSounds 169 = .ok (.lload 10, 2) := by decide +kernel
theorem dX12_laysSounds_171 : decode cX12_laysSounds 171 = .ok (.lastore, 1) := by decide +kernel
theorem dX12_laysSounds_172 : decode cX12_laysSounds 172 = .ok (.iinc 9 (-1), 3) := by decide +kernel
theorem dX12_laysSounds_175 : decode cX12_laysSounds 175 = .ok (.goto (-146), 3) := by decide +kernel
theorem dX12_laysSounds_178 : decode cX12_laysSounds 178 = .ok (.iinc 8 (-1), 3) := by decide +kernel
theorem dX12_laysSounds_181 : decode cX12_laysSounds 181 = .ok (.goto (-161), 3) := by decide +kernel
theorem dX12_laysSounds_184 : decode cX12_laysSounds 184 = .ok (.iconst 0, 1) := by decide +kernel
theorem dX12_laysSounds_185 : decode cX12_laysSounds 185 = .ok (.istore 8, 2) := by decide +kernel
theorem dX12_laysSounds_187 : decode cX12_laysSounds 187 = .ok (.iload 4, 2) := by decide +kernel
theorem dX12_laysSounds_189 : decode cX12_laysSounds 189 = .ok (.istore 9, 2) := by decide +kernel
theorem dX12_laysSounds_191 : decode cX12_laysSounds 191 = .ok (.iload 9, 2) := by decide +kernel
theorem dX12_laysSounds_193 : decode cX12_laysSounds 193 = .ok (.iload 5, 2) := by decide +kernel
theorem dX12_laysSounds_195 : decode cX12_laysSounds 195 = .ok (.if_icmp .ge 150, 3) := by decide +kernel
theorem dX12_laysSounds_198 : decode cX12_laysSounds 198 = .ok (.aload_n 0, 1) := by decide +kernel
theorem dX12_laysSounds_199 : decode cX12_laysSounds 199 = .ok (.getfield 84, 3) := by decide +kernel
theorem dX12_laysSounds_202 : decode cX12_laysSounds 202 = .ok (.bipush 6, 2) := by decide +kernel
theorem dX12_laysSounds_204 : decode cX12_laysSounds 204 = .ok (.iload 9, 2) := by decide +kernel
theorem dX12_laysSounds_206 : decode cX12_laysSounds 206 = .ok (.imul, 1) := by decide +kernel
theorem dX12_laysSounds_207 : decode cX12_laysSounds 207 = .ok (.iload_n 1, 1) := by decide +kernel
theorem dX12_laysSounds_208 : decode cX12_laysSounds 208 = .ok (.iastore, 1) := by decide +kernel
theorem dX12_laysSounds_209 : decode cX12_laysSounds 209 = .ok (.aload_n 0, 1) := by decide +kernel
theorem dX12_laysSounds_210 : decode cX12_laysSounds 210 = .ok (.getfield 84, 3) := by decide +kernel
theorem dX12_laysSounds_213 : decode cX12_laysSounds 213 = .ok (.bipush 6, 2) := by decide +kernel
theorem dX12_laysSounds_215 : decode cX12_laysSounds 215 = .ok (.iload 9, 2) := by decide +kernel
theorem dX12_laysSounds_217 : decode cX12_laysSounds 217 = .ok (.imul, 1) := by decide +kernel
theorem dX12_laysSounds_218 : decode cX12_laysSounds 218 = .ok (.iconst 1, 1) := by decide +kernel
theorem dX12_laysSounds_219 : decode cX12_laysSounds 219 = .ok (.iadd, 1) := by decide +kernel
theorem dX12_laysSounds_220 : decode cX12_laysSounds 220 = .ok (.iload_n 2, 1) := by decide +kernel
theorem dX12_laysSounds_221 : decode cX12_laysSounds 221 = .ok (.iastore, 1) := by decide +kernel
theorem dX12_laysSounds_222 : decode cX12_laysSounds 222 = .ok (.aload_n 0, 1) := by decide +kernel
theorem dX12_laysSounds_223 : decode cX12_laysSounds 223 = .ok (.getfield 84, 3) := by decide +kernel
theorem dX12_laysSounds_226 : decode cX12_laysSounds 226 = .ok (.bipush 6, 2) := by decide +kernel
theorem dX12_laysSounds_228 : decode cX12_laysSounds 228 = .ok (.iload 9, 2) := by decide +kernel
theorem dX12_laysSounds_230 : decode cX12_laysSounds 230 = .ok (.imul, 1) := by decide +kernel
theorem dX12_laysSounds_231 : decode cX12_laysSounds 231 = .ok (.iconst 2, 1) := by decide +kernel
theorem dX12_laysSounds_232 : decode cX12_laysSounds 232 = .ok (.iadd, 1) := by decide +kernel
theorem dX12_laysSounds_233 : decode cX12_laysSounds 233 = .ok (.iload_n 3, 1) := by decide +kernel
theorem dX12_laysSounds_234 : decode cX12_laysSounds 234 = .ok (.iastore, 1) := by decide +kernel
theorem dX12_laysSounds_235 : decode cX12_laysSounds 235 = .ok (.aload_n 0, 1) := by decide +kernel
theorem dX12_laysSounds_236 : decode cX12_laysSounds 236 = .ok (.getfield 84, 3) := by decide +kernel
theorem dX12_laysSounds_239 : decode cX12_laysSounds 239 = .ok (.bipush 6, 2) := by decide +kernel
theorem dX12_laysSounds_241 : decode cX12_laysSounds 241 = .ok (.iload 9, 2) := by decide +kernel
theorem dX12_laysSounds_243 : decode cX12_laysSounds 243 = .ok (.imul, 1) := by decide +kernel
theorem dX12_laysSounds_244 : decode cX12_laysSounds 244 = .ok (.iconst 3, 1) := by decide +kernel
theorem dX12_laysSounds_245 : decode cX12_laysSounds 245 = .ok (.iadd, 1) := by decide +kernel
theorem dX12_laysSounds_246 : decode cX12_laysSounds 246 = .ok (.iload 8, 2) := by decide +kernel
theorem dX12_laysSounds_248 : decode cX12_laysSounds 248 = .ok (.iastore, 1) := by decide +kernel
theorem dX12_laysSounds_249 : decode cX12_laysSounds 249 = .ok (.aload_n 0, 1) := by decide +kernel
theorem dX12_laysSounds_250 : decode cX12_laysSounds 250 = .ok (.getfield 84, 3) := by decide +kernel
theorem dX12_laysSounds_253 : decode cX12_laysSounds 253 = .ok (.bipush 6, 2) := by decide +kernel
theorem dX12_laysSounds_255 : decode cX12_laysSounds 255 = .ok (.iload 9, 2) := by decide +kernel
theorem dX12_laysSounds_257 : decode cX12_laysSounds 257 = .ok (.imul, 1) := by decide +kernel
theorem dX12_laysSounds_258 : decode cX12_laysSounds 258 = .ok (.iconst 4, 1) := by decide +kernel
theorem dX12_laysSounds_259 : decode cX12_laysSounds 259 = .ok (.iadd, 1) := by decide +kernel
theorem dX12_laysSounds_260 : decode cX12_laysSounds 260 = .ok (.aload_n 0, 1) := by decide +kernel
theorem dX12_laysSounds_261 : decode cX12_laysSounds 261 = .ok (.getfield 43, 3) := by decide +kernel
theorem dX12_laysSounds_264 : decode cX12_laysSounds 264 = .ok (.iconst 4, 1) := by decide +kernel
theorem dX12_laysSounds_265 : decode cX12_laysSounds 265 = .ok (.iload 6, 2) := by decide +kernel
theorem dX12_laysSounds_267 : decode cX12_laysSounds 267 = .ok (.imul, 1) := by decide +kernel
theorem dX12_laysSounds_268 : decode cX12_laysSounds 268 = .ok (.iload 8, 2) := by decide +kernel
theorem dX12_laysSounds_270 : decode cX12_laysSounds 270 = .ok (.iadd, 1) := by decide +kernel
theorem dX12_laysSounds_271 : decode cX12_laysSounds 271 = .ok (.iaload, 1) := by decide +kernel
theorem dX12_laysSounds_272 : decode cX12_laysSounds 272 = .ok (.iastore, 1) := by decide +kernel
theorem dX12_laysSounds_273 : decode cX12_laysSounds 273 = .ok (.aload_n 0, 1) := by decide +kernel
theorem dX12_laysSounds_274 : decode cX12_laysSounds 274 = .ok (.getfield 84, 3) := by decide +kernel
theorem dX12_laysSounds_277 : decode cX12_laysSounds 277 = .ok (.bipush 6, 2) := by decide +kernel
theorem dX12_laysSounds_279 : decode cX12_laysSounds 279 = .ok (.iload 9, 2) := by decide +kernel
theorem dX12_laysSounds_281 : decode cX12_laysSounds 281 = .ok (.imul, 1) := by decide +kernel
theorem dX12_laysSounds_282 : decode cX12_laysSounds 282 = .ok (.iconst 5, 1) := by decide +kernel
theorem dX12_laysSounds_283 : decode cX12_laysSounds 283 = .ok (.iadd, 1) := by decide +kernel
theorem dX12_laysSounds_284 : decode cX12_laysSounds 284 = .ok (.aload_n 0, 1) := by decide +kernel
theorem dX12_laysSounds_285 : decode cX12_laysSounds 285 = .ok (.iload 6, 2) := by decide +kernel
theorem dX12_laysSounds_287 : decode cX12_laysSounds 287 = .ok (.iload 8, 2) := by decide +kernel
theorem dX12_laysSounds_289 : decode cX12_laysSounds 289 = .ok (.invokevirtual 198, 3) := by decide +kernel
theorem dX12_laysSounds_292 : decode cX12_laysSounds 292 = .ok (.iastore, 1) := by decide +kernel
theorem dX12_laysSounds_293 : decode cX12_laysSounds 293 = .ok (.iload 8, 2) := by decide +kernel
theorem dX12_laysSounds_295 : decode cX12_laysSounds 295 = .ok (.aload_n 0, 1) := by decide +kernel
theorem dX12_laysSounds_296 : decode cX12_laysSounds 296 = .ok (.getfield 66, 3) := by decide +kernel
theorem dX12_laysSounds_299 : decode cX12_laysSounds 299 = .ok (.bipush 17, 2) := by decide +kernel
theorem dX12_laysSounds_301 : decode cX12_laysSounds 301 = .ok (.iload 8, 2) := by decide +kernel
theorem dX12_laysSounds_303 : decode cX12_laysSounds 303 = .ok (.iconst 1, 1) := by decide +kernel
theorem dX12_laysSounds_304 : decode cX12_laysSounds 304 = .ok (.iadd, 1) := by decide +kernel
theorem dX12_laysSounds_305 : decode cX12_laysSounds 305 = .ok (.imul, 1) := by decide +kernel
theorem dX12_laysSounds_306 : decode cX12_laysSounds 306 = .ok (.iload 9, 2) := by decide +kernel
theorem dX12_laysSounds_308 : decode cX12_laysSounds 308 = .ok (.iadd, 1) := by decide +kernel
theorem dX12_laysSounds_309 : decode cX12_laysSounds 309 = .ok (.iconst 1, 1) := by decide +kernel
theorem dX12_laysSounds_310 : decode cX12_laysSounds 310 = .ok (.iadd, 1) := by decide +kernel
theorem dX12_laysSounds_311 : decode cX12_laysSounds 311 = .ok (.laload, 1) := by decide +kernel
theorem dX12_laysSounds_312 : decode cX12_laysSounds 312 = .ok (.aload_n 0, 1) := by decide +kernel
theorem dX12_laysSounds_313 : decode cX12_laysSounds 313 = .ok (.getfield 66, 3) := by decide +kernel
theorem dX12_laysSounds_316 : decode cX12_laysSounds 316 = .ok (.bipush 17, 2) := by decide +kernel
theorem dX12_laysSounds_318 : decode cX12_laysSounds 318 = .ok (.iload 8, 2) := by decide +kernel
theorem dX12_laysSounds_320 : decode cX12_laysSounds 320 = .ok (.imul, 1) := by decide +kernel
theorem dX12_laysSounds_321 : decode cX12_laysSounds 321 = .ok (.iload 9, 2) := by decide +kernel
theorem dX12_laysSounds_323 : decode cX12_laysSounds 323 = .ok (.iadd, 1) := by decide +kernel
theorem dX12_laysSounds_324 : decode cX12_laysSounds 324 = .ok (.iconst 1, 1) := by decide +kernel
theorem dX12_laysSounds_325 : decode cX12_laysSounds 325 = .ok (.iadd, 1) := by decide +kernel
theorem dX12_laysSounds_326 : decode cX12_laysSounds 326 = .ok (.laload, 1) := by decide +kernel
theorem dX12_laysSounds_327 : decode cX12_laysSounds 327 = .ok (.lcmp, 1) := by decide +kernel
theorem dX12_laysSounds_328 : decode cX12_laysSounds 328 = .ok (.ifCond .gt 7, 3) := by decide +kernel
theorem dX12_laysSounds_331 : decode cX12_laysSounds 331 = .ok (.iconst 1, 1) := by decide +kernel
theorem dX12_laysSounds_332 : decode cX12_laysSounds 332 = .ok (.goto 4, 3) := by decide +kernel
theorem dX12_laysSounds_335 : decode cX12_laysSounds 335 = .ok (.iconst 0, 1) := by decide +kernel
theorem dX12_laysSounds_336 : decode cX12_laysSounds 336 = .ok (.iadd, 1) := by decide +kernel
theorem dX12_laysSounds_337 : decode cX12_laysSounds 337 = .ok (.istore 8, 2) := by decide +kernel
theorem dX12_laysSounds_339 : decode cX12_laysSounds 339 = .ok (.iinc 9 1, 3) := by decide +kernel
theorem dX12_laysSounds_342 : decode cX12_laysSounds 342 = .ok (.goto (-151), 3) := by decide +kernel
theorem dX12_laysSounds_345 : decode cX12_laysSounds 345 = .ok (.return_, 1) := by decide +kernel
def J_X12_laysSounds_157 (v1 v2 v3 v4 v5 v6 v7 v8 v9 v10 : Int) (st : z_St) : Option ((Int × z_St) ⊕ z_St) :=
  z_g (0 ≤ (17 * v8) + v9 ∧ (17 * v8) + v9 < 85) <|
  z_let (z_up st 185 ((17 * v8) + v9) v10) fun st11 =>
  some (.inl (v9 + (-1), st11))
set_option maxRecDepth 100000 in
set_option maxHeartbeats 4000000 in
theorem w_X12_laysSounds_157 {κ : zK} {a : Nat → Nat} {v1 v2 v3 v4 v5 v6 v7 v8 v9 v10 : Int} {st : z_St} {mc9 ms9 : Nat} {o : (Int × z_St) ⊕ z_St} (hc : z_C κ RX12 cX12_laysSounds 12 10 mc9 ms9) (hap : z_AP κ a z_N) (k1 : ∀ s9 : (Int × z_St), o = .inl s9 → z_V κ z_T z_N a 0 0 29 [(0, .ref (a 168)), (1, .int (zI v1)), (2, .int (zI v2)), (3, .int (zI v3)), (4, .int (zI v4)), (5, .int (zI v5)), (6, .int (zI v6)), (7, .int (zI v7)), (8, .int (zI v8)), (9, .int (zI s9.1))] [] s9.2) (k2 : ∀ x9 : z_St, o = .inr x9 → z_V κ z_T z_N a 0 0 178 [(0, .ref (a 168)), (1, .int (zI v1)), (2, .int (zI v2)), (3, .int (zI v3)), (4, .int (zI v4)), (5, .int (zI v5)), (6, .int (zI v6)), (7, .int (zI v7)), (8, .int (zI v8))] [] x9) (h : J_X12_laysSounds_157 v1 v2 v3 v4 v5 v6 v7 v8 v9 v10 st = some o) : z_V κ z_T z_N a 0 0 157 [(0, .ref (a 168)), (1, .int (zI v1)), (2, .int (zI v2)), (3, .int (zI v3)), (4, .int (zI v4)), (5, .int (zI v5)), (6, .int (zI v6)), (7, .int (zI v7)), (8, .int (zI v8)), (9, .int (zI v9)), (10, .long (zJ v10))] [] st := by
  unfold J_X12_laysSounds_157 at h
  refine z_aload_n (i := 0) 0 hc dX12_laysSounds_157 rfl rfl ?_
  refine z_getA (k' := 185) hc fl_RX12_66 tT_168 (by decide) rfl rfl dX12_laysSounds_158 ?_
  refine z_bipush hc dX12_laysSounds_161 rfl ?_
  refine z_iload 8 hc dX12_laysSounds_163 rfl ?_
  refine z_imul hc dX12_laysSounds_165 ?_
  refine z_iload 9 hc dX12_laysSounds_166 rfl ?_
  refine z_iadd hc dX12_laysSounds_168 ?_
  refine z_lload 10 hc dX12_laysSounds_169 rfl ?_
  refine z_last (kI := 185) (nI9 := 85) hc hap tT_185 (by decide) rfl rfl (by decide) dX12_laysSounds_171 h (fun st11 h => ?_)
  refine z_iinc [(9, .int (zI (v9 + (-1)))), (0, .ref (a 168)), (1, .int (zI v1)), (2, .int (zI v2)), (3, .int (zI v3)), (4, .int (zI v4)), (5, .int (zI v5)), (6, .int (zI v6)), (7, .int (zI v7)), (8, .int (zI v8)), (10, .long (zJ v10))] 9 hc dX12_laysSounds_172 rfl (by decide) rfl ?_
  refine z_goto (tgt := 29) hc dX12_laysSounds_175 (by decide) ?_
  refine z_sub [(0, .ref (a 168)), (1, .int (zI v1)), (2, .int (zI v2)), (3, .int (zI v3)), (4, .int (zI v4)), (5, .int (zI v5)), (6, .int (zI v6)), (7, .int (zI v7)), (8, .int (zI v8)), (9, .int (zI (v9 + (-1))))] [1, 2, 3, 4, 5, 6, 7, 8, 9, 0] rfl ?_
  exact k1 _ (Option.some.inj h).symm
def J_X12_laysSounds_155 (v1 v2 v3 v4 v5 v6 v7 v8 v9 s0 : Int) (st : z_St) : Option ((Int × z_St) ⊕ z_St) :=
  J_X12_laysSounds_157 v1 v2 v3 v4 v5 v6 v7 v8 v9 s0 st
set_option maxRecDepth 100000 in
set_option maxHeartbeats 4000000 in
theorem w_X12_laysSounds_155 {κ : zK} {a : Nat → Nat} {v1 v2 v3 v4 v5 v6 v7 v8 v9 s0 : Int} {st : z_St} {mc9 ms9 : Nat} {o : (Int × z_St) ⊕ z_St} (hc : z_C κ RX12 cX12_laysSounds 12 10 mc9 ms9) (hap : z_AP κ a z_N) (k1 : ∀ s9 : (Int × z_St), o = .inl s9 → z_V κ z_T z_N a 0 0 29 [(0, .ref (a 168)), (1, .int (zI v1)), (2, .int (zI v2)), (3, .int (zI v3)), (4, .int (zI v4)), (5, .int (zI v5)), (6, .int (zI v6)), (7, .int (zI v7)), (8, .int (zI v8)), (9, .int (zI s9.1))] [] s9.2) (k2 : ∀ x9 : z_St, o = .inr x9 → z_V κ z_T z_N a 0 0 178 [(0, .ref (a 168)), (1, .int (zI v1)), (2, .int (zI v2)), (3, .int (zI v3)), (4, .int (zI v4)), (5, .int (zI v5)), (6, .int (zI v6)), (7, .int (zI v7)), (8, .int (zI v8))] [] x9) (h : J_X12_laysSounds_155 v1 v2 v3 v4 v5 v6 v7 v8 v9 s0 st = some o) : z_V κ z_T z_N a 0 0 155 [(0, .ref (a 168)), (1, .int (zI v1)), (2, .int (zI v2)), (3, .int (zI v3)), (4, .int (zI v4)), (5, .int (zI v5)), (6, .int (zI v6)), (7, .int (zI v7)), (8, .int (zI v8)), (9, .int (zI v9))] [.long (zJ s0)] st := by
  unfold J_X12_laysSounds_155 at h
  refine z_lstore [(10, .long (zJ s0)), (0, .ref (a 168)), (1, .int (zI v1)), (2, .int (zI v2)), (3, .int (zI v3)), (4, .int (zI v4)), (5, .int (zI v5)), (6, .int (zI v6)), (7, .int (zI v7)), (8, .int (zI v8)), (9, .int (zI v9))] hc dX12_laysSounds_155 (by decide) rfl ?_
  refine z_sub [(0, .ref (a 168)), (1, .int (zI v1)), (2, .int (zI v2)), (3, .int (zI v3)), (4, .int (zI v4)), (5, .int (zI v5)), (6, .int (zI v6)), (7, .int (zI v7)), (8, .int (zI v8)), (9, .int (zI v9)), (10, .long (zJ s0))] [1, 2, 3, 4, 5, 6, 7, 8, 9, 10, 0] rfl ?_
  exact w_X12_laysSounds_157 hc hap k1 k2 h
def J_X12_laysSounds_57 (v1 v2 v3 v4 v5 v6 v7 v8 v9 s0 : Int) (st : z_St) : Option ((Int × z_St) ⊕ z_St) :=
  z_g (z32 v8 ∧ z32 v7) (if v8 < v7 then
    z_g (z32 v9 ∧ z32 v5) (if v9 < v5 then
      z_g (0 ≤ ((17 * v8) + v9) + 1 ∧ ((17 * v8) + v9) + 1 < 85) <|
      z_g (0 ≤ ((17 * (v8 + 1)) + v9) + 1 ∧ ((17 * (v8 + 1)) + v9) + 1 < 85) <|
      z_b (J_X12_least (st 185 (((17 * v8) + v9) + 1)) (st 185 (((17 * (v8 + 1)) + v9) + 1)) st) fun r4 =>
      z_g (z64 r4 ∧ z64 1000000000000000000) (if r4 < 1000000000000000000 then
        z_g (0 ≤ (4 * v6) + v8 ∧ (4 * v6) + v8 < 40) <|
        z_b (J_X12_formOf v6 v8 st) fun r7 =>
        z_b (J_X12_costOf v9 (st 180 ((4 * v6) + v8)) r7 st) fun r9 =>
        J_X12_laysSounds_155 v1 v2 v3 v4 v5 v6 v7 v8 v9 (r4 + r9) st
      else
        J_X12_laysSounds_155 v1 v2 v3 v4 v5 v6 v7 v8 v9 1000000000000000000 st)
    else
      J_X12_laysSounds_157 v1 v2 v3 v4 v5 v6 v7 v8 v9 s0 st)
  else
    J_X12_laysSounds_157 v1 v2 v3 v4 v5 v6 v7 v8 v9 s0 st)
set_option maxRecDepth 100000 in
set_option maxHeartbeats 4000000 in
theorem w_X12_laysSounds_57 {κ : zK} {a : Nat → Nat} {v1 v2 v3 v4 v5 v6 v7 v8 v9 s0 : Int} {st : z_St} {mc9 ms9 : Nat} {o : (Int × z_St) ⊕ z_St} (hc : z_C κ RX12 cX12_laysSounds 12 10 mc9 ms9) (hap : z_AP κ a z_N) (k1 : ∀ s9 : (Int × z_St), o = .inl s9 → z_V κ z_T z_N a 0 0 29 [(0, .ref (a 168)), (1, .int (zI v1)), (2, .int (zI v2)), (3, .int (zI v3)), (4, .int (zI v4)), (5, .int (zI v5)), (6, .int (zI v6)), (7, .int (zI v7)), (8, .int (zI v8)), (9, .int (zI s9.1))] [] s9.2) (k2 : ∀ x9 : z_St, o = .inr x9 → z_V κ z_T z_N a 0 0 178 [(0, .ref (a 168)), (1, .int (zI v1)), (2, .int (zI v2)), (3, .int (zI v3)), (4, .int (zI v4)), (5, .int (zI v5)), (6, .int (zI v6)), (7, .int (zI v7)), (8, .int (zI v8))] [] x9) (h : J_X12_laysSounds_57 v1 v2 v3 v4 v5 v6 v7 v8 v9 s0 st = some o) : z_V κ z_T z_N a 0 0 57 [(0, .ref (a 168)), (1, .int (zI v1)), (2, .int (zI v2)), (3, .int (zI v3)), (4, .int (zI v4)), (5, .int (zI v5)), (6, .int (zI v6)), (7, .int (zI v7)), (8, .int (zI v8)), (9, .int (zI v9))] [.long (zJ s0)] st := by
  unfold J_X12_laysSounds_57 at h
  refine z_lstore [(10, .long (zJ s0)), (0, .ref (a 168)), (1, .int (zI v1)), (2, .int (zI v2)), (3, .int (zI v3)), (4, .int (zI v4)), (5, .int (zI v5)), (6, .int (zI v6)), (7, .int (zI v7)), (8, .int (zI v8)), (9, .int (zI v9))] hc dX12_laysSounds_57 (by decide) rfl ?_
  refine z_iload 9 hc dX12_laysSounds_59 rfl ?_
  refine z_iload 8 hc dX12_laysSounds_61 rfl ?_
  refine z_icmp_ge (tgt := 157) hc dX12_laysSounds_63 (by decide) h (fun c63 h => ?_) (fun c63 h => ?_)
  · refine z_iload 10 hc dX12_laysSounds_66 rfl ?_
    refine z_iload 6 hc dX12_laysSounds_68 rfl ?_
    refine z_icmp_ge (tgt := 157) hc dX12_laysSounds_70 (by decide) h (fun c70 h => ?_) (fun c70 h => ?_)
    · refine z_aload_n (i := 0) 1 hc dX12_laysSounds_73 rfl rfl ?_
      refine z_aload_n (i := 0) 1 hc dX12_laysSounds_74 rfl rfl ?_
      refine z_getA (k' := 185) hc fl_RX12_66 tT_168 (by decide) rfl rfl dX12_laysSounds_75 ?_
      refine z_bipush hc dX12_laysSounds_78 rfl ?_
      refine z_iload 9 hc dX12_laysSounds_80 rfl ?_
      refine z_imul hc dX12_laysSounds_82 ?_
      refine z_iload 10 hc dX12_laysSounds_83 rfl ?_
      refine z_iadd hc dX12_laysSounds_85 ?_
      refine z_iconst hc dX12_laysSounds_86 ?_
      refine z_iadd hc dX12_laysSounds_87 ?_
      refine z_lald (kI := 185) (nI9 := 85) hc tT_185 (by decide) rfl rfl (by decide) dX12_laysSounds_88 h (fun g2 h => ?_)
      refine z_aload_n (i := 0) 1 hc dX12_laysSounds_89 rfl rfl ?_
      refine z_getA (k' := 185) hc fl_RX12_66 tT_168 (by decide) rfl rfl dX12_laysSounds_90 ?_
      refine z_bipush hc dX12_laysSounds_93 rfl ?_
      refine z_iload 9 hc dX12_laysSounds_95 rfl ?_
      refine z_iconst hc dX12_laysSounds_97 ?_
      refine z_iadd hc dX12_laysSounds_98 ?_
      refine z_imul hc dX12_laysSounds_99 ?_
      refine z_iload 10 hc dX12_laysSounds_100 rfl ?_
      refine z_iadd hc dX12_laysSounds_102 ?_
      refine z_iconst hc dX12_laysSounds_103 ?_
      refine z_iadd hc dX12_laysSounds_104 ?_
      refine z_lald (kI := 185) (nI9 := 85) hc tT_185 (by decide) rfl rfl (by decide) dX12_laysSounds_105 h (fun g3 h => ?_)
      obtain ⟨r4, hr4, h⟩ := z_b_some h
      refine z_callVJ [.long (zJ (st 185 (((17 * v8) + v9) + 1))), .long (zJ (st 185 (((17 * (v8 + 1)) + v9) + 1)))] hc hap o_X12_least ml_RX12_207 (fun l hl => c_X12_least hl  hr4) (by decide) tT_168 (by decide) ⟨_, rfl, rfl⟩ rfl rfl (Nat.le_of_ble_eq_true rfl) (Nat.zero_le _) (Nat.zero_le _) dX12_laysSounds_106 ?_
      refine z_lstore [(10, .long (zJ r4)), (0, .ref (a 168)), (1, .int (zI v1)), (2, .int (zI v2)), (3, .int (zI v3)), (4, .int (zI v4)), (5, .int (zI v5)), (6, .int (zI v6)), (7, .int (zI v7)), (8, .int (zI v8)), (9, .int (zI v9))] hc dX12_laysSounds_109 (by decide) rfl ?_
      refine z_lload 0 hc dX12_laysSounds_111 rfl ?_
      refine z_ldc2 1000000000000000000 hc kc_RX12_205 dX12_laysSounds_113 rfl ?_
      refine z_lcmp_ge (tgt := 152) hc dX12_laysSounds_116 dX12_laysSounds_117 (by decide) h (fun c116 h => ?_) (fun c116 h => ?_)
      · refine z_lload 0 hc dX12_laysSounds_120 rfl ?_
        refine z_aload_n (i := 0) 1 hc dX12_laysSounds_122 rfl rfl ?_
        refine z_iload 10 hc dX12_laysSounds_123 rfl ?_
        refine z_aload_n (i := 0) 1 hc dX12_laysSounds_125 rfl rfl ?_
        refine z_getA (k' := 180) hc fl_RX12_43 tT_168 (by decide) rfl rfl dX12_laysSounds_126 ?_
        refine z_iconst hc dX12_laysSounds_129 ?_
        refine z_iload 7 hc dX12_laysSounds_130 rfl ?_
        refine z_imul hc dX12_laysSounds_132 ?_
        refine z_iload 9 hc dX12_laysSounds_133 rfl ?_
        refine z_iadd hc dX12_laysSounds_135 ?_
        refine z_iald (kI := 180) (nI9 := 40) hc tT_180 (by decide) rfl rfl (by decide) dX12_laysSounds_136 h (fun g6 h => ?_)
        refine z_aload_n (i := 0) 1 hc dX12_laysSounds_137 rfl rfl ?_
        refine z_iload 7 hc dX12_laysSounds_138 rfl ?_
        refine z_iload 9 hc dX12_laysSounds_140 rfl ?_
        obtain ⟨r7, hr7, h⟩ := z_b_some h
        refine z_callVI [.int (zI v6), .int (zI v8)] hc hap o_X12_formOf ml_RX12_198 (fun l hl => c_X12_formOf hl  hr7) (by decide) tT_168 (by decide) ⟨_, rfl, rfl⟩ rfl rfl (Nat.le_of_ble_eq_true rfl) (Nat.zero_le _) (Nat.zero_le _) dX12_laysSounds_142 ?_
        obtain ⟨r9, hr9, h⟩ := z_b_some h
        refine z_callVJ [.int (zI v9), .int (zI (st 180 ((4 * v6) + v8))), .int (zI r7)] hc hap o_X12_costOf ml_RX12_201 (fun l hl => c_X12_costOf hl  hr9) (by decide) tT_168 (by decide) ⟨_, rfl, rfl⟩ rfl rfl (Nat.le_of_ble_eq_true rfl) (Nat.zero_le _) (Nat.zero_le _) dX12_laysSounds_145 ?_
        refine z_ladd hc dX12_laysSounds_148 ?_
        refine z_goto (tgt := 155) hc dX12_laysSounds_149 (by decide) ?_
        refine z_sub [(0, .ref (a 168)), (1, .int (zI v1)), (2, .int (zI v2)), (3, .int (zI v3)), (4, .int (zI v4)), (5, .int (zI v5)), (6, .int (zI v6)), (7, .int (zI v7)), (8, .int (zI v8)), (9, .int (zI v9))] [1, 2, 3, 4, 5, 6, 7, 8, 9, 10] rfl ?_
        exact w_X12_laysSounds_155 hc hap k1 k2 h
      · refine z_ldc2 1000000000000000000 hc kc_RX12_205 dX12_laysSounds_152 rfl ?_
        refine z_sub [(0, .ref (a 168)), (1, .int (zI v1)), (2, .int (zI v2)), (3, .int (zI v3)), (4, .int (zI v4)), (5, .int (zI v5)), (6, .int (zI v6)), (7, .int (zI v7)), (8, .int (zI v8)), (9, .int (zI v9))] [1, 2, 3, 4, 5, 6, 7, 8, 9, 10] rfl ?_
        exact w_X12_laysSounds_155 hc hap k1 k2 h
    · refine z_sub [(0, .ref (a 168)), (1, .int (zI v1)), (2, .int (zI v2)), (3, .int (zI v3)), (4, .int (zI v4)), (5, .int (zI v5)), (6, .int (zI v6)), (7, .int (zI v7)), (8, .int (zI v8)), (9, .int (zI v9)), (10, .long (zJ s0))] [1, 2, 3, 4, 5, 6, 7, 8, 9, 10, 0] rfl ?_
      exact w_X12_laysSounds_157 hc hap k1 k2 h
  · refine z_sub [(0, .ref (a 168)), (1, .int (zI v1)), (2, .int (zI v2)), (3, .int (zI v3)), (4, .int (zI v4)), (5, .int (zI v5)), (6, .int (zI v6)), (7, .int (zI v7)), (8, .int (zI v8)), (9, .int (zI v9)), (10, .long (zJ s0))] [1, 2, 3, 4, 5, 6, 7, 8, 9, 10, 0] rfl ?_
    exact w_X12_laysSounds_157 hc hap k1 k2 h
def J_X12_laysSounds_54 (v1 v2 v3 v4 v5 v6 v7 v8 v9 : Int) (st : z_St) : Option ((Int × z_St) ⊕ z_St) :=
  J_X12_laysSounds_57 v1 v2 v3 v4 v5 v6 v7 v8 v9 1000000000000000000 st
set_option maxRecDepth 100000 in
set_option maxHeartbeats 4000000 in
theorem w_X12_laysSounds_54 {κ : zK} {a : Nat → Nat} {v1 v2 v3 v4 v5 v6 v7 v8 v9 : Int} {st : z_St} {mc9 ms9 : Nat} {o : (Int × z_St) ⊕ z_St} (hc : z_C κ RX12 cX12_laysSounds 12 10 mc9 ms9) (hap : z_AP κ a z_N) (k1 : ∀ s9 : (Int × z_St), o = .inl s9 → z_V κ z_T z_N a 0 0 29 [(0, .ref (a 168)), (1, .int (zI v1)), (2, .int (zI v2)), (3, .int (zI v3)), (4, .int (zI v4)), (5, .int (zI v5)), (6, .int (zI v6)), (7, .int (zI v7)), (8, .int (zI v8)), (9, .int (zI s9.1))] [] s9.2) (k2 : ∀ x9 : z_St, o = .inr x9 → z_V κ z_T z_N a 0 0 178 [(0, .ref (a 168)), (1, .int (zI v1)), (2, .int (zI v2)), (3, .int (zI v3)), (4, .int (zI v4)), (5, .int (zI v5)), (6, .int (zI v6)), (7, .int (zI v7)), (8, .int (zI v8))] [] x9) (h : J_X12_laysSounds_54 v1 v2 v3 v4 v5 v6 v7 v8 v9 st = some o) : z_V κ z_T z_N a 0 0 54 [(0, .ref (a 168)), (1, .int (zI v1)), (2, .int (zI v2)), (3, .int (zI v3)), (4, .int (zI v4)), (5, .int (zI v5)), (6, .int (zI v6)), (7, .int (zI v7)), (8, .int (zI v8)), (9, .int (zI v9))] [] st := by
  unfold J_X12_laysSounds_54 at h
  refine z_ldc2 1000000000000000000 hc kc_RX12_205 dX12_laysSounds_54 rfl ?_
  refine z_sub [(0, .ref (a 168)), (1, .int (zI v1)), (2, .int (zI v2)), (3, .int (zI v3)), (4, .int (zI v4)), (5, .int (zI v5)), (6, .int (zI v6)), (7, .int (zI v7)), (8, .int (zI v8)), (9, .int (zI v9))] [0, 1, 2, 3, 4, 5, 6, 7, 8, 9] rfl ?_
  exact w_X12_laysSounds_57 hc hap k1 k2 h
def J_X12_laysSounds_b29 (v1 v2 v3 v4 v5 v6 v7 v8 v9 : Int) (st : z_St) : Option ((Int × z_St) ⊕ z_St) :=
  z_g (z32 v9 ∧ z32 v4) (if v9 < v4 then
    some (.inr st)
  else
    z_g (z32 v8 ∧ z32 v7) (if v8 = v7 then
      z_g (z32 v9 ∧ z32 v5) (if v9 = v5 then
        J_X12_laysSounds_57 v1 v2 v3 v4 v5 v6 v7 v8 v9 0 st
      else
        J_X12_laysSounds_54 v1 v2 v3 v4 v5 v6 v7 v8 v9 st)
    else
      J_X12_laysSounds_54 v1 v2 v3 v4 v5 v6 v7 v8 v9 st))
set_option maxRecDepth 100000 in
set_option maxHeartbeats 4000000 in
theorem w_X12_laysSounds_b29 {κ : zK} {a : Nat → Nat} {v1 v2 v3 v4 v5 v6 v7 v8 v9 : Int} {st : z_St} {mc9 ms9 : Nat} {o : (Int × z_St) ⊕ z_St} (hc : z_C κ RX12 cX12_laysSounds 12 10 mc9 ms9) (hap : z_AP κ a z_N) (k1 : ∀ s9 : (Int × z_St), o = .inl s9 → z_V κ z_T z_N a 0 0 29 [(0, .ref (a 168)), (1, .int (zI v1)), (2, .int (zI v2)), (3, .int (zI v3)), (4, .int (zI v4)), (5, .int (zI v5)), (6, .int (zI v6)), (7, .int (zI v7)), (8, .int (zI v8)), (9, .int (zI s9.1))] [] s9.2) (k2 : ∀ x9 : z_St, o = .inr x9 → z_V κ z_T z_N a 0 0 178 [(0, .ref (a 168)), (1, .int (zI v1)), (2, .int (zI v2)), (3, .int (zI v3)), (4, .int (zI v4)), (5, .int (zI v5)), (6, .int (zI v6)), (7, .int (zI v7)), (8, .int (zI v8))] [] x9) (h : J_X12_laysSounds_b29 v1 v2 v3 v4 v5 v6 v7 v8 v9 st = some o) : z_V κ z_T z_N a 0 0 29 [(0, .ref (a 168)), (1, .int (zI v1)), (2, .int (zI v2)), (3, .int (zI v3)), (4, .int (zI v4)), (5, .int (zI v5)), (6, .int (zI v6)), (7, .int (zI v7)), (8, .int (zI v8)), (9, .int (zI v9))] [] st := by
  unfold J_X12_laysSounds_b29 at h
  refine z_iload 9 hc dX12_laysSounds_29 rfl ?_
  refine z_iload 4 hc dX12_laysSounds_31 rfl ?_
  refine z_icmp_lt (tgt := 178) hc dX12_laysSounds_33 (by decide) h (fun c33 h => ?_) (fun c33 h => ?_)
  · refine z_sub [(0, .ref (a 168)), (1, .int (zI v1)), (2, .int (zI v2)), (3, .int (zI v3)), (4, .int (zI v4)), (5, .int (zI v5)), (6, .int (zI v6)), (7, .int (zI v7)), (8, .int (zI v8))] [0, 1, 2, 3, 4, 5, 6, 7, 8] rfl ?_
    exact k2 st (Option.some.inj h).symm
  · refine z_iload 8 hc dX12_laysSounds_36 rfl ?_
    refine z_iload 7 hc dX12_laysSounds_38 rfl ?_
    refine z_icmp_ne (tgt := 54) hc dX12_laysSounds_40 (by decide) h (fun c40 h => ?_) (fun c40 h => ?_)
    · refine z_iload 9 hc dX12_laysSounds_43 rfl ?_
      refine z_iload 5 hc dX12_laysSounds_45 rfl ?_
      refine z_icmp_ne (tgt := 54) hc dX12_laysSounds_47 (by decide) h (fun c47 h => ?_) (fun c47 h => ?_)
      · refine z_lconst 0 hc dX12_laysSounds_50 rfl ?_
        refine z_goto (tgt := 57) hc dX12_laysSounds_51 (by decide) ?_
        refine z_sub [(0, .ref (a 168)), (1, .int (zI v1)), (2, .int (zI v2)), (3, .int (zI v3)), (4, .int (zI v4)), (5, .int (zI v5)), (6, .int (zI v6)), (7, .int (zI v7)), (8, .int (zI v8)), (9, .int (zI v9))] [0, 1, 2, 3, 4, 5, 6, 7, 8, 9] rfl ?_
        exact w_X12_laysSounds_57 hc hap k1 k2 h
      · refine z_sub [(0, .ref (a 168)), (1, .int (zI v1)), (2, .int (zI v2)), (3, .int (zI v3)), (4, .int (zI v4)), (5, .int (zI v5)), (6, .int (zI v6)), (7, .int (zI v7)), (8, .int (zI v8)), (9, .int (zI v9))] [0, 1, 2, 3, 4, 5, 6, 7, 8, 9] rfl ?_
        exact w_X12_laysSounds_54 hc hap k1 k2 h
    · refine z_sub [(0, .ref (a 168)), (1, .int (zI v1)), (2, .int (zI v2)), (3, .int (zI v3)), (4, .int (zI v4)), (5, .int (zI v5)), (6, .int (zI v6)), (7, .int (zI v7)), (8, .int (zI v8)), (9, .int (zI v9))] [0, 1, 2, 3, 4, 5, 6, 7, 8, 9] rfl ?_
      exact w_X12_laysSounds_54 hc hap k1 k2 h
def J_X12_laysSounds_b20 (v1 v2 v3 v4 v5 v6 v7 v8 : Int) (st : z_St) : Option ((Int × z_St) ⊕ z_St) :=
  z_g (z32 v8) (if v8 < 0 then
    some (.inr st)
  else
    z_b (z_iter z_F (fun q9 : (Int × z_St) => J_X12_laysSounds_b29 v1 v2 v3 v4 v5 v6 v7 v8 q9.1 q9.2) (v5, st)) fun lx12 =>
      some (.inl (v8 + (-1), lx12)))
set_option maxRecDepth 100000 in
set_option maxHeartbeats 4000000 in
theorem w_X12_laysSounds_b20 {κ : zK} {a : Nat → Nat} {v1 v2 v3 v4 v5 v6 v7 v8 : Int} {st : z_St} {mc9 ms9 : Nat} {o : (Int × z_St) ⊕ z_St} (hc : z_C κ RX12 cX12_laysSounds 12 10 mc9 ms9) (hap : z_AP κ a z_N) (k1 : ∀ s9 : (Int × z_St), o = .inl s9 → z_V κ z_T z_N a 0 0 20 [(0, .ref (a 168)), (1, .int (zI v1)), (2, .int (zI v2)), (3, .int (zI v3)), (4, .int (zI v4)), (5, .int (zI v5)), (6, .int (zI v6)), (7, .int (zI v7)), (8, .int (zI s9.1))] [] s9.2) (k2 : ∀ x9 : z_St, o = .inr x9 → z_V κ z_T z_N a 0 0 184 [(0, .ref (a 168)), (1, .int (zI v1)), (2, .int (zI v2)), (3, .int (zI v3)), (4, .int (zI v4)), (5, .int (zI v5)), (6, .int (zI v6))] [] x9) (h : J_X12_laysSounds_b20 v1 v2 v3 v4 v5 v6 v7 v8 st = some o) : z_V κ z_T z_N a 0 0 20 [(0, .ref (a 168)), (1, .int (zI v1)), (2, .int (zI v2)), (3, .int (zI v3)), (4, .int (zI v4)), (5, .int (zI v5)), (6, .int (zI v6)), (7, .int (zI v7)), (8, .int (zI v8))] [] st := by
  unfold J_X12_laysSounds_b20 at h
  refine z_iload 8 hc dX12_laysSounds_20 rfl ?_
  refine z_if_lt (tgt := 184) hc dX12_laysSounds_22 (by decide) h (fun c22 h => ?_) (fun c22 h => ?_)
  · refine z_sub [(0, .ref (a 168)), (1, .int (zI v1)), (2, .int (zI v2)), (3, .int (zI v3)), (4, .int (zI v4)), (5, .int (zI v5)), (6, .int (zI v6))] [0, 1, 2, 3, 4, 5, 6] rfl ?_
    exact k2 st (Option.some.inj h).symm
  · refine z_iload 5 hc dX12_laysSounds_25 rfl ?_
    refine z_istore [(9, .int (zI v5)), (0, .ref (a 168)), (1, .int (zI v1)), (2, .int (zI v2)), (3, .int (zI v3)), (4, .int (zI v4)), (5, .int (zI v5)), (6, .int (zI v6)), (7, .int (zI v7)), (8, .int (zI v8))] hc dX12_laysSounds_27 (by decide) rfl ?_
    obtain ⟨lx12, hlx12, h⟩ := z_b_some h
    refine z_sub [(0, .ref (a 168)), (1, .int (zI v1)), (2, .int (zI v2)), (3, .int (zI v3)), (4, .int (zI v4)), (5, .int (zI v5)), (6, .int (zI v6)), (7, .int (zI v7)), (8, .int (zI v8)), (9, .int (zI v5))] [1, 2, 3, 4, 5, 6, 7, 8, 9, 0] rfl ?_
    refine z_loop (fun q9 : (Int × z_St) => J_X12_laysSounds_b29 v1 v2 v3 v4 v5 v6 v7 v8 q9.1 q9.2) (fun q9 : (Int × z_St) => z_V κ z_T z_N a 0 0 29 [(0, .ref (a 168)), (1, .int (zI v1)), (2, .int (zI v2)), (3, .int (zI v3)), (4, .int (zI v4)), (5, .int (zI v5)), (6, .int (zI v6)), (7, .int (zI v7)), (8, .int (zI v8)), (9, .int (zI q9.1))] [] q9.2) (fun x9 : z_St => z_V κ z_T z_N a 0 0 178 [(0, .ref (a 168)), (1, .int (zI v1)), (2, .int (zI v2)), (3, .int (zI v3)), (4, .int (zI v4)), (5, .int (zI v5)), (6, .int (zI v6)), (7, .int (zI v7)), (8, .int (zI v8))] [] x9) (fun q9 o9 hb k1 k2 => ?_) _ _ _ hlx12 ?_
    · exact w_X12_laysSounds_b29 hc hap k1 k2 hb
    · show z_V κ z_T z_N a 0 0 178 [(0, .ref (a 168)), (1, .int (zI v1)), (2, .int (zI v2)), (3, .int (zI v3)), (4, .int (zI v4)), (5, .int (zI v5)), (6, .int (zI v6)), (7, .int (zI v7)), (8, .int (zI v8))] [] lx12
      refine z_iinc [(8, .int (zI (v8 + (-1)))), (0, .ref (a 168)), (1, .int (zI v1)), (2, .int (zI v2)), (3, .int (zI v3)), (4, .int (zI v4)), (5, .int (zI v5)), (6, .int (zI v6)), (7, .int (zI v7))] 8 hc dX12_laysSounds_178 rfl (by decide) rfl ?_
      refine z_goto (tgt := 20) hc dX12_laysSounds_181 (by decide) ?_
      refine z_sub [(0, .ref (a 168)), (1, .int (zI v1)), (2, .int (zI v2)), (3, .int (zI v3)), (4, .int (zI v4)), (5, .int (zI v5)), (6, .int (zI v6)), (7, .int (zI v7)), (8, .int (zI (v8 + (-1))))] [1, 2, 3, 4, 5, 6, 7, 8, 0] rfl ?_
      exact k1 _ (Option.some.inj h).symm
def J_X12_laysSounds_336 (v1 v2 v3 v5 v6 v9 s0 s1 : Int) (st : z_St) : Option ((Int × Int × z_St) ⊕ z_St) :=
  some (.inl (s1 + s0, v9 + 1, st))
set_option maxRecDepth 100000 in
set_option maxHeartbeats 4000000 in
theorem w_X12_laysSounds_336 {κ : zK} {a : Nat → Nat} {v1 v2 v3 v5 v6 v9 s0 s1 : Int} {st : z_St} {mc9 ms9 : Nat} {o : (Int × Int × z_St) ⊕ z_St} (hc : z_C κ RX12 cX12_laysSounds 12 10 mc9 ms9) (hap : z_AP κ a z_N) (k1 : ∀ s9 : (Int × Int × z_St), o = .inl s9 → z_V κ z_T z_N a 0 0 191 [(0, .ref (a 168)), (1, .int (zI v1)), (2, .int (zI v2)), (3, .int (zI v3)), (5, .int (zI v5)), (6, .int (zI v6)), (8, .int (zI s9.1)), (9, .int (zI s9.2.1))] [] s9.2.2) (k2 : ∀ x9 : z_St, o = .inr x9 → z_V κ z_T z_N a 0 0 345 [] [] x9) (h : J_X12_laysSounds_336 v1 v2 v3 v5 v6 v9 s0 s1 st = some o) : z_V κ z_T z_N a 0 0 336 [(0, .ref (a 168)), (1, .int (zI v1)), (2, .int (zI v2)), (3, .int (zI v3)), (5, .int (zI v5)), (6, .int (zI v6)), (9, .int (zI v9))] [.int (zI s0), .int (zI s1)] st := by
  unfold J_X12_laysSounds_336 at h
  refine z_iadd hc dX12_laysSounds_336 ?_
  refine z_istore [(8, .int (zI (s1 + s0))), (0, .ref (a 168)), (1, .int (zI v1)), (2, .int (zI v2)), (3, .int (zI v3)), (5, .int (zI v5)), (6, .int (zI v6)), (9, .int (zI v9))] hc dX12_laysSounds_337 (by decide) rfl ?_
  refine z_iinc [(9, .int (zI (v9 + 1))), (8, .int (zI (s1 + s0))), (0, .ref (a 168)), (1, .int (zI v1)), (2, .int (zI v2)), (3, .int (zI v3)), (5, .int (zI v5)), (6, .int (zI v6))] 7 hc dX12_laysSounds_339 rfl (by decide) rfl ?_
  refine z_goto (tgt := 191) hc dX12_laysSounds_342 (by decide) ?_
  refine z_sub [(0, .ref (a 168)), (1, .int (zI v1)), (2, .int (zI v2)), (3, .int (zI v3)), (5, .int (zI v5)), (6, .int (zI v6)), (8, .int (zI (s1 + s0))), (9, .int (zI (v9 + 1)))] [2, 3, 4, 5, 6, 7, 1, 0] rfl ?_
  exact k1 _ (Option.some.inj h).symm
def J_X12_laysSounds_b191 (v1 v2 v3 v5 v6 v8 v9 : Int) (st : z_St) : Option ((Int × Int × z_St) ⊕ z_St) :=
  z_g (z32 v9 ∧ z32 v5) (if v9 < v5 then
    z_g (0 ≤ 6 * v9 ∧ 6 * v9 < 96) <|
    z_let (z_up st 191 (6 * v9) v1) fun st14 =>
    z_g (0 ≤ (6 * v9) + 1 ∧ (6 * v9) + 1 < 96) <|
    z_let (z_up st14 191 ((6 * v9) + 1) v2) fun st15 =>
    z_g (0 ≤ (6 * v9) + 2 ∧ (6 * v9) + 2 < 96) <|
    z_let (z_up st15 191 ((6 * v9) + 2) v3) fun st16 =>
    z_g (0 ≤ (6 * v9) + 3 ∧ (6 * v9) + 3 < 96) <|
    z_let (z_up st16 191 ((6 * v9) + 3) v8) fun st17 =>
    z_g (0 ≤ (4 * v6) + v8 ∧ (4 * v6) + v8 < 40) <|
    z_g (0 ≤ (6 * v9) + 4 ∧ (6 * v9) + 4 < 96) <|
    z_let (z_up st17 191 ((6 * v9) + 4) (st17 180 ((4 * v6) + v8))) fun st19 =>
    z_b (J_X12_formOf v6 v8 st19) fun r20 =>
    z_g (0 ≤ (6 * v9) + 5 ∧ (6 * v9) + 5 < 96) <|
    z_let (z_up st19 191 ((6 * v9) + 5) r20) fun st22 =>
    z_g (0 ≤ ((17 * (v8 + 1)) + v9) + 1 ∧ ((17 * (v8 + 1)) + v9) + 1 < 85) <|
    z_g (0 ≤ ((17 * v8) + v9) + 1 ∧ ((17 * v8) + v9) + 1 < 85) <|
    z_g (z64 (st22 185 (((17 * (v8 + 1)) + v9) + 1)) ∧ z64 (st22 185 (((17 * v8) + v9) + 1))) (if st22 185 (((17 * v8) + v9) + 1) < st22 185 (((17 * (v8 + 1)) + v9) + 1) then
      J_X12_laysSounds_336 v1 v2 v3 v5 v6 v9 0 v8 st22
    else
      J_X12_laysSounds_336 v1 v2 v3 v5 v6 v9 1 v8 st22)
  else
    some (.inr st))
set_option maxRecDepth 100000 in
set_option maxHeartbeats 4000000 in
theorem w_X12_laysSounds_b191 {κ : zK} {a : Nat → Nat} {v1 v2 v3 v5 v6 v8 v9 : Int} {st : z_St} {mc9 ms9 : Nat} {o : (Int × Int × z_St) ⊕ z_St} (hc : z_C κ RX12 cX12_laysSounds 12 10 mc9 ms9) (hap : z_AP κ a z_N) (k1 : ∀ s9 : (Int × Int × z_St), o = .inl s9 → z_V κ z_T z_N a 0 0 191 [(0, .ref (a 168)), (1, .int (zI v1)), (2, .int (zI v2)), (3, .int (zI v3)), (5, .int (zI v5)), (6, .int (zI v6)), (8, .int (zI s9.1)), (9, .int (zI s9.2.1))] [] s9.2.2) (k2 : ∀ x9 : z_St, o = .inr x9 → z_V κ z_T z_N a 0 0 345 [] [] x9) (h : J_X12_laysSounds_b191 v1 v2 v3 v5 v6 v8 v9 st = some o) : z_V κ z_T z_N a 0 0 191 [(0, .ref (a 168)), (1, .int (zI v1)), (2, .int (zI v2)), (3, .int (zI v3)), (5, .int (zI v5)), (6, .int (zI v6)), (8, .int (zI v8)), (9, .int (zI v9))] [] st := by
  unfold J_X12_laysSounds_b191 at h
  refine z_iload 7 hc dX12_laysSounds_191 rfl ?_
  refine z_iload 4 hc dX12_laysSounds_193 rfl ?_
  refine z_icmp_ge (tgt := 345) hc dX12_laysSounds_195 (by decide) h (fun c195 h => ?_) (fun c195 h => ?_)
  · refine z_aload_n (i := 0) 0 hc dX12_laysSounds_198 rfl rfl ?_
    refine z_getA (k' := 191) hc fl_RX12_84 tT_168 (by decide) rfl rfl dX12_laysSounds_199 ?_
    refine z_bipush hc dX12_laysSounds_202 rfl ?_
    refine z_iload 7 hc dX12_laysSounds_204 rfl ?_
    refine z_imul hc dX12_laysSounds_206 ?_
    refine z_iload_n (i := 1) 1 hc dX12_laysSounds_207 rfl rfl ?_
    refine z_iast (kI := 191) (nI9 := 96) hc hap tT_191 (by decide) rfl rfl (by decide) dX12_laysSounds_208 h (fun st14 h => ?_)
    refine z_aload_n (i := 0) 0 hc dX12_laysSounds_209 rfl rfl ?_
    refine z_getA (k' := 191) hc fl_RX12_84 tT_168 (by decide) rfl rfl dX12_laysSounds_210 ?_
    refine z_bipush hc dX12_laysSounds_213 rfl ?_
    refine z_iload 7 hc dX12_laysSounds_215 rfl ?_
    refine z_imul hc dX12_laysSounds_217 ?_
    refine z_iconst hc dX12_laysSounds_218 ?_
    refine z_iadd hc dX12_laysSounds_219 ?_
    refine z_iload_n (i := 2) 2 hc dX12_laysSounds_220 rfl rfl ?_
    refine z_iast (kI := 191) (nI9 := 96) hc hap tT_191 (by decide) rfl rfl (by decide) dX12_laysSounds_221 h (fun st15 h => ?_)
    refine z_aload_n (i := 0) 0 hc dX12_laysSounds_222 rfl rfl ?_
    refine z_getA (k' := 191) hc fl_RX12_84 tT_168 (by decide) rfl rfl dX12_laysSounds_223 ?_
    refine z_bipush hc dX12_laysSounds_226 rfl ?_
    refine z_iload 7 hc dX12_laysSounds_228 rfl ?_
    refine z_imul hc dX12_laysSounds_230 ?_
    refine z_iconst hc dX12_laysSounds_231 ?_
    refine z_iadd hc dX12_laysSounds_232 ?_
    refine z_iload_n (i := 3) 3 hc dX12_laysSounds_233 rfl rfl ?_
    refine z_iast (kI := 191) (nI9 := 96) hc hap tT_191 (by decide) rfl rfl (by decide) dX12_laysSounds_234 h (fun st16 h => ?_)
    refine z_aload_n (i := 0) 0 hc dX12_laysSounds_235 rfl rfl ?_
    refine z_getA (k' := 191) hc fl_RX12_84 tT_168 (by decide) rfl rfl dX12_laysSounds_236 ?_
    refine z_bipush hc dX12_laysSounds_239 rfl ?_
    refine z_iload 7 hc dX12_laysSounds_241 rfl ?_
    refine z_imul hc dX12_laysSounds_243 ?_
    refine z_iconst hc dX12_laysSounds_244 ?_
    refine z_iadd hc dX12_laysSounds_245 ?_
    refine z_iload 6 hc dX12_laysSounds_246 rfl ?_
    refine z_iast (kI := 191) (nI9 := 96) hc hap tT_191 (by decide) rfl rfl (by decide) dX12_laysSounds_248 h (fun st17 h => ?_)
    refine z_aload_n (i := 0) 0 hc dX12_laysSounds_249 rfl rfl ?_
    refine z_getA (k' := 191) hc fl_RX12_84 tT_168 (by decide) rfl rfl dX12_laysSounds_250 ?_
    refine z_bipush hc dX12_laysSounds_253 rfl ?_
    refine z_iload 7 hc dX12_laysSounds_255 rfl ?_
    refine z_imul hc dX12_laysSounds_257 ?_
    refine z_iconst hc dX12_laysSounds_258 ?_
    refine z_iadd hc dX12_laysSounds_259 ?_
    refine z_aload_n (i := 0) 0 hc dX12_laysSounds_260 rfl rfl ?_
    refine z_getA (k' := 180) hc fl_RX12_43 tT_168 (by decide) rfl rfl dX12_laysSounds_261 ?_
    refine z_iconst hc dX12_laysSounds_264 ?_
    refine z_iload 5 hc dX12_laysSounds_265 rfl ?_
    refine z_imul hc dX12_laysSounds_267 ?_
    refine z_iload 6 hc dX12_laysSounds_268 rfl ?_
    refine z_iadd hc dX12_laysSounds_270 ?_
    refine z_iald (kI := 180) (nI9 := 40) hc tT_180 (by decide) rfl rfl (by decide) dX12_laysSounds_271 h (fun g18 h => ?_)
    refine z_iast (kI := 191) (nI9 := 96) hc hap tT_191 (by decide) rfl rfl (by decide) dX12_laysSounds_272 h (fun st19 h => ?_)
    refine z_aload_n (i := 0) 0 hc dX12_laysSounds_273 rfl rfl ?_
    refine z_getA (k' := 191) hc fl_RX12_84 tT_168 (by decide) rfl rfl dX12_laysSounds_274 ?_
    refine z_bipush hc dX12_laysSounds_277 rfl ?_
    refine z_iload 7 hc dX12_laysSounds_279 rfl ?_
    refine z_imul hc dX12_laysSounds_281 ?_
    refine z_iconst hc dX12_laysSounds_282 ?_
    refine z_iadd hc dX12_laysSounds_283 ?_
    refine z_aload_n (i := 0) 0 hc dX12_laysSounds_284 rfl rfl ?_
    refine z_iload 5 hc dX12_laysSounds_285 rfl ?_
    refine z_iload 6 hc dX12_laysSounds_287 rfl ?_
    obtain ⟨r20, hr20, h⟩ := z_b_some h
    refine z_callVI [.int (zI v6), .int (zI v8)] hc hap o_X12_formOf ml_RX12_198 (fun l hl => c_X12_formOf hl  hr20) (by decide) tT_168 (by decide) ⟨_, rfl, rfl⟩ rfl rfl (Nat.le_of_ble_eq_true rfl) (Nat.zero_le _) (Nat.zero_le _) dX12_laysSounds_289 ?_
    refine z_iast (kI := 191) (nI9 := 96) hc hap tT_191 (by decide) rfl rfl (by decide) dX12_laysSounds_292 h (fun st22 h => ?_)
    refine z_iload 6 hc dX12_laysSounds_293 rfl ?_
    refine z_aload_n (i := 0) 0 hc dX12_laysSounds_295 rfl rfl ?_
    refine z_getA (k' := 185) hc fl_RX12_66 tT_168 (by decide) rfl rfl dX12_laysSounds_296 ?_
    refine z_bipush hc dX12_laysSounds_299 rfl ?_
    refine z_iload 6 hc dX12_laysSounds_301 rfl ?_
    refine z_iconst hc dX12_laysSounds_303 ?_
    refine z_iadd hc dX12_laysSounds_304 ?_
    refine z_imul hc dX12_laysSounds_305 ?_
    refine z_iload 7 hc dX12_laysSounds_306 rfl ?_
    refine z_iadd hc dX12_laysSounds_308 ?_
    refine z_iconst hc dX12_laysSounds_309 ?_
    refine z_iadd hc dX12_laysSounds_310 ?_
    refine z_lald (kI := 185) (nI9 := 85) hc tT_185 (by decide) rfl rfl (by decide) dX12_laysSounds_311 h (fun g23 h => ?_)
    refine z_aload_n (i := 0) 0 hc dX12_laysSounds_312 rfl rfl ?_
    refine z_getA (k' := 185) hc fl_RX12_66 tT_168 (by decide) rfl rfl dX12_laysSounds_313 ?_
    refine z_bipush hc dX12_laysSounds_316 rfl ?_
    refine z_iload 6 hc dX12_laysSounds_318 rfl ?_
    refine z_imul hc dX12_laysSounds_320 ?_
    refine z_iload 7 hc dX12_laysSounds_321 rfl ?_
    refine z_iadd hc dX12_laysSounds_323 ?_
    refine z_iconst hc dX12_laysSounds_324 ?_
    refine z_iadd hc dX12_laysSounds_325 ?_
    refine z_lald (kI := 185) (nI9 := 85) hc tT_185 (by decide) rfl rfl (by decide) dX12_laysSounds_326 h (fun g24 h => ?_)
    refine z_lcmp_gt (tgt := 335) hc dX12_laysSounds_327 dX12_laysSounds_328 (by decide) h (fun c327 h => ?_) (fun c327 h => ?_)
    · refine z_iconst hc dX12_laysSounds_335 ?_
      refine z_sub [(0, .ref (a 168)), (1, .int (zI v1)), (2, .int (zI v2)), (3, .int (zI v3)), (5, .int (zI v5)), (6, .int (zI v6)), (9, .int (zI v9))] [0, 1, 2, 3, 4, 5, 7] rfl ?_
      exact w_X12_laysSounds_336 hc hap k1 k2 h
    · refine z_iconst hc dX12_laysSounds_331 ?_
      refine z_goto (tgt := 336) hc dX12_laysSounds_332 (by decide) ?_
      refine z_sub [(0, .ref (a 168)), (1, .int (zI v1)), (2, .int (zI v2)), (3, .int (zI v3)), (5, .int (zI v5)), (6, .int (zI v6)), (9, .int (zI v9))] [0, 1, 2, 3, 4, 5, 7] rfl ?_
      exact w_X12_laysSounds_336 hc hap k1 k2 h
  · refine z_sub [] [] rfl ?_
    exact k2 st (Option.some.inj h).symm
def J_X12_laysSounds (x1 x2 x3 x4 x5 : Int) (st : z_St) : Option (z_St) :=
  z_g (0 ≤ (2 * x2) + x3 ∧ (2 * x2) + x3 < 10) <|
  z_b (z_iter z_F (fun q9 : (Int × z_St) => J_X12_laysSounds_b20 x1 x2 x3 x4 x5 ((2 * x2) + x3) (st 179 ((2 * x2) + x3)) q9.1 q9.2) (st 179 ((2 * x2) + x3), st)) fun lx13 =>
    z_b (z_iter z_F (fun q9 : (Int × Int × z_St) => J_X12_laysSounds_b191 x1 x2 x3 x5 ((2 * x2) + x3) q9.1 q9.2.1 q9.2.2) (0, x4, lx13)) fun lx25 =>
      some lx25
set_option maxRecDepth 100000 in
set_option maxHeartbeats 4000000 in
theorem w_X12_laysSounds {κ : zK} {a : Nat → Nat} {x1 x2 x3 x4 x5 : Int} {st : z_St} {o : z_St} (hc : z_C κ RX12 cX12_laysSounds 12 10 0 0) (hap : z_AP κ a z_N) (he : z_E 2 κ none z_T z_N a 0 o) (h : J_X12_laysSounds x1 x2 x3 x4 x5 st = some o) : z_V κ z_T z_N a 0 0 0 [(0, .ref (a 168)), (1, .int (zI x1)), (2, .int (zI x2)), (3, .int (zI x3)), (4, .int (zI x4)), (5, .int (zI x5))] [] st := by
  unfold J_X12_laysSounds at h
  refine z_iconst hc dX12_laysSounds_0 ?_
  refine z_iload_n (i := 2) 2 hc dX12_laysSounds_1 rfl rfl ?_
  refine z_imul hc dX12_laysSounds_2 ?_
  refine z_iload_n (i := 3) 3 hc dX12_laysSounds_3 rfl rfl ?_
  refine z_iadd hc dX12_laysSounds_4 ?_
  refine z_istore [(6, .int (zI ((2 * x2) + x3))), (0, .ref (a 168)), (1, .int (zI x1)), (2, .int (zI x2)), (3, .int (zI x3)), (4, .int (zI x4)), (5, .int (zI x5))] hc dX12_laysSounds_5 (by decide) rfl ?_
  refine z_aload_n (i := 0) 1 hc dX12_laysSounds_7 rfl rfl ?_
  refine z_getA (k' := 179) hc fl_RX12_40 tT_168 (by decide) rfl rfl dX12_laysSounds_8 ?_
  refine z_iload 0 hc dX12_laysSounds_11 rfl ?_
  refine z_iald (kI := 179) (nI9 := 10) hc tT_179 (by decide) rfl rfl (by decide) dX12_laysSounds_13 h (fun g1 h => ?_)
  refine z_istore [(7, .int (zI (st 179 ((2 * x2) + x3)))), (6, .int (zI ((2 * x2) + x3))), (0, .ref (a 168)), (1, .int (zI x1)), (2, .int (zI x2)), (3, .int (zI x3)), (4, .int (zI x4)), (5, .int (zI x5))] hc dX12_laysSounds_14 (by decide) rfl ?_
  refine z_iload 0 hc dX12_laysSounds_16 rfl ?_
  refine z_istore [(8, .int (zI (st 179 ((2 * x2) + x3)))), (7, .int (zI (st 179 ((2 * x2) + x3)))), (6, .int (zI ((2 * x2) + x3))), (0, .ref (a 168)), (1, .int (zI x1)), (2, .int (zI x2)), (3, .int (zI x3)), (4, .int (zI x4)), (5, .int (zI x5))] hc dX12_laysSounds_18 (by decide) rfl ?_
  obtain ⟨lx13, hlx13, h⟩ := z_b_some h
  refine z_sub [(0, .ref (a 168)), (1, .int (zI x1)), (2, .int (zI x2)), (3, .int (zI x3)), (4, .int (zI x4)), (5, .int (zI x5)), (6, .int (zI ((2 * x2) + x3))), (7, .int (zI (st 179 ((2 * x2) + x3)))), (8, .int (zI (st 179 ((2 * x2) + x3))))] [3, 4, 5, 6, 7, 8, 2, 1, 0] rfl ?_
  refine z_loop (fun q9 : (Int × z_St) => J_X12_laysSounds_b20 x1 x2 x3 x4 x5 ((2 * x2) + x3) (st 179 ((2 * x2) + x3)) q9.1 q9.2) (fun q9 : (Int × z_St) => z_V κ z_T z_N a 0 0 20 [(0, .ref (a 168)), (1, .int (zI x1)), (2, .int (zI x2)), (3, .int (zI x3)), (4, .int (zI x4)), (5, .int (zI x5)), (6, .int (zI ((2 * x2) + x3))), (7, .int (zI (st 179 ((2 * x2) + x3)))), (8, .int (zI q9.1))] [] q9.2) (fun x9 : z_St => z_V κ z_T z_N a 0 0 184 [(0, .ref (a 168)), (1, .int (zI x1)), (2, .int (zI x2)), (3, .int (zI x3)), (4, .int (zI x4)), (5, .int (zI x5)), (6, .int (zI ((2 * x2) + x3)))] [] x9) (fun q9 o9 hb k1 k2 => ?_) _ _ _ hlx13 ?_
  · exact w_X12_laysSounds_b20 hc hap k1 k2 hb
  · show z_V κ z_T z_N a 0 0 184 [(0, .ref (a 168)), (1, .int (zI x1)), (2, .int (zI x2)), (3, .int (zI x3)), (4, .int (zI x4)), (5, .int (zI x5)), (6, .int (zI ((2 * x2) + x3)))] [] lx13
    refine z_iconst hc dX12_laysSounds_184 ?_
    refine z_istore [(8, .int (zI 0)), (0, .ref (a 168)), (1, .int (zI x1)), (2, .int (zI x2)), (3, .int (zI x3)), (4, .int (zI x4)), (5, .int (zI x5)), (6, .int (zI ((2 * x2) + x3)))] hc dX12_laysSounds_185 (by decide) rfl ?_
    refine z_iload 5 hc dX12_laysSounds_187 rfl ?_
    refine z_istore [(9, .int (zI x4)), (8, .int (zI 0)), (0, .ref (a 168)), (1, .int (zI x1)), (2, .int (zI x2)), (3, .int (zI x3)), (4, .int (zI x4)), (5, .int (zI x5)), (6, .int (zI ((2 * x2) + x3)))] hc dX12_laysSounds_189 (by decide) rfl ?_
    obtain ⟨lx25, hlx25, h⟩ := z_b_some h
    refine z_sub [(0, .ref (a 168)), (1, .int (zI x1)), (2, .int (zI x2)), (3, .int (zI x3)), (5, .int (zI x5)), (6, .int (zI ((2 * x2) + x3))), (8, .int (zI 0)), (9, .int (zI x4))] [2, 3, 4, 5, 7, 8, 1, 0] rfl ?_
    refine z_loop (fun q9 : (Int × Int × z_St) => J_X12_laysSounds_b191 x1 x2 x3 x5 ((2 * x2) + x3) q9.1 q9.2.1 q9.2.2) (fun q9 : (Int × Int × z_St) => z_V κ z_T z_N a 0 0 191 [(0, .ref (a 168)), (1, .int (zI x1)), (2, .int (zI x2)), (3, .int (zI x3)), (5, .int (zI x5)), (6, .int (zI ((2 * x2) + x3))), (8, .int (zI q9.1)), (9, .int (zI q9.2.1))] [] q9.2.2) (fun x9 : z_St => z_V κ z_T z_N a 0 0 345 [] [] x9) (fun q9 o9 hb k1 k2 => ?_) _ _ _ hlx25 ?_
    · exact w_X12_laysSounds_b191 hc hap k1 k2 hb
    · show z_V κ z_T z_N a 0 0 345 [] [] lx25
      have h := Option.some.inj h
      subst h
      exact z_retV hc he dX12_laysSounds_345
set_option maxRecDepth 100000 in
set_option maxHeartbeats 4000000 in
theorem c_X12_laysSounds {l : Launch} (hl : l.stackTraces = false) {a : Nat → Nat} {x1 x2 x3 x4 x5 : Int} {st : z_St} {o : z_St} (h : J_X12_laysSounds x1 x2 x3 x4 x5 st = some o) : z_M 2 l yX12_laysSounds cX12_laysSounds 12 none 10 z_T z_N a [.ref (a 168), .int (zI x1), .int (zI x2), .int (zI x3), .int (zI x4), .int (zI x5)] st 0 o := z_of hl (by decide +kernel) (Nat.le_of_ble_eq_true rfl) (fun κ hc hap he => w_X12_laysSounds hc hap he h)
