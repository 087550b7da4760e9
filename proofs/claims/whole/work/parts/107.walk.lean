theorem dX12_laysPath_0 : decode cX12_laysPath 0 = .ok (.aload_n 0, 1) := by decide +kernel
theorem dX12_laysPath_1 : decode cX12_laysPath 1 = .ok (.invokevirtual 159, 3) := by decide +kernel
theorem dX12_laysPath_4 : decode cX12_laysPath 4 = .ok (.istore_n 1, 1) := by decide +kernel
theorem dX12_laysPath_5 : decode cX12_laysPath 5 = .ok (.iload_n 1, 1) := by decide +kernel
theorem dX12_laysPath_6 : decode cX12_laysPath 6 = .ok (.ifCond .ge 5, 3) := by decide +kernel
theorem dX12_laysPath_9 : decode cX12_laysPath 9 = .ok (.iconst (-1), 1) := by decide +kernel
theorem dX12_laysPath_10 : decode cX12_laysPath 10 = .ok (.ireturn, 1) := by decide +kernel
theorem dX12_laysPath_11 : decode cX12_laysPath 11 = .ok (.aload_n 0, 1) := by decide +kernel
theorem dX12_laysPath_12 : decode cX12_laysPath 12 = .ok (.aload_n 0, 1) := by decide +kernel
theorem dX12_laysPath_13 : decode cX12_laysPath 13 = .ok (.getfield 81, 3) := by decide +kernel
theorem dX12_laysPath_16 : decode cX12_laysPath 16 = .ok (.iload_n 1, 1) := by decide +kernel
theorem dX12_laysPath_17 : decode cX12_laysPath 17 = .ok (.iaload, 1) := by decide +kernel
theorem dX12_laysPath_18 : decode cX12_laysPath 18 = .ok (.aload_n 0, 1) := by decide +kernel
theorem dX12_laysPath_19 : decode cX12_laysPath 19 = .ok (.getfield 69, 3) := by decide +kernel
theorem dX12_laysPath_22 : decode cX12_laysPath 22 = .ok (.invokevirtual 231, 3) := by decide +kernel
theorem dX12_laysPath_25 : decode cX12_laysPath 25 = .ok (.istore_n 2, 1) := by decide +kernel
theorem dX12_laysPath_26 : decode cX12_laysPath 26 = .ok (.aload_n 0, 1) := by decide +kernel
theorem dX12_laysPath_27 : decode cX12_laysPath 27 = .ok (.iload_n 2, 1) := by decide +kernel
theorem dX12_laysPath_28 : decode cX12_laysPath 28 = .ok (.invokevirtual 317, 3) := by decide +kernel
theorem dX12_laysPath_31 : decode cX12_laysPath 31 = .ok (.iconst 0, 1) := by decide +kernel
theorem dX12_laysPath_32 : decode cX12_laysPath 32 = .ok (.istore_n 3, 1) := by decide +kernel
theorem dX12_laysPath_33 : decode cX12_laysPath 33 = .ok (.iconst 0, 1) := by decide +kernel
theorem dX12_laysPath_34 : decode cX12_laysPath 34 = .ok (.istore 4, 2) := by decide +kernel
theorem dX12_laysPath_36 : decode cX12_laysPath 36 = .ok (.iload 4, 2) := by decide +kernel
theorem dX12_laysPath_38 : decode cX12_laysPath 38 = .ok (.iload_n 2, 1) := by decide +kernel
theorem dX12_laysPath_39 : decode cX12_laysPath 39 = .ok (.if_icmp .ge 121, 3) := by decide +kernel
theorem dX12_laysPath_42 : decode cX12_laysPath 42 = .ok (.iload_n 3, 1) := by decide +kernel
theorem dX12_laysPath_43 : decode cX12_laysPath 43 = .ok (.iconst 1, 1) := by decide +kernel
theorem dX12_laysPath_44 : decode cX12_laysPath 44 = .ok (.iadd, 1) := by decide +kernel
theorem dX12_laysPath_45 : decode cX12_laysPath 45 = .ok (.istore 5, 2) := by decide +kernel
theorem dX12_laysPath_47 : decode cX12_laysPath 47 = .ok (.aload_n 0, 1) := by decide +kernel
theorem dX12_laysPath_48 : decode cX12_laysPath 48 = .ok (.getfield 75, 3) := by decide +kernel
theorem dX12_laysPath_51 : decode cX12_laysPath 51 = .ok (.bipush 17, 2) := by decide +kernel
theorem dX12_laysPath_53 : decode cX12_laysPath 53 = .ok (.iload 4, 2) := by decide +kernel
theorem dX12_laysPath_55 : decode cX12_laysPath 55 = .ok (.iconst 1, 1) := by decide +kernel
theorem dX12_laysPath_56 : decode cX12_laysPath 56 = .ok (.iadd, 1) := by decide +kernel
theorem dX12_laysPath_57 : decode cX12_laysPath 57 = .ok (.imul, 1) := by decide +kernel
theorem dX12_laysPath_58 : decode cX12_laysPath 58 = .ok (.iload 5, 2) := by decide +kernel
theorem dX12_laysPath_60 : decode cX12_laysPath 60 = .ok (.iadd, 1) := by decide +kernel
theorem dX12_laysPath_61 : decode cX12_laysPath 61 = .ok (.laload, 1) := by decide +kernel
theorem dX12_laysPath_62 : decode cX12_laysPath 62 = .ok (.ldc2_w 205, 3) := by decide +kernel
theorem dX12_laysPath_65 : decode cX12_laysPath 65 = .ok (.lcmp, 1) := by decide +kernel
theorem dX12_laysPath_66 : decode cX12_laysPath 66 = .ok (.ifCond .ge 49, 3) := by decide +kernel
theorem dX12_laysPath_69 : decode cX12_laysPath 69 = .ok (.aload_n 0, 1) := by decide +kernel
theorem dX12_laysPath_70 : decode cX12_laysPath 70 = .ok (.getfield 75, 3) := by decide +kernel
theorem dX12_laysPath_73 : decode cX12_laysPath 73 = .ok (.bipush 17, 2) := by decide +kernel
theorem dX12_laysPath_75 : decode cX12_laysPath 75 = .ok (.iload 4, 2) := by decide +kernel
theorem dX12_laysPath_77 : decode cX12_laysPath 77 = .ok (.iconst 1, 1) := by decide +kernel
theorem dX12_laysPath_78 : decode cX12_laysPath 78 = .ok (.iadd, 1) := by decide +kernel
theorem dX12_laysPath_79 : decode cX12_laysPath 79 = .ok (.imul, 1) := by decide +kernel
theorem dX12_laysPath_80 : decode cX12_laysPath 80 = .ok (.iload 5, 2) := by decide +kernel
theorem dX12_laysPath_82 : decode cX12_laysPath 82 = .ok (.iadd, 1) := by decide +kernel
theorem dX12_laysPath_83 : decode cX12_laysPath 83 = .ok (.laload, 1) := by decide +kernel
theorem dX12_laysPath_84 : decode cX12_laysPath 84 = .ok (.aload_n 0, 1) := by decide +kernel
theorem dX12_laysPath_85 : decode cX12_laysPath 85 = .ok (.aload_n 0, 1) := by decide +kernel
theorem dX12_laysPath_86 : decode cX12_laysPath 86 = .ok (.getfield 69, 3) := by decide +kernel
theorem dX12_laysPath_89 : decode cX12_laysPath 89 = .ok (.iload 4, 2) := by decide +kernel
theorem dX12_laysPath_91 : decode cX12_laysPath 91 = .ok (.iaload, 1) := by decide +kernel
theorem dX12_laysPath_92 : decode cX12_laysPath 92 = .ok (.iload_n 3, 1) := by decide +kernel
theorem dX12_laysPath_93 : decode cX12_laysPath 93 = .ok (.iload 5, 2) := by decide +kernel
theorem dX12_laysPath_95 : decode cX12_laysPath 95 = .ok (.invokevirtual 221, 3) := by decide +kernel
theorem dX12_laysPath_98 : decode cX12_laysPath 98 = .ok (.ladd, 1) := by decide +kernel
theorem dX12_laysPath_99 : decode cX12_laysPath 99 = .ok (.aload_n 0, 1) := by decide +kernel
theorem dX12_laysPath_100 : decode cX12_laysPath 100 = .ok (.getfield 75, 3) := by decide +kernel
theorem dX12_laysPath_103 : decode cX12_laysPath 103 = .ok (.bipush 17, 2) := by decide +kernel
theorem dX12_laysPath_105 : decode cX12_laysPath 105 = .ok (.iload 4, 2) := by decide +kernel
theorem dX12_laysPath_107 : decode cX12_laysPath 107 = .ok (.imul, 1) := by decide +kernel
theorem dX12_laysPath_108 : decode cX12_laysPath 108 = .ok (.iload_n 3, 1) := by decide +kernel
theorem dX12_laysPath_109 : decode cX12_laysPath 109 = .ok (.iadd, 1) := by decide +kernel
theorem dX12_laysPath_110 : decode cX12_laysPath 110 = .ok (.laload, 1) := by decide +kernel
theorem dX12_laysPath_111 : decode cX12_laysPath 111 = .ok (.lcmp, 1) := by decide +kernel
theorem dX12_laysPath_112 : decode cX12_laysPath 112 = .ok (.ifCond .eq 9, 3) := by decide +kernel
theorem dX12_laysPath_115 : decode cX12_laysPath 115 = .ok (.iinc 5 1, 3) := by decide +kernel
theorem dX12_laysPath_118 : decode cX12_laysPath 118 = .ok (.goto (-71), 3) := by decide +kernel
theorem dX12_laysPath_121 : decode cX12_laysPath 121 = .ok (.aload_n 0, 1) := by decide +kernel
theorem dX12_laysPath_122 : decode cX12_laysPath 122 = .ok (.iload 4, 2) := by decide +kernel
theorem dX12_laysPath_124 : decode cX12_laysPath 124 = .ok (.aload_n 0, 1) := by decide +kernel
theorem dX12_laysPath_125 : decode cX12_laysPath 125 = .ok (.getfield 69, 3) := by decide +kernel
theorem dX12_laysPath_128 : decode cX12_laysPath 128 = .ok (.iload 4, 2) := by decide +kernel
theorem dX12_laysPath_130 : decode cX12_laysPath 130 = .ok (.iaload, 1) := by decide +kernel
theorem dX12_laysPath_131 : decode cX12_laysPath 131 = .ok (.aload_n 0, 1) := by decide +kernel
theorem dX12_laysPath_132 : decode cX12_laysPath 132 = .ok (.aload_n 0, 1) := by decide +kernel
theorem dX12_laysPath_133 : decode cX12_laysPath 133 = .ok (.getfield 69, 3) := by decide +kernel
theorem dX12_laysPath_136 : decode cX12_laysPath 136 = .ok (.iload 4, 2) := by decide +kernel
theorem dX12_laysPath_138 : decode cX12_laysPath 138 = .ok (.iaload, 1) := by decide +kernel
theorem dX12_laysPath_139 : decode cX12_laysPath 139 = .ok (.iload_n 3, 1) := by decide +kernel
theorem dX12_laysPath_140 : decode cX12_laysPath 140 = .ok (.iload 5, 2) := by decide +kernel
theorem dX12_laysPath_142 : decode cX12_laysPath 142 = .ok (.invokevirtual 320, 3) := by decide +kernel
theorem dX12_laysPath_145 : decode cX12_laysPath 145 = .ok (.iload_n 3, 1) := by decide +kernel
theorem dX12_laysPath_146 : decode cX12_laysPath 146 = .ok (.iload 5, 2) := by decide +kernel
theorem dX12_laysPath_148 : decode cX12_laysPath 148 = .ok (.invokevirtual 323, 3) := by decide +kernel
theorem dX12_laysPath_151 : decode cX12_laysPath 151 = .ok (.iload 5, 2) := by decide +kernel
theorem dX12_laysPath_153 : decode cX12_laysPath 153 = .ok (.istore_n 3, 1) := by decide +kernel
theorem dX12_laysPath_154 : decode cX12_laysPath 154 = .ok (.iinc 4 1, 3) := by decide +kernel
theorem dX12_laysPath_157 : decode cX12_laysPath 157 = .ok (.goto (-121), 3) := by decide +kernel
theorem dX12_laysPath_160 : decode cX12_laysPath 160 = .ok (.iload_n 1, 1) := by decide +kernel
theorem dX12_laysPath_161 : decode cX12_laysPath 161 = .ok (.ireturn, 1) := by decide +kernel
def J_X12_laysPath_115 (v1 v2 v3 v4 v5 : Int) (st : z_St) : Option (Int ⊕ Int) :=
  some (.inl (v5 + 1))
set_option maxRecDepth 100000 in
set_option maxHeartbeats 4000000 in
theorem w_X12_laysPath_115 {κ : zK} {a : Nat → Nat} {v1 v2 v3 v4 v5 : Int} {st : z_St} {mc9 ms9 : Nat} {o : Int ⊕ Int} (hc : z_C κ RX12 cX12_laysPath 6 13 mc9 ms9) (hap : z_AP κ a z_N) (k1 : ∀ s9 : Int, o = .inl s9 → z_V κ z_T z_N a 0 0 47 [(0, .ref (a 168)), (1, .int (zI v1)), (2, .int (zI v2)), (3, .int (zI v3)), (4, .int (zI v4)), (5, .int (zI s9))] [] st) (k2 : ∀ x9 : Int, o = .inr x9 → z_V κ z_T z_N a 0 0 121 [(0, .ref (a 168)), (1, .int (zI v1)), (2, .int (zI v2)), (3, .int (zI v3)), (4, .int (zI v4)), (5, .int (zI x9))] [] st) (h : J_X12_laysPath_115 v1 v2 v3 v4 v5 st = some o) : z_V κ z_T z_N a 0 0 115 [(0, .ref (a 168)), (1, .int (zI v1)), (2, .int (zI v2)), (3, .int (zI v3)), (4, .int (zI v4)), (5, .int (zI v5))] [] st := by
  unfold J_X12_laysPath_115 at h
  refine z_iinc [(5, .int (zI (v5 + 1))), (0, .ref (a 168)), (1, .int (zI v1)), (2, .int (zI v2)), (3, .int (zI v3)), (4, .int (zI v4))] 5 hc dX12_laysPath_115 rfl (by decide) rfl ?_
  refine z_goto (tgt := 47) hc dX12_laysPath_118 (by decide) ?_
  refine z_sub [(0, .ref (a 168)), (1, .int (zI v1)), (2, .int (zI v2)), (3, .int (zI v3)), (4, .int (zI v4)), (5, .int (zI (v5 + 1)))] [1, 2, 3, 4, 5, 0] rfl ?_
  exact k1 _ (Option.some.inj h).symm
def J_X12_laysPath_b47 (v1 v2 v3 v4 v5 : Int) (st : z_St) : Option (Int ⊕ Int) :=
  z_g (0 ≤ (17 * (v4 + 1)) + v5 ∧ (17 * (v4 + 1)) + v5 < 85) <|
  z_g (z64 (st 188 ((17 * (v4 + 1)) + v5)) ∧ z64 1000000000000000000) (if st 188 ((17 * (v4 + 1)) + v5) < 1000000000000000000 then
    z_g (0 ≤ (17 * (v4 + 1)) + v5 ∧ (17 * (v4 + 1)) + v5 < 85) <|
    z_g (0 ≤ v4 ∧ v4 < 4) <|
    z_b (J_X12_tableOf (st 186 v4) v3 v5 st) fun r11 =>
    z_g (0 ≤ (17 * v4) + v3 ∧ (17 * v4) + v3 < 85) <|
    z_g (z64 ((st 188 ((17 * (v4 + 1)) + v5)) + r11) ∧ z64 (st 188 ((17 * v4) + v3))) (if (st 188 ((17 * (v4 + 1)) + v5)) + r11 = st 188 ((17 * v4) + v3) then
      some (.inr v5)
    else
      J_X12_laysPath_115 v1 v2 v3 v4 v5 st)
  else
    J_X12_laysPath_115 v1 v2 v3 v4 v5 st)
set_option maxRecDepth 100000 in
set_option maxHeartbeats 4000000 in
theorem w_X12_laysPath_b47 {κ : zK} {a : Nat → Nat} {v1 v2 v3 v4 v5 : Int} {st : z_St} {mc9 ms9 : Nat} {o : Int ⊕ Int} (hc : z_C κ RX12 cX12_laysPath 6 13 mc9 ms9) (hap : z_AP κ a z_N) (k1 : ∀ s9 : Int, o = .inl s9 → z_V κ z_T z_N a 0 0 47 [(0, .ref (a 168)), (1, .int (zI v1)), (2, .int (zI v2)), (3, .int (zI v3)), (4, .int (zI v4)), (5, .int (zI s9))] [] st) (k2 : ∀ x9 : Int, o = .inr x9 → z_V κ z_T z_N a 0 0 121 [(0, .ref (a 168)), (1, .int (zI v1)), (2, .int (zI v2)), (3, .int (zI v3)), (4, .int (zI v4)), (5, .int (zI x9))] [] st) (h : J_X12_laysPath_b47 v1 v2 v3 v4 v5 st = some o) : z_V κ z_T z_N a 0 0 47 [(0, .ref (a 168)), (1, .int (zI v1)), (2, .int (zI v2)), (3, .int (zI v3)), (4, .int (zI v4)), (5, .int (zI v5))] [] st := by
  unfold J_X12_laysPath_b47 at h
  refine z_aload_n (i := 0) 0 hc dX12_laysPath_47 rfl rfl ?_
  refine z_getA (k' := 188) hc fl_RX12_75 tT_168 (by decide) rfl rfl dX12_laysPath_48 ?_
  refine z_bipush hc dX12_laysPath_51 rfl ?_
  refine z_iload 4 hc dX12_laysPath_53 rfl ?_
  refine z_iconst hc dX12_laysPath_55 ?_
  refine z_iadd hc dX12_laysPath_56 ?_
  refine z_imul hc dX12_laysPath_57 ?_
  refine z_iload 5 hc dX12_laysPath_58 rfl ?_
  refine z_iadd hc dX12_laysPath_60 ?_
  refine z_lald (kI := 188) (nI9 := 85) hc tT_188 (by decide) rfl rfl (by decide) dX12_laysPath_61 h (fun g8 h => ?_)
  refine z_ldc2 1000000000000000000 hc kc_RX12_205 dX12_laysPath_62 rfl ?_
  refine z_lcmp_ge (tgt := 115) hc dX12_laysPath_65 dX12_laysPath_66 (by decide) h (fun c65 h => ?_) (fun c65 h => ?_)
  · refine z_aload_n (i := 0) 0 hc dX12_laysPath_69 rfl rfl ?_
    refine z_getA (k' := 188) hc fl_RX12_75 tT_168 (by decide) rfl rfl dX12_laysPath_70 ?_
    refine z_bipush hc dX12_laysPath_73 rfl ?_
    refine z_iload 4 hc dX12_laysPath_75 rfl ?_
    refine z_iconst hc dX12_laysPath_77 ?_
    refine z_iadd hc dX12_laysPath_78 ?_
    refine z_imul hc dX12_laysPath_79 ?_
    refine z_iload 5 hc dX12_laysPath_80 rfl ?_
    refine z_iadd hc dX12_laysPath_82 ?_
    refine z_lald (kI := 188) (nI9 := 85) hc tT_188 (by decide) rfl rfl (by decide) dX12_laysPath_83 h (fun g9 h => ?_)
    refine z_aload_n (i := 0) 0 hc dX12_laysPath_84 rfl rfl ?_
    refine z_aload_n (i := 0) 0 hc dX12_laysPath_85 rfl rfl ?_
    refine z_getA (k' := 186) hc fl_RX12_69 tT_168 (by decide) rfl rfl dX12_laysPath_86 ?_
    refine z_iload 4 hc dX12_laysPath_89 rfl ?_
    refine z_iald (kI := 186) (nI9 := 4) hc tT_186 (by decide) rfl rfl (by decide) dX12_laysPath_91 h (fun g10 h => ?_)
    refine z_iload_n (i := 3) 3 hc dX12_laysPath_92 rfl rfl ?_
    refine z_iload 5 hc dX12_laysPath_93 rfl ?_
    obtain ⟨r11, hr11, h⟩ := z_b_some h
    refine z_callVJ [.int (zI (st 186 v4)), .int (zI v3), .int (zI v5)] hc hap o_X12_tableOf ml_RX12_221 (fun l hl => c_X12_tableOf hl  hr11) (by decide) tT_168 (by decide) ⟨_, rfl, rfl⟩ rfl rfl (Nat.le_of_ble_eq_true rfl) (Nat.zero_le _) (Nat.zero_le _) dX12_laysPath_95 ?_
    refine z_ladd hc dX12_laysPath_98 ?_
    refine z_aload_n (i := 0) 0 hc dX12_laysPath_99 rfl rfl ?_
    refine z_getA (k' := 188) hc fl_RX12_75 tT_168 (by decide) rfl rfl dX12_laysPath_100 ?_
    refine z_bipush hc dX12_laysPath_103 rfl ?_
    refine z_iload 4 hc dX12_laysPath_105 rfl ?_
    refine z_imul hc dX12_laysPath_107 ?_
    refine z_iload_n (i := 3) 3 hc dX12_laysPath_108 rfl rfl ?_
    refine z_iadd hc dX12_laysPath_109 ?_
    refine z_lald (kI := 188) (nI9 := 85) hc tT_188 (by decide) rfl rfl (by decide) dX12_laysPath_110 h (fun g13 h => ?_)
    refine z_lcmp_eq (tgt := 121) hc dX12_laysPath_111 dX12_laysPath_112 (by decide) h (fun c111 h => ?_) (fun c111 h => ?_)
    · refine z_sub [(0, .ref (a 168)), (1, .int (zI v1)), (2, .int (zI v2)), (3, .int (zI v3)), (4, .int (zI v4)), (5, .int (zI v5))] [0, 1, 2, 3, 4, 5] rfl ?_
      exact k2 v5 (Option.some.inj h).symm
    · refine z_sub [(0, .ref (a 168)), (1, .int (zI v1)), (2, .int (zI v2)), (3, .int (zI v3)), (4, .int (zI v4)), (5, .int (zI v5))] [0, 1, 2, 3, 4, 5] rfl ?_
      exact w_X12_laysPath_115 hc hap k1 k2 h
  · refine z_sub [(0, .ref (a 168)), (1, .int (zI v1)), (2, .int (zI v2)), (3, .int (zI v3)), (4, .int (zI v4)), (5, .int (zI v5))] [0, 1, 2, 3, 4, 5] rfl ?_
    exact w_X12_laysPath_115 hc hap k1 k2 h
def J_X12_laysPath_b36 (v1 v2 v3 v4 : Int) (st : z_St) : Option ((Int × Int × z_St) ⊕ z_St) :=
  z_g (z32 v4 ∧ z32 v2) (if v4 < v2 then
    z_b (z_iter z_F (fun q9 : Int => J_X12_laysPath_b47 v1 v2 v3 v4 q9 st) (v3 + 1)) fun lx14 =>
      z_g (0 ≤ v4 ∧ v4 < 4) <|
      z_g (0 ≤ v4 ∧ v4 < 4) <|
      z_b (J_X12_sayingOf (st 186 v4) v3 lx14 st) fun r17 =>
      z_b (J_X12_laysSounds v4 (st 186 v4) r17 v3 lx14 st) fun st20 =>
      some (.inl (lx14, v4 + 1, st20))
  else
    some (.inr st))
set_option maxRecDepth 100000 in
set_option maxHeartbeats 4000000 in
theorem w_X12_laysPath_b36 {κ : zK} {a : Nat → Nat} {v1 v2 v3 v4 : Int} {st : z_St} {mc9 ms9 : Nat} {o : (Int × Int × z_St) ⊕ z_St} (hc : z_C κ RX12 cX12_laysPath 6 13 mc9 ms9) (hap : z_AP κ a z_N) (k1 : ∀ s9 : (Int × Int × z_St), o = .inl s9 → z_V κ z_T z_N a 0 0 36 [(0, .ref (a 168)), (1, .int (zI v1)), (2, .int (zI v2)), (3, .int (zI s9.1)), (4, .int (zI s9.2.1))] [] s9.2.2) (k2 : ∀ x9 : z_St, o = .inr x9 → z_V κ z_T z_N a 0 0 160 [(1, .int (zI v1))] [] x9) (h : J_X12_laysPath_b36 v1 v2 v3 v4 st = some o) : z_V κ z_T z_N a 0 0 36 [(0, .ref (a 168)), (1, .int (zI v1)), (2, .int (zI v2)), (3, .int (zI v3)), (4, .int (zI v4))] [] st := by
  unfold J_X12_laysPath_b36 at h
  refine z_iload 4 hc dX12_laysPath_36 rfl ?_
  refine z_iload_n (i := 2) 2 hc dX12_laysPath_38 rfl rfl ?_
  refine z_icmp_ge (tgt := 160) hc dX12_laysPath_39 (by decide) h (fun c39 h => ?_) (fun c39 h => ?_)
  · refine z_iload_n (i := 3) 3 hc dX12_laysPath_42 rfl rfl ?_
    refine z_iconst hc dX12_laysPath_43 ?_
    refine z_iadd hc dX12_laysPath_44 ?_
    refine z_istore [(5, .int (zI (v3 + 1))), (0, .ref (a 168)), (1, .int (zI v1)), (2, .int (zI v2)), (3, .int (zI v3)), (4, .int (zI v4))] hc dX12_laysPath_45 (by decide) rfl ?_
    obtain ⟨lx14, hlx14, h⟩ := z_b_some h
    refine z_sub [(0, .ref (a 168)), (1, .int (zI v1)), (2, .int (zI v2)), (3, .int (zI v3)), (4, .int (zI v4)), (5, .int (zI (v3 + 1)))] [1, 2, 3, 4, 5, 0] rfl ?_
    refine z_loop (fun q9 : Int => J_X12_laysPath_b47 v1 v2 v3 v4 q9 st) (fun q9 : Int => z_V κ z_T z_N a 0 0 47 [(0, .ref (a 168)), (1, .int (zI v1)), (2, .int (zI v2)), (3, .int (zI v3)), (4, .int (zI v4)), (5, .int (zI q9))] [] st) (fun x9 : Int => z_V κ z_T z_N a 0 0 121 [(0, .ref (a 168)), (1, .int (zI v1)), (2, .int (zI v2)), (3, .int (zI v3)), (4, .int (zI v4)), (5, .int (zI x9))] [] st) (fun q9 o9 hb k1 k2 => ?_) _ _ _ hlx14 ?_
    · exact w_X12_laysPath_b47 hc hap k1 k2 hb
    · show z_V κ z_T z_N a 0 0 121 [(0, .ref (a 168)), (1, .int (zI v1)), (2, .int (zI v2)), (3, .int (zI v3)), (4, .int (zI v4)), (5, .int (zI lx14))] [] st
      refine z_aload_n (i := 0) 0 hc dX12_laysPath_121 rfl rfl ?_
      refine z_iload 4 hc dX12_laysPath_122 rfl ?_
      refine z_aload_n (i := 0) 0 hc dX12_laysPath_124 rfl rfl ?_
      refine z_getA (k' := 186) hc fl_RX12_69 tT_168 (by decide) rfl rfl dX12_laysPath_125 ?_
      refine z_iload 4 hc dX12_laysPath_128 rfl ?_
      refine z_iald (kI := 186) (nI9 := 4) hc tT_186 (by decide) rfl rfl (by decide) dX12_laysPath_130 h (fun g15 h => ?_)
      refine z_aload_n (i := 0) 0 hc dX12_laysPath_131 rfl rfl ?_
      refine z_aload_n (i := 0) 0 hc dX12_laysPath_132 rfl rfl ?_
      refine z_getA (k' := 186) hc fl_RX12_69 tT_168 (by decide) rfl rfl dX12_laysPath_133 ?_
      refine z_iload 4 hc dX12_laysPath_136 rfl ?_
      refine z_iald (kI := 186) (nI9 := 4) hc tT_186 (by decide) rfl rfl (by decide) dX12_laysPath_138 h (fun g16 h => ?_)
      refine z_iload_n (i := 3) 3 hc dX12_laysPath_139 rfl rfl ?_
      refine z_iload 5 hc dX12_laysPath_140 rfl ?_
      obtain ⟨r17, hr17, h⟩ := z_b_some h
      refine z_callVI [.int (zI (st 186 v4)), .int (zI v3), .int (zI lx14)] hc hap o_X12_sayingOf ml_RX12_320 (fun l hl => c_X12_sayingOf hl  hr17) (by decide) tT_168 (by decide) ⟨_, rfl, rfl⟩ rfl rfl (Nat.le_of_ble_eq_true rfl) (Nat.zero_le _) (Nat.zero_le _) dX12_laysPath_142 ?_
      refine z_iload_n (i := 3) 3 hc dX12_laysPath_145 rfl rfl ?_
      refine z_iload 5 hc dX12_laysPath_146 rfl ?_
      obtain ⟨st20, hr19, h⟩ := z_b_some h
      refine z_callVV [.int (zI v4), .int (zI (st 186 v4)), .int (zI r17), .int (zI v3), .int (zI lx14)] hc hap o_X12_laysSounds ml_RX12_323 (fun l hl => c_X12_laysSounds hl  hr19) (by decide) tT_168 (by decide) ⟨_, rfl, rfl⟩ rfl rfl (Nat.le_of_ble_eq_true rfl) (Nat.zero_le _) (Nat.zero_le _) dX12_laysPath_148 ?_
      refine z_iload 5 hc dX12_laysPath_151 rfl ?_
      refine z_istore_n (i := 3) [(3, .int (zI lx14)), (0, .ref (a 168)), (1, .int (zI v1)), (2, .int (zI v2)), (4, .int (zI v4)), (5, .int (zI lx14))] hc dX12_laysPath_153 rfl (by decide) rfl ?_
      refine z_iinc [(4, .int (zI (v4 + 1))), (3, .int (zI lx14)), (0, .ref (a 168)), (1, .int (zI v1)), (2, .int (zI v2)), (5, .int (zI lx14))] 4 hc dX12_laysPath_154 rfl (by decide) rfl ?_
      refine z_goto (tgt := 36) hc dX12_laysPath_157 (by decide) ?_
      refine z_sub [(0, .ref (a 168)), (1, .int (zI v1)), (2, .int (zI v2)), (3, .int (zI lx14)), (4, .int (zI (v4 + 1)))] [2, 3, 4, 1, 0] rfl ?_
      exact k1 _ (Option.some.inj h).symm
  · refine z_sub [(1, .int (zI v1))] [1] rfl ?_
    exact k2 st (Option.some.inj h).symm
def J_X12_laysPath (st : z_St) : Option (Int × z_St) :=
  z_b (J_X12_laysRows st) fun r1 =>
  z_g (z32 r1.1) (if r1.1 < 0 then
    some ((-1), r1.2)
  else
    z_g (0 ≤ r1.1 ∧ r1.1 < 780) <|
    z_b (J_X12_apart (r1.2 190 r1.1) 186 r1.2) fun r4 =>
    z_b (J_X12_laysRest r4.1 r4.2) fun st7 =>
    z_b (z_iter z_F (fun q9 : (Int × Int × z_St) => J_X12_laysPath_b36 r1.1 r4.1 q9.1 q9.2.1 q9.2.2) (0, 0, st7)) fun lx21 =>
      some (r1.1, lx21))
set_option maxRecDepth 100000 in
set_option maxHeartbeats 4000000 in
theorem w_X12_laysPath {κ : zK} {a : Nat → Nat} {st : z_St} {o : Int × z_St} (hc : z_C κ RX12 cX12_laysPath 6 13 0 0) (hap : z_AP κ a z_N) (he : z_E 0 κ (some .int) z_T z_N a o.1 o.2) (h : J_X12_laysPath st = some o) : z_V κ z_T z_N a 0 0 0 [(0, .ref (a 168))] [] st := by
  unfold J_X12_laysPath at h
  refine z_aload_n (i := 0) 0 hc dX12_laysPath_0 rfl rfl ?_
  obtain ⟨r1, hr1, h⟩ := z_b_some h
  refine z_callVI [] hc hap o_X12_laysRows ml_RX12_159 (fun l hl => c_X12_laysRows hl  hr1) (by decide) tT_168 (by decide) ⟨_, rfl, rfl⟩ rfl rfl (Nat.le_of_ble_eq_true rfl) (Nat.zero_le _) (Nat.zero_le _) dX12_laysPath_1 ?_
  refine z_istore_n (i := 1) [(1, .int (zI r1.1)), (0, .ref (a 168))] hc dX12_laysPath_4 rfl (by decide) rfl ?_
  refine z_iload_n (i := 1) 0 hc dX12_laysPath_5 rfl rfl ?_
  refine z_if_ge (tgt := 11) hc dX12_laysPath_6 (by decide) h (fun c6 h => ?_) (fun c6 h => ?_)
  · refine z_iconst hc dX12_laysPath_9 ?_
    have h := Option.some.inj h
    subst h
    exact z_retI hc he dX12_laysPath_10
  · refine z_aload_n (i := 0) 1 hc dX12_laysPath_11 rfl rfl ?_
    refine z_aload_n (i := 0) 1 hc dX12_laysPath_12 rfl rfl ?_
    refine z_getA (k' := 190) hc fl_RX12_81 tT_168 (by decide) rfl rfl dX12_laysPath_13 ?_
    refine z_iload_n (i := 1) 0 hc dX12_laysPath_16 rfl rfl ?_
    refine z_iald (kI := 190) (nI9 := 780) hc tT_190 (by decide) rfl rfl (by decide) dX12_laysPath_17 h (fun g3 h => ?_)
    refine z_aload_n (i := 0) 1 hc dX12_laysPath_18 rfl rfl ?_
    refine z_getA (k' := 186) hc fl_RX12_69 tT_168 (by decide) rfl rfl dX12_laysPath_19 ?_
    obtain ⟨r4, hr4, h⟩ := z_b_some h
    refine z_callVI [.int (zI (r1.2 190 r1.1)), .ref (a 186)] hc hap o_X12_apart ml_RX12_231 (fun l hl => c_X12_apart hl (z_isArr_lit (by decide) tT_186) hr4) (by decide) tT_168 (by decide) ⟨_, rfl, rfl⟩ rfl rfl (Nat.le_of_ble_eq_true rfl) (Nat.zero_le _) (Nat.zero_le _) dX12_laysPath_22 ?_
    refine z_istore_n (i := 2) [(2, .int (zI r4.1)), (1, .int (zI r1.1)), (0, .ref (a 168))] hc dX12_laysPath_25 rfl (by decide) rfl ?_
    refine z_aload_n (i := 0) 2 hc dX12_laysPath_26 rfl rfl ?_
    refine z_iload_n (i := 2) 0 hc dX12_laysPath_27 rfl rfl ?_
    obtain ⟨st7, hr6, h⟩ := z_b_some h
    refine z_callVV [.int (zI r4.1)] hc hap o_X12_laysRest ml_RX12_317 (fun l hl => c_X12_laysRest hl  hr6) (by decide) tT_168 (by decide) ⟨_, rfl, rfl⟩ rfl rfl (Nat.le_of_ble_eq_true rfl) (Nat.zero_le _) (Nat.zero_le _) dX12_laysPath_28 ?_
    refine z_iconst hc dX12_laysPath_31 ?_
    refine z_istore_n (i := 3) [(3, .int (zI 0)), (2, .int (zI r4.1)), (1, .int (zI r1.1)), (0, .ref (a 168))] hc dX12_laysPath_32 rfl (by decide) rfl ?_
    refine z_iconst hc dX12_laysPath_33 ?_
    refine z_istore [(4, .int (zI 0)), (3, .int (zI 0)), (2, .int (zI r4.1)), (1, .int (zI r1.1)), (0, .ref (a 168))] hc dX12_laysPath_34 (by decide) rfl ?_
    obtain ⟨lx21, hlx21, h⟩ := z_b_some h
    refine z_sub [(0, .ref (a 168)), (1, .int (zI r1.1)), (2, .int (zI r4.1)), (3, .int (zI 0)), (4, .int (zI 0))] [4, 3, 2, 1, 0] rfl ?_
    refine z_loop (fun q9 : (Int × Int × z_St) => J_X12_laysPath_b36 r1.1 r4.1 q9.1 q9.2.1 q9.2.2) (fun q9 : (Int × Int × z_St) => z_V κ z_T z_N a 0 0 36 [(0, .ref (a 168)), (1, .int (zI r1.1)), (2, .int (zI r4.1)), (3, .int (zI q9.1)), (4, .int (zI q9.2.1))] [] q9.2.2) (fun x9 : z_St => z_V κ z_T z_N a 0 0 160 [(1, .int (zI r1.1))] [] x9) (fun q9 o9 hb k1 k2 => ?_) _ _ _ hlx21 ?_
    · exact w_X12_laysPath_b36 hc hap k1 k2 hb
    · show z_V κ z_T z_N a 0 0 160 [(1, .int (zI r1.1))] [] lx21
      refine z_iload_n (i := 1) 0 hc dX12_laysPath_160 rfl rfl ?_
      have h := Option.some.inj h
      subst h
      exact z_retI hc he dX12_laysPath_161
set_option maxRecDepth 100000 in
set_option maxHeartbeats 4000000 in
theorem c_X12_laysPath {l : Launch} (hl : l.stackTraces = false) {a : Nat → Nat} {st : z_St} {o : Int × z_St} (h : J_X12_laysPath st = some o) : z_M 0 l yX12_laysPath cX12_laysPath 6 (some .int) 13 z_T z_N a [.ref (a 168)] st o.1 o.2 := z_of hl (by decide +kernel) (Nat.le_of_ble_eq_true rfl) (fun κ hc hap he => w_X12_laysPath hc hap he h)
theorem dX12_fit_0 : decode cX12_fit 0 = .ok (.aload_n 0, 1) := by decide +kernel
theorem dX12_fit_1 : decode cX12_fit 1 = .ok (.invokevirtual 141, 3) := by decide +kernel
theorem dX12_fit_4 : decode cX12_fit 4 = .ok (.istore_n 1, 1) := by decide +kernel
theorem dX12_fit_5 : decode cX12_fit 5 = .ok (.aload_n 0, 1) := by decide +kernel
theorem dX12_fit_6 : decode cX12_fit 6 = .ok (.iload_n 1, 1) := by decide +kernel
theorem dX12_fit_7 : decode cX12_fit 7 = .ok (.ifCond .ge 7, 3) := by decide +kernel
theorem dX12_fit_10 : decode cX12_fit 10 = .ok (.iconst 1, 1) := by decide +kernel
theorem dX12_fit_11 : decode cX12_fit 11 = .ok (.goto 4, 3) := by decide +kernel
theorem dX12_fit_14 : decode cX12_fit 14 = .ok (.iconst 0, 1) := by decide +kernel
theorem dX12_fit_15 : decode cX12_fit 15 = .ok (.invokevirtual 131, 3) := by decide +kernel
theorem dX12_fit_18 : decode cX12_fit 18 = .ok (.ifCond .eq 7, 3) := by decide +kernel
theorem dX12_fit_21 : decode cX12_fit 21 = .ok (.ldc2_w 145, 3) := by decide +kernel
theorem dX12_fit_24 : decode cX12_fit 24 = .ok (.lreturn, 1) := by decide +kernel
theorem dX12_fit_25 : decode cX12_fit 25 = .ok (.iconst 0, 1) := by decide +kernel
theorem dX12_fit_26 : decode cX12_fit 26 = .ok (.istore_n 2, 1) := by decide +kernel
theorem dX12_fit_27 : decode cX12_fit 27 = .ok (.iload_n 2, 1) := by decide +kernel
theorem dX12_fit_28 : decode cX12_fit 28 = .ok (.iconst 3, 1) := by decide +kernel
theorem dX12_fit_29 : decode cX12_fit 29 = .ok (.if_icmp .ge 100, 3) := by decide +kernel
theorem dX12_fit_32 : decode cX12_fit 32 = .ok (.lconst 0, 1) := by decide +kernel
theorem dX12_fit_33 : decode cX12_fit 33 = .ok (.lstore_n 3, 1) := by decide +kernel
theorem dX12_fit_34 : decode cX12_fit 34 = .ok (.iconst 0, 1) := by decide +kernel
theorem dX12_fit_35 : decode cX12_fit 35 = .ok (.istore 5, 2) := by decide +kernel
theorem dX12_fit_37 : decode cX12_fit 37 = .ok (.iload 5, 2) := by decide +kernel
theorem dX12_fit_39 : decode cX12_fit 39 = .ok (.aload_n 0, 1) := by decide +kernel
theorem dX12_fit_40 : decode cX12_fit 40 = .ok (.getfield 128, 3) := by decide +kernel
theorem dX12_fit_43 : decode cX12_fit 43 = .ok (.if_icmp .ge 50, 3) := by decide +kernel
theorem dX12_fit_46 : decode cX12_fit 46 = .ok (.lload_n 3, 1) := by decide +kernel
theorem dX12_fit_47 : decode cX12_fit 47 = .ok (.aload_n 0, 1) := by decide +kernel
theorem dX12_fit_48 : decode cX12_fit 48 = .ok (.iload 5, 2) := by decide +kernel
theorem dX12_fit_50 : decode cX12_fit 50 = .ok (.iload_n 2, 1) := by decide +kernel
theorem dX12_fit_51 : decode cX12_fit 51 = .ok (.invokevirtual 147, 3) := by decide +kernel
theorem dX12_fit_54 : decode cX12_fit 54 = .ok (.aload_n 0, 1) := by decide +kernel
theorem dX12_fit_55 : decode cX12_fit 55 = .ok (.aload_n 0, 1) := by decide +kernel
theorem dX12_fit_56 : decode cX12_fit 56 = .ok (.getfield 84, 3) := by decide +kernel
theorem dX12_fit_59 : decode cX12_fit 59 = .ok (.bipush 6, 2) := by decide +kernel
theorem dX12_fit_61 : decode cX12_fit 61 = .ok (.iload 5, 2) := by decide +kernel
theorem dX12_fit_63 : decode cX12_fit 63 = .ok (.imul, 1) := by decide +kernel
theorem dX12_fit_64 : decode cX12_fit 64 = .ok (.iconst 4, 1) := by decide +kernel
theorem dX12_fit_65 : decode cX12_fit 65 = .ok (.iadd, 1) := by decide +kernel
theorem dX12_fit_66 : decode cX12_fit 66 = .ok (.iaload, 1) := by decide +kernel
theorem dX12_fit_67 : decode cX12_fit 67 = .ok (.aload_n 0, 1) := by decide +kernel
theorem dX12_fit_68 : decode cX12_fit 68 = .ok (.getfield 84, 3) := by decide +kernel
theorem dX12_fit_71 : decode cX12_fit 71 = .ok (.bipush 6, 2) := by decide +kernel
theorem dX12_fit_73 : decode cX12_fit 73 = .ok (.iload 5, 2) := by decide +kernel
theorem dX12_fit_75 : decode cX12_fit 75 = .ok (.imul, 1) := by decide +kernel
theorem dX12_fit_76 : decode cX12_fit 76 = .ok (.iconst 5, 1) := by decide +kernel
theorem dX12_fit_77 : decode cX12_fit 77 = .ok (.iadd, 1) := by decide +kernel
theorem dX12_fit_78 : decode cX12_fit 78 = .ok (.iaload, 1) := by decide +kernel
theorem dX12_fit_79 : decode cX12_fit 79 = .ok (.iload_n 2, 1) := by decide +kernel
theorem dX12_fit_80 : decode cX12_fit 80 = .ok (.invokevirtual 151, 3) := by decide +kernel
theorem dX12_fit_83 : decode cX12_fit 83 = .ok (.isub, 1) := by decide +kernel
theorem dX12_fit_84 : decode cX12_fit 84 = .ok (.i2l, 1) := by decide +kernel
theorem dX12_fit_85 : decode cX12_fit 85 = .ok (.ladd, 1) := by decide +kernel
theorem dX12_fit_86 : decode cX12_fit 86 = .ok (.lstore_n 3, 1) := by decide +kernel
theorem dX12_fit_87 : decode cX12_fit 87 = .ok (.iinc 5 1, 3) := by decide +kernel
theorem dX12_fit_90 : decode cX12_fit 90 = .ok (.goto (-53), 3) := by decide +kernel
theorem dX12_fit_93 : decode cX12_fit 93 = .ok (.aload_n 0, 1) := by decide +kernel
theorem dX12_fit_94 : decode cX12_fit 94 = .ok (.getfield 66, 3) := by decide +kernel
theorem dX12_fit_97 : decode cX12_fit 97 = .ok (.iload_n 2, 1) := by decide +kernel
theorem dX12_fit_98 : decode cX12_fit 98 = .ok (.aload_n 0, 1) := by decide +kernel
theorem dX12_fit_99 : decode cX12_fit 99 = .ok (.getfield 13, 3) := by decide +kernel
theorem dX12_fit_102 : decode cX12_fit 102 = .ok (.iconst 3, 1) := by decide +kernel
theorem dX12_fit_103 : decode cX12_fit 103 = .ok (.aload_n 0, 1) := by decide +kernel
theorem dX12_fit_104 : decode cX12_fit 104 = .ok (.getfield 136, 3) := by decide +kernel
theorem dX12_fit_107 : decode cX12_fit 107 = .ok (.imul, 1) := by decide +kernel
theorem dX12_fit_108 : decode cX12_fit 108 = .ok (.iload_n 2, 1) := by decide +kernel
theorem dX12_fit_109 : decode cX12_fit 109 = .ok (.iadd, 1) := by decide +kernel
theorem dX12_fit_110 : decode cX12_fit 110 = .ok (.iaload, 1) := by decide +kernel
theorem dX12_fit_111 : decode cX12_fit 111 = .ok (.i2l, 1) := by decide +kernel
theorem dX12_fit_112 : decode cX12_fit 112 = .ok (.aload_n 0, 1) := by decide +kernel
theorem dX12_fit_113 : decode cX12_fit 113 = .ok (.lload_n 3, 1) := by decide +kernel
theorem dX12_fit_114 : decode cX12_fit 114 = .ok (.aload_n 0, 1) := by decide +kernel
theorem dX12_fit_115 : decode cX12_fit 115 = .ok (.getfield 128, 3) := by decide +kernel
theorem dX12_fit_118 : decode cX12_fit 118 = .ok (.invokevirtual 155, 3) := by decide +kernel
theorem dX12_fit_121 : decode cX12_fit 121 = .ok (.ladd, 1) := by decide +kernel
theorem dX12_fit_122 : decode cX12_fit 122 = .ok (.lastore, 1) := by decide +kernel
theorem dX12_fit_123 : decode cX12_fit 123 = .ok (.iinc 2 1, 3) := by decide +kernel
theorem dX12_fit_126 : decode cX12_fit 126 = .ok (.goto (-99), 3) := by decide +kernel
theorem dX12_fit_129 : decode cX12_fit 129 = .ok (.iconst 0, 1) := by decide +kernel
theorem dX12_fit_130 : decode cX12_fit 130 = .ok (.istore_n 2, 1) := by decide +kernel
theorem dX12_fit_131 : decode cX12_fit 131 = .ok (.iload_n 2, 1) := by decide +kernel
theorem dX12_fit_132 : decode cX12_fit 132 = .ok (.iconst 3, 1) := by decide +kernel
theorem dX12_fit_133 : decode cX12_fit 133 = .ok (.if_icmp .ge 59, 3) := by decide +kernel
theorem dX12_fit_136 : decode cX12_fit 136 = .ok (.aload_n 0, 1) := by decide +kernel
theorem dX12_fit_137 : decode cX12_fit 137 = .ok (.getfield 66, 3) := by decide +kernel
theorem dX12_fit_140 : decode cX12_fit 140 = .ok (.iload_n 2, 1) := by decide +kernel
theorem dX12_fit_141 : decode cX12_fit 141 = .ok (.laload, 1) := by decide +kernel
theorem dX12_fit_142 : decode cX12_fit 142 = .ok (.lstore_n 3, 1) := by decide +kernel
theorem dX12_fit_143 : decode cX12_fit 143 = .ok (.aload_n 0, 1) := by decide +kernel
theorem dX12_fit_144 : decode cX12_fit 144 = .ok (.getfield 13, 3) := by decide +kernel
theorem dX12_fit_147 : decode cX12_fit 147 = .ok (.iconst 3, 1) := by decide +kernel
theorem dX12_fit_148 : decode cX12_fit 148 = .ok (.aload_n 0, 1) := by decide +kernel
theorem dX12_fit_149 : decode cX12_fit 149 = .ok (.getfield 136, 3) := by decide +kernel
theorem dX12_fit_152 : decode cX12_fit 152 = .ok (.imul, 1) := by decide +kernel
theorem dX12_fit_153 : decode cX12_fit 153 = .ok (.iload_n 2, 1) := by decide +kernel
theorem dX12_fit_154 : decode cX12_fit 154 = .ok (.iadd, 1) := by decide +kernel
theorem dX12_fit_155 : decode cX12_fit 155 = .ok (.lload_n 3, 1) := by decide +kernel
theorem dX12_fit_156 : decode cX12_fit 156 = .ok (.ldc2_w 112, 3) := by decide +kernel
theorem dX12_fit_159 : decode cX12_fit 159 = .ok (.lcmp, 1) := by decide +kernel
theorem dX12_fit_160 : decode cX12_fit 160 = .ok (.ifCond .ge 9, 3) := by decide +kernel
theorem dX12_fit_163 : decode cX12_fit 163 = .ok (.ldc2_w 112, 3) := by decide +kernel
theorem dX12_fit_166 : decode cX12_fit 166 = .ok (.goto 18, 3) := by decide +kernel
theorem dX12_fit_169 : decode cX12_fit 169 = .ok (.lload_n 3, 1) := by decide +kernel
theorem dX12_fit_170 : decode cX12_fit 170 = .ok (.ldc2_w 114, 3) := by decide +kernel
theorem dX12_fit_173 : decode cX12_fit 173 = .ok (.lcmp, 1) := by decide +kernel
theorem dX12_fit_174 : decode cX12_fit 174 = .ok (.ifCond .le 9, 3) := by decide +kernel
theorem dX12_fit_177 : decode cX12_fit 177 = .ok (.ldc2_w 114, 3) := by decide +kernel
theorem dX12_fit_180 : decode cX12_fit 180 = .ok (.goto 4, 3) := by decide +kernel
theorem dX12_fit_183 : decode cX12_fit 183 = .ok (.lload_n 3, 1) := by decide +kernel
theorem dX12_fit_184 : decode cX12_fit 184 = .ok (.l2i, 1) := by decide +kernel
theorem dX12_fit_185 : decode cX12_fit 185 = .ok (.iastore, 1) := by decide +kernel
theorem dX12_fit_186 : decode cX12_fit 186 = .ok (.iinc 2 1, 3) := by decide +kernel
theorem dX12_fit_189 : decode cX12_fit 189 = .ok (.goto (-58), 3) := by decide +kernel
theorem dX12_fit_192 : decode cX12_fit 192 = .ok (.aload_n 0, 1) := by decide +kernel
theorem dX12_fit_193 : decode cX12_fit 193 = .ok (.getfield 78, 3) := by decide +kernel
theorem dX12_fit_196 : decode cX12_fit 196 = .ok (.aload_n 0, 1) := by decide +kernel
theorem dX12_fit_197 : decode cX12_fit 197 = .ok (.invokevirtual 159, 3) := by decide +kernel
theorem dX12_fit_200 : decode cX12_fit 200 = .ok (.laload, 1) := by decide +kernel
theorem dX12_fit_201 : decode cX12_fit 201 = .ok (.lreturn, 1) := by decide +kernel
def J_X12_fit_b37 (v2 v3 v5 : Int) (st : z_St) : Option ((Int × Int) ⊕ Int) :=
  z_g (z32 v5 ∧ z32 (st 168 2)) (if v5 < st 168 2 then
    z_b (J_X12_clean v5 v2 st) fun r5 =>
    z_g (0 ≤ (6 * v5) + 4 ∧ (6 * v5) + 4 < 96) <|
    z_g (0 ≤ (6 * v5) + 5 ∧ (6 * v5) + 5 < 96) <|
    z_b (J_X12_lies (st 191 ((6 * v5) + 4)) (st 191 ((6 * v5) + 5)) v2 st) fun r9 =>
    z_g (z32 (r5 - r9)) <|
    some (.inl (v3 + (r5 - r9), v5 + 1))
  else
    some (.inr v3))
set_option maxRecDepth 100000 in
set_option maxHeartbeats 4000000 in
theorem w_X12_fit_b37 {κ : zK} {a : Nat → Nat} {v2 v3 v5 : Int} {st : z_St} {mc9 ms9 : Nat} {o : (Int × Int) ⊕ Int} (hc : z_C κ RX12 cX12_fit 6 14 mc9 ms9) (hap : z_AP κ a z_N) (k1 : ∀ s9 : (Int × Int), o = .inl s9 → z_V κ z_T z_N a 0 0 37 [(0, .ref (a 168)), (2, .int (zI v2)), (3, .long (zJ s9.1)), (5, .int (zI s9.2))] [] st) (k2 : ∀ x9 : Int, o = .inr x9 → z_V κ z_T z_N a 0 0 93 [(0, .ref (a 168)), (2, .int (zI v2)), (3, .long (zJ x9))] [] st) (h : J_X12_fit_b37 v2 v3 v5 st = some o) : z_V κ z_T z_N a 0 0 37 [(0, .ref (a 168)), (2, .int (zI v2)), (3, .long (zJ v3)), (5, .int (zI v5))] [] st := by
  unfold J_X12_fit_b37 at h
  refine z_iload 3 hc dX12_fit_37 rfl ?_
  refine z_aload_n (i := 0) 0 hc dX12_fit_39 rfl rfl ?_
  refine z_getI (kI := 168) (jI := 2) hc fl_RX12_128 tT_168 (by decide) rfl rfl rfl dX12_fit_40 ?_
  refine z_icmp_ge (tgt := 93) hc dX12_fit_43 (by decide) h (fun c43 h => ?_) (fun c43 h => ?_)
  · refine z_lload_n (i := 3) 2 hc dX12_fit_46 rfl rfl ?_
    refine z_aload_n (i := 0) 0 hc dX12_fit_47 rfl rfl ?_
    refine z_iload 3 hc dX12_fit_48 rfl ?_
    refine z_iload_n (i := 2) 1 hc dX12_fit_50 rfl rfl ?_
    obtain ⟨r5, hr5, h⟩ := z_b_some h
    refine z_callVI [.int (zI v5), .int (zI v2)] hc hap o_X12_clean ml_RX12_147 (fun l hl => c_X12_clean hl  hr5) (by decide) tT_168 (by decide) ⟨_, rfl, rfl⟩ rfl rfl (Nat.le_of_ble_eq_true rfl) (Nat.zero_le _) (Nat.zero_le _) dX12_fit_51 ?_
    refine z_aload_n (i := 0) 0 hc dX12_fit_54 rfl rfl ?_
    refine z_aload_n (i := 0) 0 hc dX12_fit_55 rfl rfl ?_
    refine z_getA (k' := 191) hc fl_RX12_84 tT_168 (by decide) rfl rfl dX12_fit_56 ?_
    refine z_bipush hc dX12_fit_59 rfl ?_
    refine z_iload 3 hc dX12_fit_61 rfl ?_
    refine z_imul hc dX12_fit_63 ?_
    refine z_iconst hc dX12_fit_64 ?_
    refine z_iadd hc dX12_fit_65 ?_
    refine z_iald (kI := 191) (nI9 := 96) hc tT_191 (by decide) rfl rfl (by decide) dX12_fit_66 h (fun g7 h => ?_)
    refine z_aload_n (i := 0) 0 hc dX12_fit_67 rfl rfl ?_
    refine z_getA (k' := 191) hc fl_RX12_84 tT_168 (by decide) rfl rfl dX12_fit_68 ?_
    refine z_bipush hc dX12_fit_71 rfl ?_
    refine z_iload 3 hc dX12_fit_73 rfl ?_
    refine z_imul hc dX12_fit_75 ?_
    refine z_iconst hc dX12_fit_76 ?_
    refine z_iadd hc dX12_fit_77 ?_
    refine z_iald (kI := 191) (nI9 := 96) hc tT_191 (by decide) rfl rfl (by decide) dX12_fit_78 h (fun g8 h => ?_)
    refine z_iload_n (i := 2) 1 hc dX12_fit_79 rfl rfl ?_
    obtain ⟨r9, hr9, h⟩ := z_b_some h
    refine z_callVI [.int (zI (st 191 ((6 * v5) + 4))), .int (zI (st 191 ((6 * v5) + 5))), .int (zI v2)] hc hap o_X12_lies ml_RX12_151 (fun l hl => c_X12_lies hl  hr9) (by decide) tT_168 (by decide) ⟨_, rfl, rfl⟩ rfl rfl (Nat.le_of_ble_eq_true rfl) (Nat.zero_le _) (Nat.zero_le _) dX12_fit_80 ?_
    refine z_isub hc dX12_fit_83 ?_
    refine z_i2l hc dX12_fit_84 h (fun h => ?_)
    refine z_ladd hc dX12_fit_85 ?_
    refine z_lstore_n (i := 3) [(3, .long (zJ (v3 + (r5 - r9)))), (0, .ref (a 168)), (2, .int (zI v2)), (5, .int (zI v5))] hc dX12_fit_86 rfl (by decide) rfl ?_
    refine z_iinc [(5, .int (zI (v5 + 1))), (3, .long (zJ (v3 + (r5 - r9)))), (0, .ref (a 168)), (2, .int (zI v2))] 3 hc dX12_fit_87 rfl (by decide) rfl ?_
    refine z_goto (tgt := 37) hc dX12_fit_90 (by decide) ?_
    refine z_sub [(0, .ref (a 168)), (2, .int (zI v2)), (3, .long (zJ (v3 + (r5 - r9)))), (5, .int (zI (v5 + 1)))] [2, 3, 1, 0] rfl ?_
    exact k1 _ (Option.some.inj h).symm
  · refine z_sub [(0, .ref (a 168)), (2, .int (zI v2)), (3, .long (zJ v3))] [0, 1, 2] rfl ?_
    exact k2 v3 (Option.some.inj h).symm
def J_X12_fit_b27 (v2 : Int) (st : z_St) : Option ((Int × z_St) ⊕ z_St) :=
  z_g (z32 v2 ∧ z32 3) (if v2 < 3 then
    z_b (z_iter z_F (fun q9 : (Int × Int) => J_X12_fit_b37 v2 q9.1 q9.2 st) (0, 0)) fun lx11 =>
      z_g (0 ≤ (3 * (st 168 4)) + v2 ∧ (3 * (st 168 4)) + v2 < 12) <|
      z_g (z32 (st 170 ((3 * (st 168 4)) + v2))) <|
      z_b (J_X12_down lx11 (st 168 2) st) fun r13 =>
      z_g (0 ≤ v2 ∧ v2 < 85) <|
      z_let (z_up st 185 v2 ((st 170 ((3 * (st 168 4)) + v2)) + r13)) fun st15 =>
      some (.inl (v2 + 1, st15))
  else
    some (.inr st))
set_option maxRecDepth 100000 in
set_option maxHeartbeats 4000000 in
theorem w_X12_fit_b27 {κ : zK} {a : Nat → Nat} {v2 : Int} {st : z_St} {mc9 ms9 : Nat} {o : (Int × z_St) ⊕ z_St} (hc : z_C κ RX12 cX12_fit 6 14 mc9 ms9) (hap : z_AP κ a z_N) (k1 : ∀ s9 : (Int × z_St), o = .inl s9 → z_V κ z_T z_N a 0 0 27 [(0, .ref (a 168)), (2, .int (zI s9.1))] [] s9.2) (k2 : ∀ x9 : z_St, o = .inr x9 → z_V κ z_T z_N a 0 0 129 [(0, .ref (a 168))] [] x9) (h : J_X12_fit_b27 v2 st = some o) : z_V κ z_T z_N a 0 0 27 [(0, .ref (a 168)), (2, .int (zI v2))] [] st := by
  unfold J_X12_fit_b27 at h
  refine z_iload_n (i := 2) 1 hc dX12_fit_27 rfl rfl ?_
  refine z_iconst hc dX12_fit_28 ?_
  refine z_icmp_ge (tgt := 129) hc dX12_fit_29 (by decide) h (fun c29 h => ?_) (fun c29 h => ?_)
  · refine z_lconst 0 hc dX12_fit_32 rfl ?_
    refine z_lstore_n (i := 3) [(3, .long (zJ 0)), (0, .ref (a 168)), (2, .int (zI v2))] hc dX12_fit_33 rfl (by decide) rfl ?_
    refine z_iconst hc dX12_fit_34 ?_
    refine z_istore [(5, .int (zI 0)), (3, .long (zJ 0)), (0, .ref (a 168)), (2, .int (zI v2))] hc dX12_fit_35 (by decide) rfl ?_
    obtain ⟨lx11, hlx11, h⟩ := z_b_some h
    refine z_sub [(0, .ref (a 168)), (2, .int (zI v2)), (3, .long (zJ 0)), (5, .int (zI 0))] [2, 3, 1, 0] rfl ?_
    refine z_loop (fun q9 : (Int × Int) => J_X12_fit_b37 v2 q9.1 q9.2 st) (fun q9 : (Int × Int) => z_V κ z_T z_N a 0 0 37 [(0, .ref (a 168)), (2, .int (zI v2)), (3, .long (zJ q9.1)), (5, .int (zI q9.2))] [] st) (fun x9 : Int => z_V κ z_T z_N a 0 0 93 [(0, .ref (a 168)), (2, .int (zI v2)), (3, .long (zJ x9))] [] st) (fun q9 o9 hb k1 k2 => ?_) _ _ _ hlx11 ?_
    · exact w_X12_fit_b37 hc hap k1 k2 hb
    · show z_V κ z_T z_N a 0 0 93 [(0, .ref (a 168)), (2, .int (zI v2)), (3, .long (zJ lx11))] [] st
      refine z_aload_n (i := 0) 0 hc dX12_fit_93 rfl rfl ?_
      refine z_getA (k' := 185) hc fl_RX12_66 tT_168 (by decide) rfl rfl dX12_fit_94 ?_
      refine z_iload_n (i := 2) 1 hc dX12_fit_97 rfl rfl ?_
      refine z_aload_n (i := 0) 0 hc dX12_fit_98 rfl rfl ?_
      refine z_getA (k' := 170) hc fl_RX12_13 tT_168 (by decide) rfl rfl dX12_fit_99 ?_
      refine z_iconst hc dX12_fit_102 ?_
      refine z_aload_n (i := 0) 0 hc dX12_fit_103 rfl rfl ?_
      refine z_getI (kI := 168) (jI := 4) hc fl_RX12_136 tT_168 (by decide) rfl rfl rfl dX12_fit_104 ?_
      refine z_imul hc dX12_fit_107 ?_
      refine z_iload_n (i := 2) 1 hc dX12_fit_108 rfl rfl ?_
      refine z_iadd hc dX12_fit_109 ?_
      refine z_iald (kI := 170) (nI9 := 12) hc tT_170 (by decide) rfl rfl (by decide) dX12_fit_110 h (fun g12 h => ?_)
      refine z_i2l hc dX12_fit_111 h (fun h => ?_)
      refine z_aload_n (i := 0) 0 hc dX12_fit_112 rfl rfl ?_
      refine z_lload_n (i := 3) 2 hc dX12_fit_113 rfl rfl ?_
      refine z_aload_n (i := 0) 0 hc dX12_fit_114 rfl rfl ?_
      refine z_getI (kI := 168) (jI := 2) hc fl_RX12_128 tT_168 (by decide) rfl rfl rfl dX12_fit_115 ?_
      obtain ⟨r13, hr13, h⟩ := z_b_some h
      refine z_callVJ [.long (zJ lx11), .int (zI (st 168 2))] hc hap o_X12_down ml_RX12_155 (fun l hl => c_X12_down hl  hr13) (by decide) tT_168 (by decide) ⟨_, rfl, rfl⟩ rfl rfl (Nat.le_of_ble_eq_true rfl) (Nat.zero_le _) (Nat.zero_le _) dX12_fit_118 ?_
      refine z_ladd hc dX12_fit_121 ?_
      refine z_last (kI := 185) (nI9 := 85) hc hap tT_185 (by decide) rfl rfl (by decide) dX12_fit_122 h (fun st15 h => ?_)
      refine z_iinc [(2, .int (zI (v2 + 1))), (0, .ref (a 168)), (3, .long (zJ lx11))] 1 hc dX12_fit_123 rfl (by decide) rfl ?_
      refine z_goto (tgt := 27) hc dX12_fit_126 (by decide) ?_
      refine z_sub [(0, .ref (a 168)), (2, .int (zI (v2 + 1)))] [1, 0] rfl ?_
      exact k1 _ (Option.some.inj h).symm
  · refine z_sub [(0, .ref (a 168))] [0] rfl ?_
    exact k2 st (Option.some.inj h).symm
def J_X12_fit_184 (v2 s0 s1 : Int) (st : z_St) : Option ((Int × z_St) ⊕ z_St) :=
  z_g (0 ≤ s1 ∧ s1 < 12) <|
  z_let (z_up st 170 s1 s0) fun st18 =>
  some (.inl (v2 + 1, st18))
set_option maxRecDepth 100000 in
set_option maxHeartbeats 4000000 in
theorem w_X12_fit_184 {κ : zK} {a : Nat → Nat} {v2 s0 s1 : Int} {st : z_St} {mc9 ms9 : Nat} {o : (Int × z_St) ⊕ z_St} (hc : z_C κ RX12 cX12_fit 6 14 mc9 ms9) (hap : z_AP κ a z_N) (k1 : ∀ s9 : (Int × z_St), o = .inl s9 → z_V κ z_T z_N a 0 0 131 [(0, .ref (a 168)), (2, .int (zI s9.1))] [] s9.2) (k2 : ∀ x9 : z_St, o = .inr x9 → z_V κ z_T z_N a 0 0 192 [(0, .ref (a 168))] [] x9) (h : J_X12_fit_184 v2 s0 s1 st = some o) : z_V κ z_T z_N a 0 0 184 [(0, .ref (a 168)), (2, .int (zI v2))] [.long (zJ s0), .int (zI s1), .ref (a 170)] st := by
  unfold J_X12_fit_184 at h
  refine z_l2i hc dX12_fit_184 ?_
  refine z_iast (kI := 170) (nI9 := 12) hc hap tT_170 (by decide) rfl rfl (by decide) dX12_fit_185 h (fun st18 h => ?_)
  refine z_iinc [(2, .int (zI (v2 + 1))), (0, .ref (a 168))] 1 hc dX12_fit_186 rfl (by decide) rfl ?_
  refine z_goto (tgt := 131) hc dX12_fit_189 (by decide) ?_
  refine z_sub [(0, .ref (a 168)), (2, .int (zI (v2 + 1)))] [1, 0] rfl ?_
  exact k1 _ (Option.some.inj h).symm
def J_X12_fit_b131 (v2 : Int) (st : z_St) : Option ((Int × z_St) ⊕ z_St) :=
  z_g (z32 v2 ∧ z32 3) (if v2 < 3 then
    z_g (0 ≤ v2 ∧ v2 < 85) <|
    z_g (z64 (st 185 v2) ∧ z64 (-30000)) (if st 185 v2 < (-30000) then
      J_X12_fit_184 v2 (-30000) ((3 * (st 168 4)) + v2) st
    else
      z_g (z64 (st 185 v2) ∧ z64 30000) (if 30000 < st 185 v2 then
        J_X12_fit_184 v2 30000 ((3 * (st 168 4)) + v2) st
      else
        J_X12_fit_184 v2 (st 185 v2) ((3 * (st 168 4)) + v2) st))
  else
    some (.inr st))
set_option maxRecDepth 100000 in
set_option maxHeartbeats 4000000 in
theorem w_X12_fit_b131 {κ : zK} {a : Nat → Nat} {v2 : Int} {st : z_St} {mc9 ms9 : Nat} {o : (Int × z_St) ⊕ z_St} (hc : z_C κ RX12 cX12_fit 6 14 mc9 ms9) (hap : z_AP κ a z_N) (k1 : ∀ s9 : (Int × z_St), o = .inl s9 → z_V κ z_T z_N a 0 0 131 [(0, .ref (a 168)), (2, .int (zI s9.1))] [] s9.2) (k2 : ∀ x9 : z_St, o = .inr x9 → z_V κ z_T z_N a 0 0 192 [(0, .ref (a 168))] [] x9) (h : J_X12_fit_b131 v2 st = some o) : z_V κ z_T z_N a 0 0 131 [(0, .ref (a 168)), (2, .int (zI v2))] [] st := by
  unfold J_X12_fit_b131 at h
  refine z_iload_n (i := 2) 1 hc dX12_fit_131 rfl rfl ?_
  refine z_iconst hc dX12_fit_132 ?_
  refine z_icmp_ge (tgt := 192) hc dX12_fit_133 (by decide) h (fun c133 h => ?_) (fun c133 h => ?_)
  · refine z_aload_n (i := 0) 0 hc dX12_fit_136 rfl rfl ?_
    refine z_getA (k' := 185) hc fl_RX12_66 tT_168 (by decide) rfl rfl dX12_fit_137 ?_
    refine z_iload_n (i := 2) 1 hc dX12_fit_140 rfl rfl ?_
    refine z_lald (kI := 185) (nI9 := 85) hc tT_185 (by decide) rfl rfl (by decide) dX12_fit_141 h (fun g17 h => ?_)
    refine z_lstore_n (i := 3) [(3, .long (zJ (st 185 v2))), (0, .ref (a 168)), (2, .int (zI v2))] hc dX12_fit_142 rfl (by decide) rfl ?_
    refine z_aload_n (i := 0) 1 hc dX12_fit_143 rfl rfl ?_
    refine z_getA (k' := 170) hc fl_RX12_13 tT_168 (by decide) rfl rfl dX12_fit_144 ?_
    refine z_iconst hc dX12_fit_147 ?_
    refine z_aload_n (i := 0) 1 hc dX12_fit_148 rfl rfl ?_
    refine z_getI (kI := 168) (jI := 4) hc fl_RX12_136 tT_168 (by decide) rfl rfl rfl dX12_fit_149 ?_
    refine z_imul hc dX12_fit_152 ?_
    refine z_iload_n (i := 2) 2 hc dX12_fit_153 rfl rfl ?_
    refine z_iadd hc dX12_fit_154 ?_
    refine z_lload_n (i := 3) 0 hc dX12_fit_155 rfl rfl ?_
    refine z_ldc2 (-30000) hc kc_RX12_112 dX12_fit_156 rfl ?_
    refine z_lcmp_ge (tgt := 169) hc dX12_fit_159 dX12_fit_160 (by decide) h (fun c159 h => ?_) (fun c159 h => ?_)
    · refine z_ldc2 (-30000) hc kc_RX12_112 dX12_fit_163 rfl ?_
      refine z_goto (tgt := 184) hc dX12_fit_166 (by decide) ?_
      refine z_sub [(0, .ref (a 168)), (2, .int (zI v2))] [1, 2] rfl ?_
      exact w_X12_fit_184 hc hap k1 k2 h
    · refine z_lload_n (i := 3) 0 hc dX12_fit_169 rfl rfl ?_
      refine z_ldc2 30000 hc kc_RX12_114 dX12_fit_170 rfl ?_
      refine z_lcmp_le (tgt := 183) hc dX12_fit_173 dX12_fit_174 (by decide) h (fun c173 h => ?_) (fun c173 h => ?_)
      · refine z_ldc2 30000 hc kc_RX12_114 dX12_fit_177 rfl ?_
        refine z_goto (tgt := 184) hc dX12_fit_180 (by decide) ?_
        refine z_sub [(0, .ref (a 168)), (2, .int (zI v2))] [1, 2] rfl ?_
        exact w_X12_fit_184 hc hap k1 k2 h
      · refine z_lload_n (i := 3) 0 hc dX12_fit_183 rfl rfl ?_
        refine z_sub [(0, .ref (a 168)), (2, .int (zI v2))] [1, 2] rfl ?_
        exact w_X12_fit_184 hc hap k1 k2 h
  · refine z_sub [(0, .ref (a 168))] [0] rfl ?_
    exact k2 st (Option.some.inj h).symm
def J_X12_fit_15 (s0 : Int) (st : z_St) : Option (Int × z_St) :=
  z_b (J_X12_holds s0 st) fun r3 =>
  z_g (z32 r3.1) (if r3.1 = 0 then
    z_b (z_iter z_F (fun q9 : (Int × z_St) => J_X12_fit_b27 q9.1 q9.2) (0, r3.2)) fun lx16 =>
      z_b (z_iter z_F (fun q9 : (Int × z_St) => J_X12_fit_b131 q9.1 q9.2) (0, lx16)) fun lx19 =>
        z_b (J_X12_laysRows lx19) fun r20 =>
        z_g (0 ≤ r20.1 ∧ r20.1 < 780) <|
        some (r20.2 189 r20.1, r20.2)
  else
    some ((-1), r3.2))
set_option maxRecDepth 100000 in
set_option maxHeartbeats 4000000 in
theorem w_X12_fit_15 {κ : zK} {a : Nat → Nat} {s0 : Int} {st : z_St} {o : Int × z_St} (hc : z_C κ RX12 cX12_fit 6 14 0 0) (hap : z_AP κ a z_N) (he : z_E 1 κ (some .long) z_T z_N a o.1 o.2) (h : J_X12_fit_15 s0 st = some o) : z_V κ z_T z_N a 0 0 15 [(0, .ref (a 168))] [.int (zI s0), .ref (a 168)] st := by
  unfold J_X12_fit_15 at h
  obtain ⟨r3, hr3, h⟩ := z_b_some h
  refine z_callVI [.int (zI s0)] hc hap o_X12_holds ml_RX12_131 (fun l hl => c_X12_holds hl  hr3) (by decide) tT_168 (by decide) ⟨_, rfl, rfl⟩ rfl rfl (Nat.le_of_ble_eq_true rfl) (Nat.zero_le _) (Nat.zero_le _) dX12_fit_15 ?_
  refine z_if_eq (tgt := 25) hc dX12_fit_18 (by decide) h (fun c18 h => ?_) (fun c18 h => ?_)
  · refine z_iconst hc dX12_fit_25 ?_
    refine z_istore_n (i := 2) [(2, .int (zI 0)), (0, .ref (a 168))] hc dX12_fit_26 rfl (by decide) rfl ?_
    obtain ⟨lx16, hlx16, h⟩ := z_b_some h
    refine z_sub [(0, .ref (a 168)), (2, .int (zI 0))] [1, 0] rfl ?_
    refine z_loop (fun q9 : (Int × z_St) => J_X12_fit_b27 q9.1 q9.2) (fun q9 : (Int × z_St) => z_V κ z_T z_N a 0 0 27 [(0, .ref (a 168)), (2, .int (zI q9.1))] [] q9.2) (fun x9 : z_St => z_V κ z_T z_N a 0 0 129 [(0, .ref (a 168))] [] x9) (fun q9 o9 hb k1 k2 => ?_) _ _ _ hlx16 ?_
    · exact w_X12_fit_b27 hc hap k1 k2 hb
    · show z_V κ z_T z_N a 0 0 129 [(0, .ref (a 168))] [] lx16
      refine z_iconst hc dX12_fit_129 ?_
      refine z_istore_n (i := 2) [(2, .int (zI 0)), (0, .ref (a 168))] hc dX12_fit_130 rfl (by decide) rfl ?_
      obtain ⟨lx19, hlx19, h⟩ := z_b_some h
      refine z_sub [(0, .ref (a 168)), (2, .int (zI 0))] [1, 0] rfl ?_
      refine z_loop (fun q9 : (Int × z_St) => J_X12_fit_b131 q9.1 q9.2) (fun q9 : (Int × z_St) => z_V κ z_T z_N a 0 0 131 [(0, .ref (a 168)), (2, .int (zI q9.1))] [] q9.2) (fun x9 : z_St => z_V κ z_T z_N a 0 0 192 [(0, .ref (a 168))] [] x9) (fun q9 o9 hb k1 k2 => ?_) _ _ _ hlx19 ?_
      · exact w_X12_fit_b131 hc hap k1 k2 hb
      · show z_V κ z_T z_N a 0 0 192 [(0, .ref (a 168))] [] lx19
        refine z_aload_n (i := 0) 0 hc dX12_fit_192 rfl rfl ?_
        refine z_getA (k' := 189) hc fl_RX12_78 tT_168 (by decide) rfl rfl dX12_fit_193 ?_
        refine z_aload_n (i := 0) 0 hc dX12_fit_196 rfl rfl ?_
        obtain ⟨r20, hr20, h⟩ := z_b_some h
        refine z_callVI [] hc hap o_X12_laysRows ml_RX12_159 (fun l hl => c_X12_laysRows hl  hr20) (by decide) tT_168 (by decide) ⟨_, rfl, rfl⟩ rfl rfl (Nat.le_of_ble_eq_true rfl) (Nat.zero_le _) (Nat.zero_le _) dX12_fit_197 ?_
        refine z_lald (kI := 189) (nI9 := 780) hc tT_189 (by decide) rfl rfl (by decide) dX12_fit_200 h (fun g22 h => ?_)
        have h := Option.some.inj h
        subst h
        exact z_retJ hc he dX12_fit_201
  · refine z_ldc2 (-1) hc kc_RX12_145 dX12_fit_21 rfl ?_
    have h := Option.some.inj h
    subst h
    exact z_retJ hc he dX12_fit_24
def J_X12_fit (st : z_St) : Option (Int × z_St) :=
  z_b (J_X12_laysPath st) fun r1 =>
  z_g (z32 r1.1) (if r1.1 < 0 then
    J_X12_fit_15 1 r1.2
  else
    J_X12_fit_15 0 r1.2)
set_option maxRecDepth 100000 in
set_option maxHeartbeats 4000000 in
theorem w_X12_fit {κ : zK} {a : Nat → Nat} {st : z_St} {o : Int × z_St} (hc : z_C κ RX12 cX12_fit 6 14 0 0) (hap : z_AP κ a z_N) (he : z_E 1 κ (some .long) z_T z_N a o.1 o.2) (h : J_X12_fit st = some o) : z_V κ z_T z_N a 0 0 0 [(0, .ref (a 168))] [] st := by
  unfold J_X12_fit at h
  refine z_aload_n (i := 0) 0 hc dX12_fit_0 rfl rfl ?_
  obtain ⟨r1, hr1, h⟩ := z_b_some h
  refine z_callVI [] hc hap o_X12_laysPath ml_RX12_141 (fun l hl => c_X12_laysPath hl  hr1) (by decide) tT_168 (by decide) ⟨_, rfl, rfl⟩ rfl rfl (Nat.le_of_ble_eq_true rfl) (Nat.zero_le _) (Nat.zero_le _) dX12_fit_1 ?_
  refine z_istore_n (i := 1) [(1, .int (zI r1.1)), (0, .ref (a 168))] hc dX12_fit_4 rfl (by decide) rfl ?_
  refine z_aload_n (i := 0) 1 hc dX12_fit_5 rfl rfl ?_
  refine z_iload_n (i := 1) 0 hc dX12_fit_6 rfl rfl ?_
  refine z_if_ge (tgt := 14) hc dX12_fit_7 (by decide) h (fun c7 h => ?_) (fun c7 h => ?_)
  · refine z_iconst hc dX12_fit_10 ?_
    refine z_goto (tgt := 15) hc dX12_fit_11 (by decide) ?_
    refine z_sub [(0, .ref (a 168))] [1] rfl ?_
    exact w_X12_fit_15 hc hap he h
  · refine z_iconst hc dX12_fit_14 ?_
    refine z_sub [(0, .ref (a 168))] [1] rfl ?_
    exact w_X12_fit_15 hc hap he h
set_option maxRecDepth 100000 in
set_option maxHeartbeats 4000000 in
theorem c_X12_fit {l : Launch} (hl : l.stackTraces = false) {a : Nat → Nat} {st : z_St} {o : Int × z_St} (h : J_X12_fit st = some o) : z_M 1 l yX12_fit cX12_fit 6 (some .long) 14 z_T z_N a [.ref (a 168)] st o.1 o.2 := z_of hl (by decide +kernel) (Nat.le_of_ble_eq_true rfl) (fun κ hc hap he => w_X12_fit hc hap he h)
theorem dX12_sound_0 : decode cX12_sound 0 = .ok (.aload_n 0, 1) := by decide +kernel
theorem dX12_sound_1 : decode cX12_sound 1 = .ok (.aload_n 0, 1) := by decide +kernel
theorem dX12_sound_2 : decode cX12_sound 2 = .ok (.iload_n 1, 1) := by decide +kernel
theorem dX12_sound_3 : decode cX12_sound 3 = .ok (.iload_n 2, 1) := by decide +kernel
theorem dX12_sound_4 : decode cX12_sound 4 = .ok (.iload_n 3, 1) := by decide +kernel
theorem dX12_sound_5 : decode cX12_sound 5 = .ok (.invokevirtual 124, 3) := by decide +kernel
theorem dX12_sound_8 : decode cX12_sound 8 = .ok (.ifCond .eq 17, 3) := by decide +kernel
theorem dX12_sound_11 : decode cX12_sound 11 = .ok (.aload_n 0, 1) := by decide +kernel
theorem dX12_sound_12 : decode cX12_sound 12 = .ok (.iload 4, 2) := by decide +kernel
theorem dX12_sound_14 : decode cX12_sound 14 = .ok (.i2l, 1) := by decide +kernel
theorem dX12_sound_15 : decode cX12_sound 15 = .ok (.lconst 1, 1) := by decide +kernel
theorem dX12_sound_16 : decode cX12_sound 16 = .ok (.ldc2_w 162, 3) := by decide +kernel
theorem dX12_sound_19 : decode cX12_sound 19 = .ok (.invokevirtual 116, 3) := by decide +kernel
theorem dX12_sound_22 : decode cX12_sound 22 = .ok (.ifCond .ne 7, 3) := by decide +kernel
theorem dX12_sound_25 : decode cX12_sound 25 = .ok (.iconst 1, 1) := by decide +kernel
theorem dX12_sound_26 : decode cX12_sound 26 = .ok (.goto 17, 3) := by decide +kernel
theorem dX12_sound_29 : decode cX12_sound 29 = .ok (.aload_n 0, 1) := by decide +kernel
theorem dX12_sound_30 : decode cX12_sound 30 = .ok (.getfield 164, 3) := by decide +kernel
theorem dX12_sound_33 : decode cX12_sound 33 = .ok (.bipush 6, 2) := by decide +kernel
theorem dX12_sound_35 : decode cX12_sound 35 = .ok (.if_icmp .ne 7, 3) := by decide +kernel
theorem dX12_sound_38 : decode cX12_sound 38 = .ok (.iconst 2, 1) := by decide +kernel
theorem dX12_sound_39 : decode cX12_sound 39 = .ok (.goto 4, 3) := by decide +kernel
theorem dX12_sound_42 : decode cX12_sound 42 = .ok (.iconst 0, 1) := by decide +kernel
theorem dX12_sound_43 : decode cX12_sound 43 = .ok (.invokevirtual 131, 3) := by decide +kernel
theorem dX12_sound_46 : decode cX12_sound 46 = .ok (.ifCond .eq 5, 3) := by decide +kernel
theorem dX12_sound_49 : decode cX12_sound 49 = .ok (.iconst (-1), 1) := by decide +kernel
theorem dX12_sound_50 : decode cX12_sound 50 = .ok (.ireturn, 1) := by decide +kernel
theorem dX12_sound_51 : decode cX12_sound 51 = .ok (.aload_n 0, 1) := by decide +kernel
theorem dX12_sound_52 : decode cX12_sound 52 = .ok (.getfield 16, 3) := by decide +kernel
theorem dX12_sound_55 : decode cX12_sound 55 = .ok (.iconst 3, 1) := by decide +kernel
theorem dX12_sound_56 : decode cX12_sound 56 = .ok (.aload_n 0, 1) := by decide +kernel
theorem dX12_sound_57 : decode cX12_sound 57 = .ok (.getfield 164, 3) := by decide +kernel
theorem dX12_sound_60 : decode cX12_sound 60 = .ok (.imul, 1) := by decide +kernel
theorem dX12_sound_61 : decode cX12_sound 61 = .ok (.iload_n 1, 1) := by decide +kernel
theorem dX12_sound_62 : decode cX12_sound 62 = .ok (.iastore, 1) := by decide +kernel
theorem dX12_sound_63 : decode cX12_sound 63 = .ok (.aload_n 0, 1) := by decide +kernel
theorem dX12_sound_64 : decode cX12_sound 64 = .ok (.getfield 16, 3) := by decide +kernel
theorem dX12_sound_67 : decode cX12_sound 67 = .ok (.iconst 3, 1) := by decide +kernel
theorem dX12_sound_68 : decode cX12_sound 68 = .ok (.aload_n 0, 1) := by decide +kernel
theorem dX12_sound_69 : decode cX12_sound 69 = .ok (.getfield 164, 3) := by decide +kernel
theorem dX12_sound_72 : decode cX12_sound 72 = .ok (.imul, 1) := by decide +kernel
theorem dX12_sound_73 : decode cX12_sound 73 = .ok (.iconst 1, 1) := by decide +kernel
theorem dX12_sound_74 : decode cX12_sound 74 = .ok (.iadd, 1) := by decide +kernel
theorem dX12_sound_75 : decode cX12_sound 75 = .ok (.iload_n 2, 1) := by decide +kernel
theorem dX12_sound_76 : decode cX12_sound 76 = .ok (.iastore, 1) := by decide +kernel
theorem dX12_sound_77 : decode cX12_sound 77 = .ok (.aload_n 0, 1) := by decide +kernel
theorem dX12_sound_78 : decode cX12_sound 78 = .ok (.getfield 16, 3) := by decide +kernel
theorem dX12_sound_81 : decode cX12_sound 81 = .ok (.iconst 3, 1) := by decide +kernel
theorem dX12_sound_82 : decode cX12_sound 82 = .ok (.aload_n 0, 1) := by decide +kernel
theorem dX12_sound_83 : decode cX12_sound 83 = .ok (.getfield 164, 3) := by decide +kernel
theorem dX12_sound_86 : decode cX12_sound 86 = .ok (.imul, 1) := by decide +kernel
theorem dX12_sound_87 : decode cX12_sound 87 = .ok (.iconst 2, 1) := by decide +kernel
theorem dX12_sound_88 : decode cX12_sound 88 = .ok (.iadd, 1) := by decide +kernel
theorem dX12_sound_89 : decode cX12_sound 89 = .ok (.iload_n 3, 1) := by decide +kernel
theorem dX12_sound_90 : decode cX12_sound 90 = .ok (.iastore, 1) := by decide +kernel
theorem dX12_sound_91 : decode cX12_sound 91 = .ok (.aload_n 0, 1) := by decide +kernel
theorem dX12_sound_92 : decode cX12_sound 92 = .ok (.getfield 19, 3) := by decide +kernel
theorem dX12_sound_95 : decode cX12_sound 95 = .ok (.aload_n 0, 1) := by decide +kernel
theorem dX12_sound_96 : decode cX12_sound 96 = .ok (.getfield 164, 3) := by decide +kernel
theorem dX12_sound_99 : decode cX12_sound 99 = .ok (.iload 4, 2) := by decide +kernel
theorem dX12_sound_101 : decode cX12_sound 101 = .ok (.iastore, 1) := by decide +kernel
theorem dX12_sound_102 : decode cX12_sound 102 = .ok (.aload_n 0, 1) := by decide +kernel
theorem dX12_sound_103 : decode cX12_sound 103 = .ok (.dup, 1) := by decide +kernel
theorem dX12_sound_104 : decode cX12_sound 104 = .ok (.getfield 164, 3) := by decide +kernel
theorem dX12_sound_107 : decode cX12_sound 107 = .ok (.iconst 1, 1) := by decide +kernel
theorem dX12_sound_108 : decode cX12_sound 108 = .ok (.iadd, 1) := by decide +kernel
theorem dX12_sound_109 : decode cX12_sound 109 = .ok (.putfield 164, 3) := by decide +kernel
theorem dX12_sound_112 : decode cX12_sound 112 = .ok (.aload_n 0, 1) := by decide +kernel
theorem dX12_sound_113 : decode cX12_sound 113 = .ok (.getfield 164, 3) := by decide +kernel
theorem dX12_sound_116 : decode cX12_sound 116 = .ok (.iconst 1, 1) := by decide +kernel
theorem dX12_sound_117 : decode cX12_sound 117 = .ok (.isub, 1) := by decide +kernel
theorem dX12_sound_118 : decode cX12_sound 118 = .ok (.ireturn, 1) := by decide +kernel
def J_X12_sound_43 (v1 v2 v3 v4 s0 : Int) (st : z_St) : Option (Int × z_St) :=
  z_b (J_X12_holds s0 st) fun r3 =>
  z_g (z32 r3.1) (if r3.1 = 0 then
    z_g (0 ≤ 3 * (r3.2 168 11) ∧ 3 * (r3.2 168 11) < 18) <|
    z_let (z_up r3.2 171 (3 * (r3.2 168 11)) v1) fun st5 =>
    z_g (0 ≤ (3 * (st5 168 11)) + 1 ∧ (3 * (st5 168 11)) + 1 < 18) <|
    z_let (z_up st5 171 ((3 * (st5 168 11)) + 1) v2) fun st6 =>
    z_g (0 ≤ (3 * (st6 168 11)) + 2 ∧ (3 * (st6 168 11)) + 2 < 18) <|
    z_let (z_up st6 171 ((3 * (st6 168 11)) + 2) v3) fun st7 =>
    z_g (0 ≤ st7 168 11 ∧ st7 168 11 < 6) <|
    z_let (z_up st7 172 (st7 168 11) v4) fun st8 =>
    z_let (z_up st8 168 11 ((st8 168 11) + 1)) fun st9 =>
    some ((st9 168 11) - 1, st9)
  else
    some ((-1), r3.2))
set_option maxRecDepth 100000 in
set_option maxHeartbeats 4000000 in
theorem w_X12_sound_43 {κ : zK} {a : Nat → Nat} {v1 v2 v3 v4 s0 : Int} {st : z_St} {o : Int × z_St} (hc : z_C κ RX12 cX12_sound 5 11 0 0) (hap : z_AP κ a z_N) (he : z_E 0 κ (some .int) z_T z_N a o.1 o.2) (h : J_X12_sound_43 v1 v2 v3 v4 s0 st = some o) : z_V κ z_T z_N a 0 0 43 [(0, .ref (a 168)), (1, .int (zI v1)), (2, .int (zI v2)), (3, .int (zI v3)), (4, .int (zI v4))] [.int (zI s0), .ref (a 168)] st := by
  unfold J_X12_sound_43 at h
  obtain ⟨r3, hr3, h⟩ := z_b_some h
  refine z_callVI [.int (zI s0)] hc hap o_X12_holds ml_RX12_131 (fun l hl => c_X12_holds hl  hr3) (by decide) tT_168 (by decide) ⟨_, rfl, rfl⟩ rfl rfl (Nat.le_of_ble_eq_true rfl) (Nat.zero_le _) (Nat.zero_le _) dX12_sound_43 ?_
  refine z_if_eq (tgt := 51) hc dX12_sound_46 (by decide) h (fun c46 h => ?_) (fun c46 h => ?_)
  · refine z_aload_n (i := 0) 0 hc dX12_sound_51 rfl rfl ?_
    refine z_getA (k' := 171) hc fl_RX12_16 tT_168 (by decide) rfl rfl dX12_sound_52 ?_
    refine z_iconst hc dX12_sound_55 ?_
    refine z_aload_n (i := 0) 0 hc dX12_sound_56 rfl rfl ?_
    refine z_getI (kI := 168) (jI := 11) hc fl_RX12_164 tT_168 (by decide) rfl rfl rfl dX12_sound_57 ?_
    refine z_imul hc dX12_sound_60 ?_
    refine z_iload_n (i := 1) 1 hc dX12_sound_61 rfl rfl ?_
    refine z_iast (kI := 171) (nI9 := 18) hc hap tT_171 (by decide) rfl rfl (by decide) dX12_sound_62 h (fun st5 h => ?_)
    refine z_aload_n (i := 0) 0 hc dX12_sound_63 rfl rfl ?_
    refine z_getA (k' := 171) hc fl_RX12_16 tT_168 (by decide) rfl rfl dX12_sound_64 ?_
    refine z_iconst hc dX12_sound_67 ?_
    refine z_aload_n (i := 0) 0 hc dX12_sound_68 rfl rfl ?_
    refine z_getI (kI := 168) (jI := 11) hc fl_RX12_164 tT_168 (by decide) rfl rfl rfl dX12_sound_69 ?_
    refine z_imul hc dX12_sound_72 ?_
    refine z_iconst hc dX12_sound_73 ?_
    refine z_iadd hc dX12_sound_74 ?_
    refine z_iload_n (i := 2) 2 hc dX12_sound_75 rfl rfl ?_
    refine z_iast (kI := 171) (nI9 := 18) hc hap tT_171 (by decide) rfl rfl (by decide) dX12_sound_76 h (fun st6 h => ?_)
    refine z_aload_n (i := 0) 0 hc dX12_sound_77 rfl rfl ?_
    refine z_getA (k' := 171) hc fl_RX12_16 tT_168 (by decide) rfl rfl dX12_sound_78 ?_
    refine z_iconst hc dX12_sound_81 ?_
    refine z_aload_n (i := 0) 0 hc dX12_sound_82 rfl rfl ?_
    refine z_getI (kI := 168) (jI := 11) hc fl_RX12_164 tT_168 (by decide) rfl rfl rfl dX12_sound_83 ?_
    refine z_imul hc dX12_sound_86 ?_
    refine z_iconst hc dX12_sound_87 ?_
    refine z_iadd hc dX12_sound_88 ?_
    refine z_iload_n (i := 3) 3 hc dX12_sound_89 rfl rfl ?_
    refine z_iast (kI := 171) (nI9 := 18) hc hap tT_171 (by decide) rfl rfl (by decide) dX12_sound_90 h (fun st7 h => ?_)
    refine z_aload_n (i := 0) 0 hc dX12_sound_91 rfl rfl ?_
    refine z_getA (k' := 172) hc fl_RX12_19 tT_168 (by decide) rfl rfl dX12_sound_92 ?_
    refine z_aload_n (i := 0) 0 hc dX12_sound_95 rfl rfl ?_
    refine z_getI (kI := 168) (jI := 11) hc fl_RX12_164 tT_168 (by decide) rfl rfl rfl dX12_sound_96 ?_
    refine z_iload 4 hc dX12_sound_99 rfl ?_
    refine z_iast (kI := 172) (nI9 := 6) hc hap tT_172 (by decide) rfl rfl (by decide) dX12_sound_101 h (fun st8 h => ?_)
    refine z_aload_n (i := 0) 0 hc dX12_sound_102 rfl rfl ?_
    refine z_dup hc dX12_sound_103 rfl ?_
    refine z_getI (kI := 168) (jI := 11) hc fl_RX12_164 tT_168 (by decide) rfl rfl rfl dX12_sound_104 ?_
    refine z_iconst hc dX12_sound_107 ?_
    refine z_iadd hc dX12_sound_108 ?_
    refine z_putI (kI := 168) (jI := 11) hc hap fp_RX12_164 tT_168 (by decide) rfl rfl rfl dX12_sound_109 h (fun st9 h => ?_)
    refine z_aload_n (i := 0) 0 hc dX12_sound_112 rfl rfl ?_
    refine z_getI (kI := 168) (jI := 11) hc fl_RX12_164 tT_168 (by decide) rfl rfl rfl dX12_sound_113 ?_
    refine z_iconst hc dX12_sound_116 ?_
    refine z_isub hc dX12_sound_117 ?_
    have h := Option.some.inj h
    subst h
    exact z_retI hc he dX12_sound_118
  · refine z_iconst hc dX12_sound_49 ?_
    have h := Option.some.inj h
    subst h
    exact z_retI hc he dX12_sound_50
def J_X12_sound_25 (v1 v2 v3 v4 : Int) (st : z_St) : Option (Int × z_St) :=
  J_X12_sound_43 v1 v2 v3 v4 1 st
set_option maxRecDepth 100000 in
set_option maxHeartbeats 4000000 in
theorem w_X12_sound_25 {κ : zK} {a : Nat → Nat} {v1 v2 v3 v4 : Int} {st : z_St} {o : Int × z_St} (hc : z_C κ RX12 cX12_sound 5 11 0 0) (hap : z_AP κ a z_N) (he : z_E 0 κ (some .int) z_T z_N a o.1 o.2) (h : J_X12_sound_25 v1 v2 v3 v4 st = some o) : z_V κ z_T z_N a 0 0 25 [(0, .ref (a 168)), (1, .int (zI v1)), (2, .int (zI v2)), (3, .int (zI v3)), (4, .int (zI v4))] [.ref (a 168)] st := by
  unfold J_X12_sound_25 at h
  refine z_iconst hc dX12_sound_25 ?_
  refine z_goto (tgt := 43) hc dX12_sound_26 (by decide) ?_
  refine z_sub [(0, .ref (a 168)), (1, .int (zI v1)), (2, .int (zI v2)), (3, .int (zI v3)), (4, .int (zI v4))] [0, 1, 2, 3, 4] rfl ?_
  exact w_X12_sound_43 hc hap he h
def J_X12_sound (x1 x2 x3 x4 : Int) (st : z_St) : Option (Int × z_St) :=
  z_b (J_X12_areNumbers x1 x2 x3 st) fun r1 =>
  z_g (z32 r1) (if r1 = 0 then
    J_X12_sound_25 x1 x2 x3 x4 st
  else
    z_g (z32 x4) <|
    z_b (J_X12_in x4 1 99 st) fun r10 =>
    z_g (z32 r10) (if r10 = 0 then
      J_X12_sound_25 x1 x2 x3 x4 st
    else
      z_g (z32 (st 168 11) ∧ z32 6) (if st 168 11 = 6 then
        J_X12_sound_43 x1 x2 x3 x4 2 st
      else
        J_X12_sound_43 x1 x2 x3 x4 0 st)))
set_option maxRecDepth 100000 in
set_option maxHeartbeats 4000000 in
theorem w_X12_sound {κ : zK} {a : Nat → Nat} {x1 x2 x3 x4 : Int} {st : z_St} {o : Int × z_St} (hc : z_C κ RX12 cX12_sound 5 11 0 0) (hap : z_AP κ a z_N) (he : z_E 0 κ (some .int) z_T z_N a o.1 o.2) (h : J_X12_sound x1 x2 x3 x4 st = some o) : z_V κ z_T z_N a 0 0 0 [(0, .ref (a 168)), (1, .int (zI x1)), (2, .int (zI x2)), (3, .int (zI x3)), (4, .int (zI x4))] [] st := by
  unfold J_X12_sound at h
  refine z_aload_n (i := 0) 0 hc dX12_sound_0 rfl rfl ?_
  refine z_aload_n (i := 0) 0 hc dX12_sound_1 rfl rfl ?_
  refine z_iload_n (i := 1) 1 hc dX12_sound_2 rfl rfl ?_
  refine z_iload_n (i := 2) 2 hc dX12_sound_3 rfl rfl ?_
  refine z_iload_n (i := 3) 3 hc dX12_sound_4 rfl rfl ?_
  obtain ⟨r1, hr1, h⟩ := z_b_some h
  refine z_callVI [.int (zI x1), .int (zI x2), .int (zI x3)] hc hap o_X12_areNumbers ml_RX12_124 (fun l hl => c_X12_areNumbers hl  hr1) (by decide) tT_168 (by decide) ⟨_, rfl, rfl⟩ rfl rfl (Nat.le_of_ble_eq_true rfl) (Nat.zero_le _) (Nat.zero_le _) dX12_sound_5 ?_
  refine z_if_eq (tgt := 25) hc dX12_sound_8 (by decide) h (fun c8 h => ?_) (fun c8 h => ?_)
  · refine z_sub [(0, .ref (a 168)), (1, .int (zI x1)), (2, .int (zI x2)), (3, .int (zI x3)), (4, .int (zI x4))] [0, 1, 2, 3, 4] rfl ?_
    exact w_X12_sound_25 hc hap he h
  · refine z_aload_n (i := 0) 0 hc dX12_sound_11 rfl rfl ?_
    refine z_iload 4 hc dX12_sound_12 rfl ?_
    refine z_i2l hc dX12_sound_14 h (fun h => ?_)
    refine z_lconst 1 hc dX12_sound_15 rfl ?_
    refine z_ldc2 99 hc kc_RX12_162 dX12_sound_16 rfl ?_
    obtain ⟨r10, hr10, h⟩ := z_b_some h
    refine z_callVI [.long (zJ x4), .long (zJ 1), .long (zJ 99)] hc hap o_X12_in ml_RX12_116 (fun l hl => c_X12_in hl  hr10) (by decide) tT_168 (by decide) ⟨_, rfl, rfl⟩ rfl rfl (Nat.le_of_ble_eq_true rfl) (Nat.zero_le _) (Nat.zero_le _) dX12_sound_19 ?_
    refine z_if_ne (tgt := 29) hc dX12_sound_22 (by decide) h (fun c22 h => ?_) (fun c22 h => ?_)
    · refine z_sub [(0, .ref (a 168)), (1, .int (zI x1)), (2, .int (zI x2)), (3, .int (zI x3)), (4, .int (zI x4))] [0, 1, 2, 3, 4] rfl ?_
      exact w_X12_sound_25 hc hap he h
    · refine z_aload_n (i := 0) 0 hc dX12_sound_29 rfl rfl ?_
      refine z_getI (kI := 168) (jI := 11) hc fl_RX12_164 tT_168 (by decide) rfl rfl rfl dX12_sound_30 ?_
      refine z_bipush hc dX12_sound_33 rfl ?_
      refine z_icmp_ne (tgt := 42) hc dX12_sound_35 (by decide) h (fun c35 h => ?_) (fun c35 h => ?_)
      · refine z_iconst hc dX12_sound_38 ?_
        refine z_goto (tgt := 43) hc dX12_sound_39 (by decide) ?_
        refine z_sub [(0, .ref (a 168)), (1, .int (zI x1)), (2, .int (zI x2)), (3, .int (zI x3)), (4, .int (zI x4))] [0, 1, 2, 3, 4] rfl ?_
        exact w_X12_sound_43 hc hap he h
      · refine z_iconst hc dX12_sound_42 ?_
        refine z_sub [(0, .ref (a 168)), (1, .int (zI x1)), (2, .int (zI x2)), (3, .int (zI x3)), (4, .int (zI x4))] [0, 1, 2, 3, 4] rfl ?_
        exact w_X12_sound_43 hc hap he h
set_option maxRecDepth 100000 in
set_option maxHeartbeats 4000000 in
theorem c_X12_sound {l : Launch} (hl : l.stackTraces = false) {a : Nat → Nat} {x1 x2 x3 x4 : Int} {st : z_St} {o : Int × z_St} (h : J_X12_sound x1 x2 x3 x4 st = some o) : z_M 0 l yX12_sound cX12_sound 5 (some .int) 11 z_T z_N a [.ref (a 168), .int (zI x1), .int (zI x2), .int (zI x3), .int (zI x4)] st o.1 o.2 := z_of hl (by decide +kernel) (Nat.le_of_ble_eq_true rfl) (fun κ hc hap he => w_X12_sound hc hap he h)
theorem dX12_isSound_0 : decode cX12_isSound 0 = .ok (.aload_n 0, 1) := by decide +kernel
theorem dX12_isSound_1 : decode cX12_isSound 1 = .ok (.iload_n 1, 1) := by decide +kernel
theorem dX12_isSound_2 : decode cX12_isSound 2 = .ok (.i2l, 1) := by decide +kernel
theorem dX12_isSound_3 : decode cX12_isSound 3 = .ok (.lconst 0, 1) := by decide +kernel
theorem dX12_isSound_4 : decode cX12_isSound 4 = .ok (.aload_n 0, 1) := by decide +kernel
theorem dX12_isSound_5 : decode cX12_isSound 5 = .ok (.getfield 164, 3) := by decide +kernel
theorem dX12_isSound_8 : decode cX12_isSound 8 = .ok (.iconst 1, 1) := by decide +kernel
theorem dX12_isSound_9 : decode cX12_isSound 9 = .ok (.isub, 1) := by decide +kernel
theorem dX12_isSound_10 : decode cX12_isSound 10 = .ok (.i2l, 1) := by decide +kernel
theorem dX12_isSound_11 : decode cX12_isSound 11 = .ok (.invokevirtual 116, 3) := by decide +kernel
theorem dX12_isSound_14 : decode cX12_isSound 14 = .ok (.ireturn, 1) := by decide +kernel
def J_X12_isSound (x1 : Int) (st : z_St) : Option (Int) :=
  z_g (z32 x1) <|
  z_g (z32 ((st 168 11) - 1)) <|
  z_b (J_X12_in x1 0 ((st 168 11) - 1) st) fun r1 =>
  z_g (r1 = 0 ∨ r1 = 1) <|
  some r1
set_option maxRecDepth 100000 in
set_option maxHeartbeats 4000000 in
theorem w_X12_isSound {κ : zK} {a : Nat → Nat} {x1 : Int} {st : z_St} {o : Int} (hc : z_C κ RX12 cX12_isSound 2 9 0 0) (hap : z_AP κ a z_N) (he : z_E 0 κ (some .boolean) z_T z_N a o st) (h : J_X12_isSound x1 st = some o) : z_V κ z_T z_N a 0 0 0 [(0, .ref (a 168)), (1, .int (zI x1))] [] st := by
  unfold J_X12_isSound at h
  refine z_aload_n (i := 0) 0 hc dX12_isSound_0 rfl rfl ?_
  refine z_iload_n (i := 1) 1 hc dX12_isSound_1 rfl rfl ?_
  refine z_i2l hc dX12_isSound_2 h (fun h => ?_)
  refine z_lconst 0 hc dX12_isSound_3 rfl ?_
  refine z_aload_n (i := 0) 0 hc dX12_isSound_4 rfl rfl ?_
  refine z_getI (kI := 168) (jI := 11) hc fl_RX12_164 tT_168 (by decide) rfl rfl rfl dX12_isSound_5 ?_
  refine z_iconst hc dX12_isSound_8 ?_
  refine z_isub hc dX12_isSound_9 ?_
  refine z_i2l hc dX12_isSound_10 h (fun h => ?_)
  obtain ⟨r1, hr1, h⟩ := z_b_some h
  refine z_callVI [.long (zJ x1), .long (zJ 0), .long (zJ ((st 168 11) - 1))] hc hap o_X12_in ml_RX12_116 (fun l hl => c_X12_in hl  hr1) (by decide) tT_168 (by decide) ⟨_, rfl, rfl⟩ rfl rfl (Nat.le_of_ble_eq_true rfl) (Nat.zero_le _) (Nat.zero_le _) dX12_isSound_11 ?_
  obtain ⟨hz, h⟩ := z_g_some h
  have h := Option.some.inj h
  subst h
  exact z_retZ hc he hz dX12_isSound_14
set_option maxRecDepth 100000 in
set_option maxHeartbeats 4000000 in
theorem c_X12_isSound {l : Launch} (hl : l.stackTraces = false) {a : Nat → Nat} {x1 : Int} {st : z_St} {o : Int} (h : J_X12_isSound x1 st = some o) : z_M 0 l yX12_isSound cX12_isSound 2 (some .boolean) 9 z_T z_N a [.ref (a 168), .int (zI x1)] st o st := z_of hl (by decide +kernel) (Nat.le_of_ble_eq_true rfl) (fun κ hc hap he => w_X12_isSound hc hap he h)
theorem dX12_question_0 : decode cX12_question 0 = .ok (.aload_n 0, 1) := by decide +kernel
theorem dX12_question_1 : decode cX12_question 1 = .ok (.iload_n 2, 1) := by decide +kernel
theorem dX12_question_2 : decode cX12_question 2 = .ok (.i2l, 1) := by decide +kernel
theorem dX12_question_3 : decode cX12_question 3 = .ok (.lconst 0, 1) := by decide +kernel
theorem dX12_question_4 : decode cX12_question 4 = .ok (.lconst 1, 1) := by decide +kernel
theorem dX12_question_5 : decode cX12_question 5 = .ok (.invokevirtual 116, 3) := by decide +kernel
theorem dX12_question_8 : decode cX12_question 8 = .ok (.ifCond .eq 36, 3) := by decide +kernel
theorem dX12_question_11 : decode cX12_question 11 = .ok (.aload_n 0, 1) := by decide +kernel
theorem dX12_question_12 : decode cX12_question 12 = .ok (.iload_n 3, 1) := by decide +kernel
theorem dX12_question_13 : decode cX12_question 13 = .ok (.i2l, 1) := by decide +kernel
theorem dX12_question_14 : decode cX12_question 14 = .ok (.lconst 0, 1) := by decide +kernel
theorem dX12_question_15 : decode cX12_question 15 = .ok (.ldc2_w 167, 3) := by decide +kernel
theorem dX12_question_18 : decode cX12_question 18 = .ok (.invokevirtual 116, 3) := by decide +kernel
theorem dX12_question_21 : decode cX12_question 21 = .ok (.ifCond .eq 23, 3) := by decide +kernel
theorem dX12_question_24 : decode cX12_question 24 = .ok (.aload_n 0, 1) := by decide +kernel
theorem dX12_question_25 : decode cX12_question 25 = .ok (.iload 4, 2) := by decide +kernel
theorem dX12_question_27 : decode cX12_question 27 = .ok (.i2l, 1) := by decide +kernel
theorem dX12_question_28 : decode cX12_question 28 = .ok (.ldc2_w 169, 3) := by decide +kernel
theorem dX12_question_31 : decode cX12_question 31 = .ok (.ldc2_w 171, 3) := by decide +kernel
theorem dX12_question_34 : decode cX12_question 34 = .ok (.invokevirtual 116, 3) := by decide +kernel
theorem dX12_question_37 : decode cX12_question 37 = .ok (.ifCond .eq 7, 3) := by decide +kernel
theorem dX12_question_40 : decode cX12_question 40 = .ok (.iconst 1, 1) := by decide +kernel
theorem dX12_question_41 : decode cX12_question 41 = .ok (.goto 4, 3) := by decide +kernel
theorem dX12_question_44 : decode cX12_question 44 = .ok (.iconst 0, 1) := by decide +kernel
theorem dX12_question_45 : decode cX12_question 45 = .ok (.istore 5, 2) := by decide +kernel
theorem dX12_question_47 : decode cX12_question 47 = .ok (.aload_n 0, 1) := by decide +kernel
theorem dX12_question_48 : decode cX12_question 48 = .ok (.aload_n 0, 1) := by decide +kernel
theorem dX12_question_49 : decode cX12_question 49 = .ok (.iload_n 1, 1) := by decide +kernel
theorem dX12_question_50 : decode cX12_question 50 = .ok (.invokevirtual 173, 3) := by decide +kernel
theorem dX12_question_53 : decode cX12_question 53 = .ok (.ifCond .ne 7, 3) := by decide +kernel
theorem dX12_question_56 : decode cX12_question 56 = .ok (.iconst 1, 1) := by decide +kernel
theorem dX12_question_57 : decode cX12_question 57 = .ok (.goto 27, 3) := by decide +kernel
theorem dX12_question_60 : decode cX12_question 60 = .ok (.iload 5, 2) := by decide +kernel
theorem dX12_question_62 : decode cX12_question 62 = .ok (.ifCond .ne 7, 3) := by decide +kernel
theorem dX12_question_65 : decode cX12_question 65 = .ok (.iconst 2, 1) := by decide +kernel
theorem dX12_question_66 : decode cX12_question 66 = .ok (.goto 18, 3) := by decide +kernel
theorem dX12_question_69 : decode cX12_question 69 = .ok (.aload_n 0, 1) := by decide +kernel
theorem dX12_question_70 : decode cX12_question 70 = .ok (.getfield 22, 3) := by decide +kernel
theorem dX12_question_73 : decode cX12_question 73 = .ok (.iload_n 1, 1) := by decide +kernel
theorem dX12_question_74 : decode cX12_question 74 = .ok (.iaload, 1) := by decide +kernel
theorem dX12_question_75 : decode cX12_question 75 = .ok (.iconst 3, 1) := by decide +kernel
theorem dX12_question_76 : decode cX12_question 76 = .ok (.if_icmp .ne 7, 3) := by decide +kernel
theorem dX12_question_79 : decode cX12_question 79 = .ok (.iconst 3, 1) := by decide +kernel
theorem dX12_question_80 : decode cX12_question 80 = .ok (.goto 4, 3) := by decide +kernel
theorem dX12_question_83 : decode cX12_question 83 = .ok (.iconst 0, 1) := by decide +kernel
theorem dX12_question_84 : decode cX12_question 84 = .ok (.invokevirtual 131, 3) := by decide +kernel
theorem dX12_question_87 : decode cX12_question 87 = .ok (.ifCond .eq 5, 3) := by decide +kernel
theorem dX12_question_90 : decode cX12_question 90 = .ok (.iconst (-1), 1) := by decide +kernel
theorem dX12_question_91 : decode cX12_question 91 = .ok (.ireturn, 1) := by decide +kernel
theorem dX12_question_92 : decode cX12_question 92 = .ok (.iconst 3, 1) := by decide +kernel
theorem dX12_question_93 : decode cX12_question 93 = .ok (.iload_n 1, 1) := by decide +kernel
theorem dX12_question_94 : decode cX12_question 94 = .ok (.imul, 1) := by decide +kernel
theorem dX12_question_95 : decode cX12_question 95 = .ok (.aload_n 0, 1) := by decide +kernel
theorem dX12_question_96 : decode cX12_question 96 = .ok (.getfield 22, 3) := by decide +kernel
theorem dX12_question_99 : decode cX12_question 99 = .ok (.iload_n 1, 1) := by decide +kernel
theorem dX12_question_100 : decode cX12_question 100 = .ok (.iaload, 1) := by decide +kernel
theorem dX12_question_101 : decode cX12_question 101 = .ok (.iadd, 1) := by decide +kernel
theorem dX12_question_102 : decode cX12_question 102 = .ok (.istore 6, 2) := by decide +kernel
theorem dX12_question_104 : decode cX12_question 104 = .ok (.aload_n 0, 1) := by decide +kernel
theorem dX12_question_105 : decode cX12_question 105 = .ok (.getfield 25, 3) := by decide +kernel
theorem dX12_question_108 : decode cX12_question 108 = .ok (.iload 6, 2) := by decide +kernel
theorem dX12_question_110 : decode cX12_question 110 = .ok (.iload_n 2, 1) := by decide +kernel
theorem dX12_question_111 : decode cX12_question 111 = .ok (.iastore, 1) := by decide +kernel
theorem dX12_question_112 : decode cX12_question 112 = .ok (.aload_n 0, 1) := by decide +kernel
theorem dX12_question_113 : decode cX12_question 113 = .ok (.getfield 28, 3) := by decide +kernel
theorem dX12_question_116 : decode cX12_question 116 = .ok (.iload 6, 2) := by decide +kernel
theorem dX12_question_118 : decode cX12_question 118 = .ok (.iload_n 3, 1) := by decide +kernel
theorem dX12_question_119 : decode cX12_question 119 = .ok (.iastore, 1) := by decide +kernel
theorem dX12_question_120 : decode cX12_question 120 = .ok (.aload_n 0, 1) := by decide +kernel
theorem dX12_question_121 : decode cX12_question 121 = .ok (.getfield 31, 3) := by decide +kernel
theorem dX12_question_124 : decode cX12_question 124 = .ok (.iload 6, 2) := by decide +kernel
theorem dX12_question_126 : decode cX12_question 126 = .ok (.iload 4, 2) := by decide +kernel
theorem dX12_question_128 : decode cX12_question 128 = .ok (.iastore, 1) := by decide +kernel
theorem dX12_question_129 : decode cX12_question 129 = .ok (.aload_n 0, 1) := by decide +kernel
theorem dX12_question_130 : decode cX12_question 130 = .ok (.getfield 22, 3) := by decide +kernel
theorem dX12_question_133 : decode cX12_question 133 = .ok (.iload_n 1, 1) := by decide +kernel
theorem dX12_question_134 : decode cX12_question 134 = .ok (.dup2, 1) := by decide +kernel
theorem dX12_question_135 : decode cX12_question 135 = .ok (.iaload, 1) := by decide +kernel
theorem dX12_question_136 : decode cX12_question 136 = .ok (.iconst 1, 1) := by decide +kernel
theorem dX12_question_137 : decode cX12_question 137 = .ok (.iadd, 1) := by decide +kernel
theorem dX12_question_138 : decode cX12_question 138 = .ok (.iastore, 1) := by decide +kernel
theorem dX12_question_139 : decode cX12_question 139 = .ok (.aload_n 0, 1) := by decide +kernel
theorem dX12_question_140 : decode cX12_question 140 = .ok (.getfield 22, 3) := by decide +kernel
theorem dX12_question_143 : decode cX12_question 143 = .ok (.iload_n 1, 1) := by decide +kernel
theorem dX12_question_144 : decode cX12_question 144 = .ok (.iaload, 1) := by decide +kernel
theorem dX12_question_145 : decode cX12_question 145 = .ok (.ireturn, 1) := by decide +kernel
def J_X12_question_84 (v1 v2 v3 v4 s0 : Int) (st : z_St) : Option (Int × z_St) :=
  z_b (J_X12_holds s0 st) fun r5 =>
  z_g (z32 r5.1) (if r5.1 = 0 then
    z_g (0 ≤ v1 ∧ v1 < 6) <|
    z_g (0 ≤ (3 * v1) + (r5.2 173 v1) ∧ (3 * v1) + (r5.2 173 v1) < 18) <|
    z_let (z_up r5.2 174 ((3 * v1) + (r5.2 173 v1)) v2) fun st8 =>
    z_g (0 ≤ (3 * v1) + (r5.2 173 v1) ∧ (3 * v1) + (r5.2 173 v1) < 18) <|
    z_let (z_up st8 175 ((3 * v1) + (r5.2 173 v1)) v3) fun st9 =>
    z_g (0 ≤ (3 * v1) + (r5.2 173 v1) ∧ (3 * v1) + (r5.2 173 v1) < 18) <|
    z_let (z_up st9 176 ((3 * v1) + (r5.2 173 v1)) v4) fun st10 =>
    z_g (0 ≤ v1 ∧ v1 < 6) <|
    z_g (0 ≤ v1 ∧ v1 < 6) <|
    z_let (z_up st10 173 v1 ((st10 173 v1) + 1)) fun st12 =>
    z_g (0 ≤ v1 ∧ v1 < 6) <|
    some (st12 173 v1, st12)
  else
    some ((-1), r5.2))
set_option maxRecDepth 100000 in
set_option maxHeartbeats 4000000 in
theorem w_X12_question_84 {κ : zK} {a : Nat → Nat} {v1 v2 v3 v4 s0 : Int} {st : z_St} {o : Int × z_St} (hc : z_C κ RX12 cX12_question 7 10 0 0) (hap : z_AP κ a z_N) (he : z_E 0 κ (some .int) z_T z_N a o.1 o.2) (h : J_X12_question_84 v1 v2 v3 v4 s0 st = some o) : z_V κ z_T z_N a 0 0 84 [(0, .ref (a 168)), (1, .int (zI v1)), (2, .int (zI v2)), (3, .int (zI v3)), (4, .int (zI v4))] [.int (zI s0), .ref (a 168)] st := by
  unfold J_X12_question_84 at h
  obtain ⟨r5, hr5, h⟩ := z_b_some h
  refine z_callVI [.int (zI s0)] hc hap o_X12_holds ml_RX12_131 (fun l hl => c_X12_holds hl  hr5) (by decide) tT_168 (by decide) ⟨_, rfl, rfl⟩ rfl rfl (Nat.le_of_ble_eq_true rfl) (Nat.zero_le _) (Nat.zero_le _) dX12_question_84 ?_
  refine z_if_eq (tgt := 92) hc dX12_question_87 (by decide) h (fun c87 h => ?_) (fun c87 h => ?_)
  · refine z_iconst hc dX12_question_92 ?_
    refine z_iload_n (i := 1) 1 hc dX12_question_93 rfl rfl ?_
    refine z_imul hc dX12_question_94 ?_
    refine z_aload_n (i := 0) 0 hc dX12_question_95 rfl rfl ?_
    refine z_getA (k' := 173) hc fl_RX12_22 tT_168 (by decide) rfl rfl dX12_question_96 ?_
    refine z_iload_n (i := 1) 1 hc dX12_question_99 rfl rfl ?_
    refine z_iald (kI := 173) (nI9 := 6) hc tT_173 (by decide) rfl rfl (by decide) dX12_question_100 h (fun g7 h => ?_)
    refine z_iadd hc dX12_question_101 ?_
    refine z_istore [(6, .int (zI ((3 * v1) + (r5.2 173 v1)))), (0, .ref (a 168)), (1, .int (zI v1)), (2, .int (zI v2)), (3, .int (zI v3)), (4, .int (zI v4))] hc dX12_question_102 (by decide) rfl ?_
    refine z_aload_n (i := 0) 1 hc dX12_question_104 rfl rfl ?_
    refine z_getA (k' := 174) hc fl_RX12_25 tT_168 (by decide) rfl rfl dX12_question_105 ?_
    refine z_iload 0 hc dX12_question_108 rfl ?_
    refine z_iload_n (i := 2) 3 hc dX12_question_110 rfl rfl ?_
    refine z_iast (kI := 174) (nI9 := 18) hc hap tT_174 (by decide) rfl rfl (by decide) dX12_question_111 h (fun st8 h => ?_)
    refine z_aload_n (i := 0) 1 hc dX12_question_112 rfl rfl ?_
    refine z_getA (k' := 175) hc fl_RX12_28 tT_168 (by decide) rfl rfl dX12_question_113 ?_
    refine z_iload 0 hc dX12_question_116 rfl ?_
    refine z_iload_n (i := 3) 4 hc dX12_question_118 rfl rfl ?_
    refine z_iast (kI := 175) (nI9 := 18) hc hap tT_175 (by decide) rfl rfl (by decide) dX12_question_119 h (fun st9 h => ?_)
    refine z_aload_n (i := 0) 1 hc dX12_question_120 rfl rfl ?_
    refine z_getA (k' := 176) hc fl_RX12_31 tT_168 (by decide) rfl rfl dX12_question_121 ?_
    refine z_iload 0 hc dX12_question_124 rfl ?_
    refine z_iload 5 hc dX12_question_126 rfl ?_
    refine z_iast (kI := 176) (nI9 := 18) hc hap tT_176 (by decide) rfl rfl (by decide) dX12_question_128 h (fun st10 h => ?_)
    refine z_aload_n (i := 0) 1 hc dX12_question_129 rfl rfl ?_
    refine z_getA (k' := 173) hc fl_RX12_22 tT_168 (by decide) rfl rfl dX12_question_130 ?_
    refine z_iload_n (i := 1) 2 hc dX12_question_133 rfl rfl ?_
    refine z_dup2 hc dX12_question_134 rfl rfl ?_
    refine z_iald (kI := 173) (nI9 := 6) hc tT_173 (by decide) rfl rfl (by decide) dX12_question_135 h (fun g11 h => ?_)
    refine z_iconst hc dX12_question_136 ?_
    refine z_iadd hc dX12_question_137 ?_
    refine z_iast (kI := 173) (nI9 := 6) hc hap tT_173 (by decide) rfl rfl (by decide) dX12_question_138 h (fun st12 h => ?_)
    refine z_aload_n (i := 0) 1 hc dX12_question_139 rfl rfl ?_
    refine z_getA (k' := 173) hc fl_RX12_22 tT_168 (by decide) rfl rfl dX12_question_140 ?_
    refine z_iload_n (i := 1) 2 hc dX12_question_143 rfl rfl ?_
    refine z_iald (kI := 173) (nI9 := 6) hc tT_173 (by decide) rfl rfl (by decide) dX12_question_144 h (fun g13 h => ?_)
    have h := Option.some.inj h
    subst h
    exact z_retI hc he dX12_question_145
  · refine z_iconst hc dX12_question_90 ?_
    have h := Option.some.inj h
    subst h
    exact z_retI hc he dX12_question_91
def J_X12_question_45 (v1 v2 v3 v4 s0 : Int) (st : z_St) : Option (Int × z_St) :=
  z_b (J_X12_isSound v1 st) fun r3 =>
  z_g (z32 r3) (if r3 = 0 then
    J_X12_question_84 v1 v2 v3 v4 1 st
  else
    z_g (z32 s0) (if s0 = 0 then
      J_X12_question_84 v1 v2 v3 v4 2 st
    else
      z_g (0 ≤ v1 ∧ v1 < 6) <|
      z_g (z32 (st 173 v1) ∧ z32 3) (if st 173 v1 = 3 then
        J_X12_question_84 v1 v2 v3 v4 3 st
      else
        J_X12_question_84 v1 v2 v3 v4 0 st)))
set_option maxRecDepth 100000 in
set_option maxHeartbeats 4000000 in
theorem w_X12_question_45 {κ : zK} {a : Nat → Nat} {v1 v2 v3 v4 s0 : Int} {st : z_St} {o : Int × z_St} (hc : z_C κ RX12 cX12_question 7 10 0 0) (hap : z_AP κ a z_N) (he : z_E 0 κ (some .int) z_T z_N a o.1 o.2) (h : J_X12_question_45 v1 v2 v3 v4 s0 st = some o) : z_V κ z_T z_N a 0 0 45 [(0, .ref (a 168)), (1, .int (zI v1)), (2, .int (zI v2)), (3, .int (zI v3)), (4, .int (zI v4))] [.int (zI s0)] st := by
  unfold J_X12_question_45 at h
  refine z_istore [(5, .int (zI s0)), (0, .ref (a 168)), (1, .int (zI v1)), (2, .int (zI v2)), (3, .int (zI v3)), (4, .int (zI v4))] hc dX12_question_45 (by decide) rfl ?_
  refine z_aload_n (i := 0) 1 hc dX12_question_47 rfl rfl ?_
  refine z_aload_n (i := 0) 1 hc dX12_question_48 rfl rfl ?_
  refine z_iload_n (i := 1) 2 hc dX12_question_49 rfl rfl ?_
  obtain ⟨r3, hr3, h⟩ := z_b_some h
  refine z_callVI [.int (zI v1)] hc hap o_X12_isSound ml_RX12_173 (fun l hl => c_X12_isSound hl  hr3) (by decide) tT_168 (by decide) ⟨_, rfl, rfl⟩ rfl rfl (Nat.le_of_ble_eq_true rfl) (Nat.zero_le _) (Nat.zero_le _) dX12_question_50 ?_
  refine z_if_ne (tgt := 60) hc dX12_question_53 (by decide) h (fun c53 h => ?_) (fun c53 h => ?_)
  · refine z_iconst hc dX12_question_56 ?_
    refine z_goto (tgt := 84) hc dX12_question_57 (by decide) ?_
    refine z_sub [(0, .ref (a 168)), (1, .int (zI v1)), (2, .int (zI v2)), (3, .int (zI v3)), (4, .int (zI v4))] [1, 2, 3, 4, 5] rfl ?_
    exact w_X12_question_84 hc hap he h
  · refine z_iload 0 hc dX12_question_60 rfl ?_
    refine z_if_ne (tgt := 69) hc dX12_question_62 (by decide) h (fun c62 h => ?_) (fun c62 h => ?_)
    · refine z_iconst hc dX12_question_65 ?_
      refine z_goto (tgt := 84) hc dX12_question_66 (by decide) ?_
      refine z_sub [(0, .ref (a 168)), (1, .int (zI v1)), (2, .int (zI v2)), (3, .int (zI v3)), (4, .int (zI v4))] [1, 2, 3, 4, 5] rfl ?_
      exact w_X12_question_84 hc hap he h
    · refine z_aload_n (i := 0) 1 hc dX12_question_69 rfl rfl ?_
      refine z_getA (k' := 173) hc fl_RX12_22 tT_168 (by decide) rfl rfl dX12_question_70 ?_
      refine z_iload_n (i := 1) 2 hc dX12_question_73 rfl rfl ?_
      refine z_iald (kI := 173) (nI9 := 6) hc tT_173 (by decide) rfl rfl (by decide) dX12_question_74 h (fun g14 h => ?_)
      refine z_iconst hc dX12_question_75 ?_
      refine z_icmp_ne (tgt := 83) hc dX12_question_76 (by decide) h (fun c76 h => ?_) (fun c76 h => ?_)
      · refine z_iconst hc dX12_question_79 ?_
        refine z_goto (tgt := 84) hc dX12_question_80 (by decide) ?_
        refine z_sub [(0, .ref (a 168)), (1, .int (zI v1)), (2, .int (zI v2)), (3, .int (zI v3)), (4, .int (zI v4))] [1, 2, 3, 4, 5] rfl ?_
        exact w_X12_question_84 hc hap he h
      · refine z_iconst hc dX12_question_83 ?_
        refine z_sub [(0, .ref (a 168)), (1, .int (zI v1)), (2, .int (zI v2)), (3, .int (zI v3)), (4, .int (zI v4))] [1, 2, 3, 4, 5] rfl ?_
        exact w_X12_question_84 hc hap he h
def J_X12_question_44 (v1 v2 v3 v4 : Int) (st : z_St) : Option (Int × z_St) :=
  J_X12_question_45 v1 v2 v3 v4 0 st
set_option maxRecDepth 100000 in
set_option maxHeartbeats 4000000 in
theorem w_X12_question_44 {κ : zK} {a : Nat → Nat} {v1 v2 v3 v4 : Int} {st : z_St} {o : Int × z_St} (hc : z_C κ RX12 cX12_question 7 10 0 0) (hap : z_AP κ a z_N) (he : z_E 0 κ (some .int) z_T z_N a o.1 o.2) (h : J_X12_question_44 v1 v2 v3 v4 st = some o) : z_V κ z_T z_N a 0 0 44 [(0, .ref (a 168)), (1, .int (zI v1)), (2, .int (zI v2)), (3, .int (zI v3)), (4, .int (zI v4))] [] st := by
  unfold J_X12_question_44 at h
  refine z_iconst hc dX12_question_44 ?_
  refine z_sub [(0, .ref (a 168)), (1, .int (zI v1)), (2, .int (zI v2)), (3, .int (zI v3)), (4, .int (zI v4))] [0, 1, 2, 3, 4] rfl ?_
  exact w_X12_question_45 hc hap he h
def J_X12_question (x1 x2 x3 x4 : Int) (st : z_St) : Option (Int × z_St) :=
  z_g (z32 x2) <|
  z_b (J_X12_in x2 0 1 st) fun r1 =>
  z_g (z32 r1) (if r1 = 0 then
    J_X12_question_44 x1 x2 x3 x4 st
  else
    z_g (z32 x3) <|
    z_b (J_X12_in x3 0 63 st) fun r15 =>
    z_g (z32 r15) (if r15 = 0 then
      J_X12_question_44 x1 x2 x3 x4 st
    else
      z_g (z32 x4) <|
      z_b (J_X12_in x4 (-3000) 3000 st) fun r17 =>
      z_g (z32 r17) (if r17 = 0 then
        J_X12_question_44 x1 x2 x3 x4 st
      else
        J_X12_question_45 x1 x2 x3 x4 1 st)))
set_option maxRecDepth 100000 in
set_option maxHeartbeats 4000000 in
theorem w_X12_question {κ : zK} {a : Nat → Nat} {x1 x2 x3 x4 : Int} {st : z_St} {o : Int × z_St} (hc : z_C κ RX12 cX12_question 7 10 0 0) (hap : z_AP κ a z_N) (he : z_E 0 κ (some .int) z_T z_N a o.1 o.2) (h : J_X12_question x1 x2 x3 x4 st = some o) : z_V κ z_T z_N a 0 0 0 [(0, .ref (a 168)), (1, .int (zI x1)), (2, .int (zI x2)), (3, .int (zI x3)), (4, .int (zI x4))] [] st := by
  unfold J_X12_question at h
  refine z_aload_n (i := 0) 0 hc dX12_question_0 rfl rfl ?_
  refine z_iload_n (i := 2) 2 hc dX12_question_1 rfl rfl ?_
  refine z_i2l hc dX12_question_2 h (fun h => ?_)
  refine z_lconst 0 hc dX12_question_3 rfl ?_
  refine z_lconst 1 hc dX12_question_4 rfl ?_
  obtain ⟨r1, hr1, h⟩ := z_b_some h
  refine z_callVI [.long (zJ x2), .long (zJ 0), .long (zJ 1)] hc hap o_X12_in ml_RX12_116 (fun l hl => c_X12_in hl  hr1) (by decide) tT_168 (by decide) ⟨_, rfl, rfl⟩ rfl rfl (Nat.le_of_ble_eq_true rfl) (Nat.zero_le _) (Nat.zero_le _) dX12_question_5 ?_
  refine z_if_eq (tgt := 44) hc dX12_question_8 (by decide) h (fun c8 h => ?_) (fun c8 h => ?_)
  · refine z_sub [(0, .ref (a 168)), (1, .int (zI x1)), (2, .int (zI x2)), (3, .int (zI x3)), (4, .int (zI x4))] [0, 1, 2, 3, 4] rfl ?_
    exact w_X12_question_44 hc hap he h
  · refine z_aload_n (i := 0) 0 hc dX12_question_11 rfl rfl ?_
    refine z_iload_n (i := 3) 3 hc dX12_question_12 rfl rfl ?_
    refine z_i2l hc dX12_question_13 h (fun h => ?_)
    refine z_lconst 0 hc dX12_question_14 rfl ?_
    refine z_ldc2 63 hc kc_RX12_167 dX12_question_15 rfl ?_
    obtain ⟨r15, hr15, h⟩ := z_b_some h
    refine z_callVI [.long (zJ x3), .long (zJ 0), .long (zJ 63)] hc hap o_X12_in ml_RX12_116 (fun l hl => c_X12_in hl  hr15) (by decide) tT_168 (by decide) ⟨_, rfl, rfl⟩ rfl rfl (Nat.le_of_ble_eq_true rfl) (Nat.zero_le _) (Nat.zero_le _) dX12_question_18 ?_
    refine z_if_eq (tgt := 44) hc dX12_question_21 (by decide) h (fun c21 h => ?_) (fun c21 h => ?_)
    · refine z_sub [(0, .ref (a 168)), (1, .int (zI x1)), (2, .int (zI x2)), (3, .int (zI x3)), (4, .int (zI x4))] [0, 1, 2, 3, 4] rfl ?_
      exact w_X12_question_44 hc hap he h
    · refine z_aload_n (i := 0) 0 hc dX12_question_24 rfl rfl ?_
      refine z_iload 4 hc dX12_question_25 rfl ?_
      refine z_i2l hc dX12_question_27 h (fun h => ?_)
      refine z_ldc2 (-3000) hc kc_RX12_169 dX12_question_28 rfl ?_
      refine z_ldc2 3000 hc kc_RX12_171 dX12_question_31 rfl ?_
      obtain ⟨r17, hr17, h⟩ := z_b_some h
      refine z_callVI [.long (zJ x4), .long (zJ (-3000)), .long (zJ 3000)] hc hap o_X12_in ml_RX12_116 (fun l hl => c_X12_in hl  hr17) (by decide) tT_168 (by decide) ⟨_, rfl, rfl⟩ rfl rfl (Nat.le_of_ble_eq_true rfl) (Nat.zero_le _) (Nat.zero_le _) dX12_question_34 ?_
      refine z_if_eq (tgt := 44) hc dX12_question_37 (by decide) h (fun c37 h => ?_) (fun c37 h => ?_)
      · refine z_sub [(0, .ref (a 168)), (1, .int (zI x1)), (2, .int (zI x2)), (3, .int (zI x3)), (4, .int (zI x4))] [0, 1, 2, 3, 4] rfl ?_
        exact w_X12_question_44 hc hap he h
      · refine z_iconst hc dX12_question_40 ?_
        refine z_goto (tgt := 45) hc dX12_question_41 (by decide) ?_
        refine z_sub [(0, .ref (a 168)), (1, .int (zI x1)), (2, .int (zI x2)), (3, .int (zI x3)), (4, .int (zI x4))] [0, 1, 2, 3, 4] rfl ?_
        exact w_X12_question_45 hc hap he h
set_option maxRecDepth 100000 in
set_option maxHeartbeats 4000000 in
theorem c_X12_question {l : Launch} (hl : l.stackTraces = false) {a : Nat → Nat} {x1 x2 x3 x4 : Int} {st : z_St} {o : Int × z_St} (h : J_X12_question x1 x2 x3 x4 st = some o) : z_M 0 l yX12_question cX12_question 7 (some .int) 10 z_T z_N a [.ref (a 168), .int (zI x1), .int (zI x2), .int (zI x3), .int (zI x4)] st o.1 o.2 := z_of hl (by decide +kernel) (Nat.le_of_ble_eq_true rfl) (fun κ hc hap he => w_X12_question hc hap he h)
theorem dX12_type_0 : decode cX12_type 0 = .ok (.aload_n 0, 1) := by decide +kernel
theorem dX12_type_1 : decode cX12_type 1 = .ok (.aload_n 0, 1) := by decide +kernel
theorem dX12_type_2 : decode cX12_type 2 = .ok (.iload_n 1, 1) := by decide +kernel
theorem dX12_type_3 : decode cX12_type 3 = .ok (.i2l, 1) := by decide +kernel
theorem dX12_type_4 : decode cX12_type 4 = .ok (.ldc2_w 176, 3) := by decide +kernel
theorem dX12_type_7 : decode cX12_type 7 = .ok (.ldc2_w 178, 3) := by decide +kernel
theorem dX12_type_10 : decode cX12_type 10 = .ok (.invokevirtual 116, 3) := by decide +kernel
theorem dX12_type_13 : decode cX12_type 13 = .ok (.ifCond .ne 7, 3) := by decide +kernel
theorem dX12_type_16 : decode cX12_type 16 = .ok (.iconst 1, 1) := by decide +kernel
theorem dX12_type_17 : decode cX12_type 17 = .ok (.goto 16, 3) := by decide +kernel
theorem dX12_type_20 : decode cX12_type 20 = .ok (.aload_n 0, 1) := by decide +kernel
theorem dX12_type_21 : decode cX12_type 21 = .ok (.getfield 180, 3) := by decide +kernel
theorem dX12_type_24 : decode cX12_type 24 = .ok (.iconst 4, 1) := by decide +kernel
theorem dX12_type_25 : decode cX12_type 25 = .ok (.if_icmp .ne 7, 3) := by decide +kernel
theorem dX12_type_28 : decode cX12_type 28 = .ok (.iconst 2, 1) := by decide +kernel
theorem dX12_type_29 : decode cX12_type 29 = .ok (.goto 4, 3) := by decide +kernel
theorem dX12_type_32 : decode cX12_type 32 = .ok (.iconst 0, 1) := by decide +kernel
theorem dX12_type_33 : decode cX12_type 33 = .ok (.invokevirtual 131, 3) := by decide +kernel
theorem dX12_type_36 : decode cX12_type 36 = .ok (.ifCond .eq 5, 3) := by decide +kernel
theorem dX12_type_39 : decode cX12_type 39 = .ok (.iconst (-1), 1) := by decide +kernel
theorem dX12_type_40 : decode cX12_type 40 = .ok (.ireturn, 1) := by decide +kernel
theorem dX12_type_41 : decode cX12_type 41 = .ok (.aload_n 0, 1) := by decide +kernel
theorem dX12_type_42 : decode cX12_type 42 = .ok (.getfield 34, 3) := by decide +kernel
theorem dX12_type_45 : decode cX12_type 45 = .ok (.aload_n 0, 1) := by decide +kernel
theorem dX12_type_46 : decode cX12_type 46 = .ok (.getfield 180, 3) := by decide +kernel
theorem dX12_type_49 : decode cX12_type 49 = .ok (.iload_n 1, 1) := by decide +kernel
theorem dX12_type_50 : decode cX12_type 50 = .ok (.bipush 97, 2) := by decide +kernel
theorem dX12_type_52 : decode cX12_type 52 = .ok (.isub, 1) := by decide +kernel
theorem dX12_type_53 : decode cX12_type 53 = .ok (.iastore, 1) := by decide +kernel
theorem dX12_type_54 : decode cX12_type 54 = .ok (.aload_n 0, 1) := by decide +kernel
theorem dX12_type_55 : decode cX12_type 55 = .ok (.dup, 1) := by decide +kernel
theorem dX12_type_56 : decode cX12_type 56 = .ok (.getfield 180, 3) := by decide +kernel
theorem dX12_type_59 : decode cX12_type 59 = .ok (.iconst 1, 1) := by decide +kernel
theorem dX12_type_60 : decode cX12_type 60 = .ok (.iadd, 1) := by decide +kernel
theorem dX12_type_61 : decode cX12_type 61 = .ok (.putfield 180, 3) := by decide +kernel
theorem dX12_type_64 : decode cX12_type 64 = .ok (.aload_n 0, 1) := by decide +kernel
theorem dX12_type_65 : decode cX12_type 65 = .ok (.getfield 180, 3) := by decide +kernel
theorem dX12_type_68 : decode cX12_type 68 = .ok (.ireturn, 1) := by decide +kernel
def J_X12_type_33 (v1 s0 : Int) (st : z_St) : Option (Int × z_St) :=
  z_b (J_X12_holds s0 st) fun r3 =>
  z_g (z32 r3.1) (if r3.1 = 0 then
    z_g (0 ≤ r3.2 168 13 ∧ r3.2 168 13 < 4) <|
    z_let (z_up r3.2 177 (r3.2 168 13) (v1 - 97)) fun st5 =>
    z_let (z_up st5 168 13 ((st5 168 13) + 1)) fun st6 =>
    some (st6 168 13, st6)
  else
    some ((-1), r3.2))
set_option maxRecDepth 100000 in
set_option maxHeartbeats 4000000 in
theorem w_X12_type_33 {κ : zK} {a : Nat → Nat} {v1 s0 : Int} {st : z_St} {o : Int × z_St} (hc : z_C κ RX12 cX12_type 2 9 0 0) (hap : z_AP κ a z_N) (he : z_E 0 κ (some .int) z_T z_N a o.1 o.2) (h : J_X12_type_33 v1 s0 st = some o) : z_V κ z_T z_N a 0 0 33 [(0, .ref (a 168)), (1, .int (zI v1))] [.int (zI s0), .ref (a 168)] st := by
  unfold J_X12_type_33 at h
  obtain ⟨r3, hr3, h⟩ := z_b_some h
  refine z_callVI [.int (zI s0)] hc hap o_X12_holds ml_RX12_131 (fun l hl => c_X12_holds hl  hr3) (by decide) tT_168 (by decide) ⟨_, rfl, rfl⟩ rfl rfl (Nat.le_of_ble_eq_true rfl) (Nat.zero_le _) (Nat.zero_le _) dX12_type_33 ?_
  refine z_if_eq (tgt := 41) hc dX12_type_36 (by decide) h (fun c36 h => ?_) (fun c36 h => ?_)
  · refine z_aload_n (i := 0) 0 hc dX12_type_41 rfl rfl ?_
    refine z_getA (k' := 177) hc fl_RX12_34 tT_168 (by decide) rfl rfl dX12_type_42 ?_
    refine z_aload_n (i := 0) 0 hc dX12_type_45 rfl rfl ?_
    refine z_getI (kI := 168) (jI := 13) hc fl_RX12_180 tT_168 (by decide) rfl rfl rfl dX12_type_46 ?_
    refine z_iload_n (i := 1) 1 hc dX12_type_49 rfl rfl ?_
    refine z_bipush hc dX12_type_50 rfl ?_
    refine z_isub hc dX12_type_52 ?_
    refine z_iast (kI := 177) (nI9 := 4) hc hap tT_177 (by decide) rfl rfl (by decide) dX12_type_53 h (fun st5 h => ?_)
    refine z_aload_n (i := 0) 0 hc dX12_type_54 rfl rfl ?_
    refine z_dup hc dX12_type_55 rfl ?_
    refine z_getI (kI := 168) (jI := 13) hc fl_RX12_180 tT_168 (by decide) rfl rfl rfl dX12_type_56 ?_
    refine z_iconst hc dX12_type_59 ?_
    refine z_iadd hc dX12_type_60 ?_
    refine z_putI (kI := 168) (jI := 13) hc hap fp_RX12_180 tT_168 (by decide) rfl rfl rfl dX12_type_61 h (fun st6 h => ?_)
    refine z_aload_n (i := 0) 0 hc dX12_type_64 rfl rfl ?_
    refine z_getI (kI := 168) (jI := 13) hc fl_RX12_180 tT_168 (by decide) rfl rfl rfl dX12_type_65 ?_
    have h := Option.some.inj h
    subst h
    exact z_retI hc he dX12_type_68
  · refine z_iconst hc dX12_type_39 ?_
    have h := Option.some.inj h
    subst h
    exact z_retI hc he dX12_type_40
def J_X12_type (x1 : Int) (st : z_St) : Option (Int × z_St) :=
  z_g (z32 x1) <|
  z_b (J_X12_in x1 97 102 st) fun r1 =>
  z_g (z32 r1) (if r1 = 0 then
    J_X12_type_33 x1 1 st
  else
    z_g (z32 (st 168 13) ∧ z32 4) (if st 168 13 = 4 then
      J_X12_type_33 x1 2 st
    else
      J_X12_type_33 x1 0 st))
set_option maxRecDepth 100000 in
set_option maxHeartbeats 4000000 in
theorem w_X12_type {κ : zK} {a : Nat → Nat} {x1 : Int} {st : z_St} {o : Int × z_St} (hc : z_C κ RX12 cX12_type 2 9 0 0) (hap : z_AP κ a z_N) (he : z_E 0 κ (some .int) z_T z_N a o.1 o.2) (h : J_X12_type x1 st = some o) : z_V κ z_T z_N a 0 0 0 [(0, .ref (a 168)), (1, .int (zI x1))] [] st := by
  unfold J_X12_type at h
  refine z_aload_n (i := 0) 0 hc dX12_type_0 rfl rfl ?_
  refine z_aload_n (i := 0) 0 hc dX12_type_1 rfl rfl ?_
  refine z_iload_n (i := 1) 1 hc dX12_type_2 rfl rfl ?_
  refine z_i2l hc dX12_type_3 h (fun h => ?_)
  refine z_ldc2 97 hc kc_RX12_176 dX12_type_4 rfl ?_
  refine z_ldc2 102 hc kc_RX12_178 dX12_type_7 rfl ?_
  obtain ⟨r1, hr1, h⟩ := z_b_some h
  refine z_callVI [.long (zJ x1), .long (zJ 97), .long (zJ 102)] hc hap o_X12_in ml_RX12_116 (fun l hl => c_X12_in hl  hr1) (by decide) tT_168 (by decide) ⟨_, rfl, rfl⟩ rfl rfl (Nat.le_of_ble_eq_true rfl) (Nat.zero_le _) (Nat.zero_le _) dX12_type_10 ?_
  refine z_if_ne (tgt := 20) hc dX12_type_13 (by decide) h (fun c13 h => ?_) (fun c13 h => ?_)
  · refine z_iconst hc dX12_type_16 ?_
    refine z_goto (tgt := 33) hc dX12_type_17 (by decide) ?_
    refine z_sub [(0, .ref (a 168)), (1, .int (zI x1))] [0, 1] rfl ?_
    exact w_X12_type_33 hc hap he h
  · refine z_aload_n (i := 0) 0 hc dX12_type_20 rfl rfl ?_
    refine z_getI (kI := 168) (jI := 13) hc fl_RX12_180 tT_168 (by decide) rfl rfl rfl dX12_type_21 ?_
    refine z_iconst hc dX12_type_24 ?_
    refine z_icmp_ne (tgt := 32) hc dX12_type_25 (by decide) h (fun c25 h => ?_) (fun c25 h => ?_)
    · refine z_iconst hc dX12_type_28 ?_
      refine z_goto (tgt := 33) hc dX12_type_29 (by decide) ?_
      refine z_sub [(0, .ref (a 168)), (1, .int (zI x1))] [0, 1] rfl ?_
      exact w_X12_type_33 hc hap he h
    · refine z_iconst hc dX12_type_32 ?_
      refine z_sub [(0, .ref (a 168)), (1, .int (zI x1))] [0, 1] rfl ?_
      exact w_X12_type_33 hc hap he h
set_option maxRecDepth 100000 in
set_option maxHeartbeats 4000000 in
theorem c_X12_type {l : Launch} (hl : l.stackTraces = false) {a : Nat → Nat} {x1 : Int} {st : z_St} {o : Int × z_St} (h : J_X12_type x1 st = some o) : z_M 0 l yX12_type cX12_type 2 (some .int) 9 z_T z_N a [.ref (a 168), .int (zI x1)] st o.1 o.2 := z_of hl (by decide +kernel) (Nat.le_of_ble_eq_true rfl) (fun κ hc hap he => w_X12_type hc hap he h)
theorem dX12_isSaid_0 : decode cX12_isSaid 0 = .ok (.aload_n 0, 1) := by decide +kernel
theorem dX12_isSaid_1 : decode cX12_isSaid 1 = .ok (.getfield 180, 3) := by decide +kernel
theorem dX12_isSaid_4 : decode cX12_isSaid 4 = .ok (.ifCond .le 7, 3) := by decide +kernel
theorem dX12_isSaid_7 : decode cX12_isSaid 7 = .ok (.iconst 1, 1) := by decide +kernel
theorem dX12_isSaid_8 : decode cX12_isSaid 8 = .ok (.goto 4, 3) := by decide +kernel
theorem dX12_isSaid_11 : decode cX12_isSaid 11 = .ok (.iconst 0, 1) := by decide +kernel
theorem dX12_isSaid_12 : decode cX12_isSaid 12 = .ok (.istore_n 1, 1) := by decide +kernel
theorem dX12_isSaid_13 : decode cX12_isSaid 13 = .ok (.iconst 0, 1) := by decide +kernel
theorem dX12_isSaid_14 : decode cX12_isSaid 14 = .ok (.istore_n 2, 1) := by decide +kernel
theorem dX12_isSaid_15 : decode cX12_isSaid 15 = .ok (.iload_n 2, 1) := by decide +kernel
theorem dX12_isSaid_16 : decode cX12_isSaid 16 = .ok (.aload_n 0, 1) := by decide +kernel
theorem dX12_isSaid_17 : decode cX12_isSaid 17 = .ok (.getfield 180, 3) := by decide +kernel
theorem dX12_isSaid_20 : decode cX12_isSaid 20 = .ok (.if_icmp .ge 32, 3) := by decide +kernel
theorem dX12_isSaid_23 : decode cX12_isSaid 23 = .ok (.iload_n 1, 1) := by decide +kernel
theorem dX12_isSaid_24 : decode cX12_isSaid 24 = .ok (.ifCond .eq 20, 3) := by decide +kernel
theorem dX12_isSaid_27 : decode cX12_isSaid 27 = .ok (.aload_n 0, 1) := by decide +kernel
theorem dX12_isSaid_28 : decode cX12_isSaid 28 = .ok (.getfield 34, 3) := by decide +kernel
theorem dX12_isSaid_31 : decode cX12_isSaid 31 = .ok (.iload_n 2, 1) := by decide +kernel
theorem dX12_isSaid_32 : decode cX12_isSaid 32 = .ok (.iaload, 1) := by decide +kernel
theorem dX12_isSaid_33 : decode cX12_isSaid 33 = .ok (.aload_n 0, 1) := by decide +kernel
theorem dX12_isSaid_34 : decode cX12_isSaid 34 = .ok (.getfield 164, 3) := by decide +kernel
theorem dX12_isSaid_37 : decode cX12_isSaid 37 = .ok (.if_icmp .ge 7, 3) := by decide +kernel
theorem dX12_isSaid_40 : decode cX12_isSaid 40 = .ok (.iconst 1, 1) := by decide +kernel
theorem dX12_isSaid_41 : decode cX12_isSaid 41 = .ok (.goto 4, 3) := by decide +kernel
theorem dX12_isSaid_44 : decode cX12_isSaid 44 = .ok (.iconst 0, 1) := by decide +kernel
theorem dX12_isSaid_45 : decode cX12_isSaid 45 = .ok (.istore_n 1, 1) := by decide +kernel
theorem dX12_isSaid_46 : decode cX12_isSaid 46 = .ok (.iinc 2 1, 3) := by decide +kernel
theorem dX12_isSaid_49 : decode cX12_isSaid 49 = .ok (.goto (-34), 3) := by decide +kernel
theorem dX12_isSaid_52 : decode cX12_isSaid 52 = .ok (.iload_n 1, 1) := by decide +kernel
theorem dX12_isSaid_53 : decode cX12_isSaid 53 = .ok (.ireturn, 1) := by decide +kernel
def J_X12_isSaid_45 (v2 s0 : Int) (st : z_St) : Option ((Int × Int) ⊕ Int) :=
  some (.inl (s0, v2 + 1))
set_option maxRecDepth 100000 in
set_option maxHeartbeats 4000000 in
theorem w_X12_isSaid_45 {κ : zK} {a : Nat → Nat} {v2 s0 : Int} {st : z_St} {mc9 ms9 : Nat} {o : (Int × Int) ⊕ Int} (hc : z_C κ RX12 cX12_isSaid 3 8 mc9 ms9) (hap : z_AP κ a z_N) (k1 : ∀ s9 : (Int × Int), o = .inl s9 → z_V κ z_T z_N a 0 0 15 [(0, .ref (a 168)), (1, .int (zI s9.1)), (2, .int (zI s9.2))] [] st) (k2 : ∀ x9 : Int, o = .inr x9 → z_V κ z_T z_N a 0 0 52 [(1, .int (zI x9))] [] st) (h : J_X12_isSaid_45 v2 s0 st = some o) : z_V κ z_T z_N a 0 0 45 [(0, .ref (a 168)), (2, .int (zI v2))] [.int (zI s0)] st := by
  unfold J_X12_isSaid_45 at h
  refine z_istore_n (i := 1) [(1, .int (zI s0)), (0, .ref (a 168)), (2, .int (zI v2))] hc dX12_isSaid_45 rfl (by decide) rfl ?_
  refine z_iinc [(2, .int (zI (v2 + 1))), (1, .int (zI s0)), (0, .ref (a 168))] 2 hc dX12_isSaid_46 rfl (by decide) rfl ?_
  refine z_goto (tgt := 15) hc dX12_isSaid_49 (by decide) ?_
  refine z_sub [(0, .ref (a 168)), (1, .int (zI s0)), (2, .int (zI (v2 + 1)))] [2, 1, 0] rfl ?_
  exact k1 _ (Option.some.inj h).symm
def J_X12_isSaid_44 (v2 : Int) (st : z_St) : Option ((Int × Int) ⊕ Int) :=
  J_X12_isSaid_45 v2 0 st
set_option maxRecDepth 100000 in
set_option maxHeartbeats 4000000 in
theorem w_X12_isSaid_44 {κ : zK} {a : Nat → Nat} {v2 : Int} {st : z_St} {mc9 ms9 : Nat} {o : (Int × Int) ⊕ Int} (hc : z_C κ RX12 cX12_isSaid 3 8 mc9 ms9) (hap : z_AP κ a z_N) (k1 : ∀ s9 : (Int × Int), o = .inl s9 → z_V κ z_T z_N a 0 0 15 [(0, .ref (a 168)), (1, .int (zI s9.1)), (2, .int (zI s9.2))] [] st) (k2 : ∀ x9 : Int, o = .inr x9 → z_V κ z_T z_N a 0 0 52 [(1, .int (zI x9))] [] st) (h : J_X12_isSaid_44 v2 st = some o) : z_V κ z_T z_N a 0 0 44 [(0, .ref (a 168)), (2, .int (zI v2))] [] st := by
  unfold J_X12_isSaid_44 at h
  refine z_iconst hc dX12_isSaid_44 ?_
  refine z_sub [(0, .ref (a 168)), (2, .int (zI v2))] [0, 1] rfl ?_
  exact w_X12_isSaid_45 hc hap k1 k2 h
def J_X12_isSaid_b15 (v1 v2 : Int) (st : z_St) : Option ((Int × Int) ⊕ Int) :=
  z_g (z32 v2 ∧ z32 (st 168 13)) (if v2 < st 168 13 then
    z_g (z32 v1) (if v1 = 0 then
      J_X12_isSaid_44 v2 st
    else
      z_g (0 ≤ v2 ∧ v2 < 4) <|
      z_g (z32 (st 177 v2) ∧ z32 (st 168 11)) (if st 177 v2 < st 168 11 then
        J_X12_isSaid_45 v2 1 st
      else
        J_X12_isSaid_44 v2 st))
  else
    some (.inr v1))
set_option maxRecDepth 100000 in
set_option maxHeartbeats 4000000 in
theorem w_X12_isSaid_b15 {κ : zK} {a : Nat → Nat} {v1 v2 : Int} {st : z_St} {mc9 ms9 : Nat} {o : (Int × Int) ⊕ Int} (hc : z_C κ RX12 cX12_isSaid 3 8 mc9 ms9) (hap : z_AP κ a z_N) (k1 : ∀ s9 : (Int × Int), o = .inl s9 → z_V κ z_T z_N a 0 0 15 [(0, .ref (a 168)), (1, .int (zI s9.1)), (2, .int (zI s9.2))] [] st) (k2 : ∀ x9 : Int, o = .inr x9 → z_V κ z_T z_N a 0 0 52 [(1, .int (zI x9))] [] st) (h : J_X12_isSaid_b15 v1 v2 st = some o) : z_V κ z_T z_N a 0 0 15 [(0, .ref (a 168)), (1, .int (zI v1)), (2, .int (zI v2))] [] st := by
  unfold J_X12_isSaid_b15 at h
  refine z_iload_n (i := 2) 2 hc dX12_isSaid_15 rfl rfl ?_
  refine z_aload_n (i := 0) 0 hc dX12_isSaid_16 rfl rfl ?_
  refine z_getI (kI := 168) (jI := 13) hc fl_RX12_180 tT_168 (by decide) rfl rfl rfl dX12_isSaid_17 ?_
  refine z_icmp_ge (tgt := 52) hc dX12_isSaid_20 (by decide) h (fun c20 h => ?_) (fun c20 h => ?_)
  · refine z_iload_n (i := 1) 1 hc dX12_isSaid_23 rfl rfl ?_
    refine z_if_eq (tgt := 44) hc dX12_isSaid_24 (by decide) h (fun c24 h => ?_) (fun c24 h => ?_)
    · refine z_sub [(0, .ref (a 168)), (2, .int (zI v2))] [0, 2] rfl ?_
      exact w_X12_isSaid_44 hc hap k1 k2 h
    · refine z_aload_n (i := 0) 0 hc dX12_isSaid_27 rfl rfl ?_
      refine z_getA (k' := 177) hc fl_RX12_34 tT_168 (by decide) rfl rfl dX12_isSaid_28 ?_
      refine z_iload_n (i := 2) 2 hc dX12_isSaid_31 rfl rfl ?_
      refine z_iald (kI := 177) (nI9 := 4) hc tT_177 (by decide) rfl rfl (by decide) dX12_isSaid_32 h (fun g1 h => ?_)
      refine z_aload_n (i := 0) 0 hc dX12_isSaid_33 rfl rfl ?_
      refine z_getI (kI := 168) (jI := 11) hc fl_RX12_164 tT_168 (by decide) rfl rfl rfl dX12_isSaid_34 ?_
      refine z_icmp_ge (tgt := 44) hc dX12_isSaid_37 (by decide) h (fun c37 h => ?_) (fun c37 h => ?_)
      · refine z_iconst hc dX12_isSaid_40 ?_
        refine z_goto (tgt := 45) hc dX12_isSaid_41 (by decide) ?_
        refine z_sub [(0, .ref (a 168)), (2, .int (zI v2))] [0, 2] rfl ?_
        exact w_X12_isSaid_45 hc hap k1 k2 h
      · refine z_sub [(0, .ref (a 168)), (2, .int (zI v2))] [0, 2] rfl ?_
        exact w_X12_isSaid_44 hc hap k1 k2 h
  · refine z_sub [(1, .int (zI v1))] [1] rfl ?_
    exact k2 v1 (Option.some.inj h).symm
def J_X12_isSaid_12 (s0 : Int) (st : z_St) : Option (Int) :=
  z_b (z_iter z_F (fun q9 : (Int × Int) => J_X12_isSaid_b15 q9.1 q9.2 st) (s0, 0)) fun lx2 =>
    z_g (lx2 = 0 ∨ lx2 = 1) <|
    some lx2
set_option maxRecDepth 100000 in
set_option maxHeartbeats 4000000 in
theorem w_X12_isSaid_12 {κ : zK} {a : Nat → Nat} {s0 : Int} {st : z_St} {o : Int} (hc : z_C κ RX12 cX12_isSaid 3 8 0 0) (hap : z_AP κ a z_N) (he : z_E 0 κ (some .boolean) z_T z_N a o st) (h : J_X12_isSaid_12 s0 st = some o) : z_V κ z_T z_N a 0 0 12 [(0, .ref (a 168))] [.int (zI s0)] st := by
  unfold J_X12_isSaid_12 at h
  refine z_istore_n (i := 1) [(1, .int (zI s0)), (0, .ref (a 168))] hc dX12_isSaid_12 rfl (by decide) rfl ?_
  refine z_iconst hc dX12_isSaid_13 ?_
  refine z_istore_n (i := 2) [(2, .int (zI 0)), (1, .int (zI s0)), (0, .ref (a 168))] hc dX12_isSaid_14 rfl (by decide) rfl ?_
  obtain ⟨lx2, hlx2, h⟩ := z_b_some h
  refine z_sub [(0, .ref (a 168)), (1, .int (zI s0)), (2, .int (zI 0))] [2, 1, 0] rfl ?_
  refine z_loop (fun q9 : (Int × Int) => J_X12_isSaid_b15 q9.1 q9.2 st) (fun q9 : (Int × Int) => z_V κ z_T z_N a 0 0 15 [(0, .ref (a 168)), (1, .int (zI q9.1)), (2, .int (zI q9.2))] [] st) (fun x9 : Int => z_V κ z_T z_N a 0 0 52 [(1, .int (zI x9))] [] st) (fun q9 o9 hb k1 k2 => ?_) _ _ _ hlx2 ?_
  · exact w_X12_isSaid_b15 hc hap k1 k2 hb
  · show z_V κ z_T z_N a 0 0 52 [(1, .int (zI lx2))] [] st
    refine z_iload_n (i := 1) 0 hc dX12_isSaid_52 rfl rfl ?_
    obtain ⟨hz, h⟩ := z_g_some h
    have h := Option.some.inj h
    subst h
    exact z_retZ hc he hz dX12_isSaid_53
def J_X12_isSaid (st : z_St) : Option (Int) :=
  z_g (z32 (st 168 13)) (if 0 < st 168 13 then
    J_X12_isSaid_12 1 st
  else
    J_X12_isSaid_12 0 st)
set_option maxRecDepth 100000 in
set_option maxHeartbeats 4000000 in
theorem w_X12_isSaid {κ : zK} {a : Nat → Nat} {st : z_St} {o : Int} (hc : z_C κ RX12 cX12_isSaid 3 8 0 0) (hap : z_AP κ a z_N) (he : z_E 0 κ (some .boolean) z_T z_N a o st) (h : J_X12_isSaid st = some o) : z_V κ z_T z_N a 0 0 0 [(0, .ref (a 168))] [] st := by
  unfold J_X12_isSaid at h
  refine z_aload_n (i := 0) 0 hc dX12_isSaid_0 rfl rfl ?_
  refine z_getI (kI := 168) (jI := 13) hc fl_RX12_180 tT_168 (by decide) rfl rfl rfl dX12_isSaid_1 ?_
  refine z_if_le (tgt := 11) hc dX12_isSaid_4 (by decide) h (fun c4 h => ?_) (fun c4 h => ?_)
  · refine z_iconst hc dX12_isSaid_7 ?_
    refine z_goto (tgt := 12) hc dX12_isSaid_8 (by decide) ?_
    refine z_sub [(0, .ref (a 168))] [0] rfl ?_
    exact w_X12_isSaid_12 hc hap he h
  · refine z_iconst hc dX12_isSaid_11 ?_
    refine z_sub [(0, .ref (a 168))] [0] rfl ?_
    exact w_X12_isSaid_12 hc hap he h
set_option maxRecDepth 100000 in
set_option maxHeartbeats 4000000 in
theorem c_X12_isSaid {l : Launch} (hl : l.stackTraces = false) {a : Nat → Nat} {st : z_St} {o : Int} (h : J_X12_isSaid st = some o) : z_M 0 l yX12_isSaid cX12_isSaid 3 (some .boolean) 8 z_T z_N a [.ref (a 168)] st o st := z_of hl (by decide +kernel) (Nat.le_of_ble_eq_true rfl) (fun κ hc hap he => w_X12_isSaid hc hap he h)
theorem dX12_says_0 : decode cX12_says 0 = .ok (.iconst 2, 1) := by decide +kernel
theorem dX12_says_1 : decode cX12_says 1 = .ok (.iload_n 1, 1) := by decide +kernel
theorem dX12_says_2 : decode cX12_says 2 = .ok (.imul, 1) := by decide +kernel
theorem dX12_says_3 : decode cX12_says 3 = .ok (.aload_n 0, 1) := by decide +kernel
theorem dX12_says_4 : decode cX12_says 4 = .ok (.getfield 37, 3) := by decide +kernel
theorem dX12_says_7 : decode cX12_says 7 = .ok (.iload_n 1, 1) := by decide +kernel
theorem dX12_says_8 : decode cX12_says 8 = .ok (.iaload, 1) := by decide +kernel
theorem dX12_says_9 : decode cX12_says 9 = .ok (.iadd, 1) := by decide +kernel
theorem dX12_says_10 : decode cX12_says 10 = .ok (.istore_n 3, 1) := by decide +kernel
theorem dX12_says_11 : decode cX12_says 11 = .ok (.aload_n 0, 1) := by decide +kernel
theorem dX12_says_12 : decode cX12_says 12 = .ok (.getfield 40, 3) := by decide +kernel
theorem dX12_says_15 : decode cX12_says 15 = .ok (.iload_n 3, 1) := by decide +kernel
theorem dX12_says_16 : decode cX12_says 16 = .ok (.aload_n 0, 1) := by decide +kernel
theorem dX12_says_17 : decode cX12_says 17 = .ok (.getfield 180, 3) := by decide +kernel
theorem dX12_says_20 : decode cX12_says 20 = .ok (.iastore, 1) := by decide +kernel
theorem dX12_says_21 : decode cX12_says 21 = .ok (.aload_n 0, 1) := by decide +kernel
theorem dX12_says_22 : decode cX12_says 22 = .ok (.getfield 46, 3) := by decide +kernel
theorem dX12_says_25 : decode cX12_says 25 = .ok (.iload_n 3, 1) := by decide +kernel
theorem dX12_says_26 : decode cX12_says 26 = .ok (.iload_n 2, 1) := by decide +kernel
theorem dX12_says_27 : decode cX12_says 27 = .ok (.iastore, 1) := by decide +kernel
theorem dX12_says_28 : decode cX12_says 28 = .ok (.iconst 0, 1) := by decide +kernel
theorem dX12_says_29 : decode cX12_says 29 = .ok (.istore 4, 2) := by decide +kernel
theorem dX12_says_31 : decode cX12_says 31 = .ok (.iload 4, 2) := by decide +kernel
theorem dX12_says_33 : decode cX12_says 33 = .ok (.aload_n 0, 1) := by decide +kernel
theorem dX12_says_34 : decode cX12_says 34 = .ok (.getfield 180, 3) := by decide +kernel
theorem dX12_says_37 : decode cX12_says 37 = .ok (.if_icmp .ge 27, 3) := by decide +kernel
theorem dX12_says_40 : decode cX12_says 40 = .ok (.aload_n 0, 1) := by decide +kernel
theorem dX12_says_41 : decode cX12_says 41 = .ok (.getfield 43, 3) := by decide +kernel
theorem dX12_says_44 : decode cX12_says 44 = .ok (.iconst 4, 1) := by decide +kernel
theorem dX12_says_45 : decode cX12_says 45 = .ok (.iload_n 3, 1) := by decide +kernel
theorem dX12_says_46 : decode cX12_says 46 = .ok (.imul, 1) := by decide +kernel
theorem dX12_says_47 : decode cX12_says 47 = .ok (.iload 4, 2) := by decide +kernel
theorem dX12_says_49 : decode cX12_says 49 = .ok (.iadd, 1) := by decide +kernel
theorem dX12_says_50 : decode cX12_says 50 = .ok (.aload_n 0, 1) := by decide +kernel
theorem dX12_says_51 : decode cX12_says 51 = .ok (.getfield 34, 3) := by decide +kernel
theorem dX12_says_54 : decode cX12_says 54 = .ok (.iload 4, 2) := by decide +kernel
theorem dX12_says_56 : decode cX12_says 56 = .ok (.iaload, 1) := by decide +kernel
theorem dX12_says_57 : decode cX12_says 57 = .ok (.iastore, 1) := by decide +kernel
theorem dX12_says_58 : decode cX12_says 58 = .ok (.iinc 4 1, 3) := by decide +kernel
theorem dX12_says_61 : decode cX12_says 61 = .ok (.goto (-30), 3) := by decide +kernel
theorem dX12_says_64 : decode cX12_says 64 = .ok (.aload_n 0, 1) := by decide +kernel
theorem dX12_says_65 : decode cX12_says 65 = .ok (.getfield 37, 3) := by decide +kernel
theorem dX12_says_68 : decode cX12_says 68 = .ok (.iload_n 1, 1) := by decide +kernel
theorem dX12_says_69 : decode cX12_says 69 = .ok (.dup2, 1) := by decide +kernel
theorem dX12_says_70 : decode cX12_says 70 = .ok (.iaload, 1) := by decide +kernel
theorem dX12_says_71 : decode cX12_says 71 = .ok (.iconst 1, 1) := by decide +kernel
theorem dX12_says_72 : decode cX12_says 72 = .ok (.iadd, 1) := by decide +kernel
theorem dX12_says_73 : decode cX12_says 73 = .ok (.iastore, 1) := by decide +kernel
theorem dX12_says_74 : decode cX12_says 74 = .ok (.aload_n 0, 1) := by decide +kernel
theorem dX12_says_75 : decode cX12_says 75 = .ok (.getfield 180, 3) := by decide +kernel
theorem dX12_says_78 : decode cX12_says 78 = .ok (.istore 4, 2) := by decide +kernel
theorem dX12_says_80 : decode cX12_says 80 = .ok (.aload_n 0, 1) := by decide +kernel
theorem dX12_says_81 : decode cX12_says 81 = .ok (.iconst 0, 1) := by decide +kernel
theorem dX12_says_82 : decode cX12_says 82 = .ok (.putfield 180, 3) := by decide +kernel
theorem dX12_says_85 : decode cX12_says 85 = .ok (.iload 4, 2) := by decide +kernel
theorem dX12_says_87 : decode cX12_says 87 = .ok (.ireturn, 1) := by decide +kernel
def J_X12_says_b31 (v1 v3 v4 : Int) (st : z_St) : Option ((Int × z_St) ⊕ z_St) :=
  z_g (z32 v4 ∧ z32 (st 168 13)) (if v4 < st 168 13 then
    z_g (0 ≤ v4 ∧ v4 < 4) <|
    z_g (0 ≤ (4 * v3) + v4 ∧ (4 * v3) + v4 < 40) <|
    z_let (z_up st 180 ((4 * v3) + v4) (st 177 v4)) fun st5 =>
    some (.inl (v4 + 1, st5))
  else
    some (.inr st))
set_option maxRecDepth 100000 in
set_option maxHeartbeats 4000000 in
theorem w_X12_says_b31 {κ : zK} {a : Nat → Nat} {v1 v3 v4 : Int} {st : z_St} {mc9 ms9 : Nat} {o : (Int × z_St) ⊕ z_St} (hc : z_C κ RX12 cX12_says 5 8 mc9 ms9) (hap : z_AP κ a z_N) (k1 : ∀ s9 : (Int × z_St), o = .inl s9 → z_V κ z_T z_N a 0 0 31 [(0, .ref (a 168)), (1, .int (zI v1)), (3, .int (zI v3)), (4, .int (zI s9.1))] [] s9.2) (k2 : ∀ x9 : z_St, o = .inr x9 → z_V κ z_T z_N a 0 0 64 [(0, .ref (a 168)), (1, .int (zI v1))] [] x9) (h : J_X12_says_b31 v1 v3 v4 st = some o) : z_V κ z_T z_N a 0 0 31 [(0, .ref (a 168)), (1, .int (zI v1)), (3, .int (zI v3)), (4, .int (zI v4))] [] st := by
  unfold J_X12_says_b31 at h
  refine z_iload 3 hc dX12_says_31 rfl ?_
  refine z_aload_n (i := 0) 0 hc dX12_says_33 rfl rfl ?_
  refine z_getI (kI := 168) (jI := 13) hc fl_RX12_180 tT_168 (by decide) rfl rfl rfl dX12_says_34 ?_
  refine z_icmp_ge (tgt := 64) hc dX12_says_37 (by decide) h (fun c37 h => ?_) (fun c37 h => ?_)
  · refine z_aload_n (i := 0) 0 hc dX12_says_40 rfl rfl ?_
    refine z_getA (k' := 180) hc fl_RX12_43 tT_168 (by decide) rfl rfl dX12_says_41 ?_
    refine z_iconst hc dX12_says_44 ?_
    refine z_iload_n (i := 3) 2 hc dX12_says_45 rfl rfl ?_
    refine z_imul hc dX12_says_46 ?_
    refine z_iload 3 hc dX12_says_47 rfl ?_
    refine z_iadd hc dX12_says_49 ?_
    refine z_aload_n (i := 0) 0 hc dX12_says_50 rfl rfl ?_
    refine z_getA (k' := 177) hc fl_RX12_34 tT_168 (by decide) rfl rfl dX12_says_51 ?_
    refine z_iload 3 hc dX12_says_54 rfl ?_
    refine z_iald (kI := 177) (nI9 := 4) hc tT_177 (by decide) rfl rfl (by decide) dX12_says_56 h (fun g4 h => ?_)
    refine z_iast (kI := 180) (nI9 := 40) hc hap tT_180 (by decide) rfl rfl (by decide) dX12_says_57 h (fun st5 h => ?_)
    refine z_iinc [(4, .int (zI (v4 + 1))), (0, .ref (a 168)), (1, .int (zI v1)), (3, .int (zI v3))] 3 hc dX12_says_58 rfl (by decide) rfl ?_
    refine z_goto (tgt := 31) hc dX12_says_61 (by decide) ?_
    refine z_sub [(0, .ref (a 168)), (1, .int (zI v1)), (3, .int (zI v3)), (4, .int (zI (v4 + 1)))] [1, 2, 3, 0] rfl ?_
    exact k1 _ (Option.some.inj h).symm
  · refine z_sub [(0, .ref (a 168)), (1, .int (zI v1))] [0, 1] rfl ?_
    exact k2 st (Option.some.inj h).symm
def J_X12_says (x1 x2 : Int) (st : z_St) : Option (Int × z_St) :=
  z_g (0 ≤ x1 ∧ x1 < 5) <|
  z_g (0 ≤ (2 * x1) + (st 178 x1) ∧ (2 * x1) + (st 178 x1) < 10) <|
  z_let (z_up st 179 ((2 * x1) + (st 178 x1)) (st 168 13)) fun st2 =>
  z_g (0 ≤ (2 * x1) + (st 178 x1) ∧ (2 * x1) + (st 178 x1) < 10) <|
  z_let (z_up st2 181 ((2 * x1) + (st 178 x1)) x2) fun st3 =>
  z_b (z_iter z_F (fun q9 : (Int × z_St) => J_X12_says_b31 x1 ((2 * x1) + (st 178 x1)) q9.1 q9.2) (0, st3)) fun lx6 =>
    z_g (0 ≤ x1 ∧ x1 < 5) <|
    z_g (0 ≤ x1 ∧ x1 < 5) <|
    z_let (z_up lx6 178 x1 ((lx6 178 x1) + 1)) fun st8 =>
    z_let (z_up st8 168 13 0) fun st9 =>
    some (st8 168 13, st9)
set_option maxRecDepth 100000 in
set_option maxHeartbeats 4000000 in
theorem w_X12_says {κ : zK} {a : Nat → Nat} {x1 x2 : Int} {st : z_St} {o : Int × z_St} (hc : z_C κ RX12 cX12_says 5 8 0 0) (hap : z_AP κ a z_N) (he : z_E 0 κ (some .int) z_T z_N a o.1 o.2) (h : J_X12_says x1 x2 st = some o) : z_V κ z_T z_N a 0 0 0 [(0, .ref (a 168)), (1, .int (zI x1)), (2, .int (zI x2))] [] st := by
  unfold J_X12_says at h
  refine z_iconst hc dX12_says_0 ?_
  refine z_iload_n (i := 1) 1 hc dX12_says_1 rfl rfl ?_
  refine z_imul hc dX12_says_2 ?_
  refine z_aload_n (i := 0) 0 hc dX12_says_3 rfl rfl ?_
  refine z_getA (k' := 178) hc fl_RX12_37 tT_168 (by decide) rfl rfl dX12_says_4 ?_
  refine z_iload_n (i := 1) 1 hc dX12_says_7 rfl rfl ?_
  refine z_iald (kI := 178) (nI9 := 5) hc tT_178 (by decide) rfl rfl (by decide) dX12_says_8 h (fun g1 h => ?_)
  refine z_iadd hc dX12_says_9 ?_
  refine z_istore_n (i := 3) [(3, .int (zI ((2 * x1) + (st 178 x1)))), (0, .ref (a 168)), (1, .int (zI x1)), (2, .int (zI x2))] hc dX12_says_10 rfl (by decide) rfl ?_
  refine z_aload_n (i := 0) 1 hc dX12_says_11 rfl rfl ?_
  refine z_getA (k' := 179) hc fl_RX12_40 tT_168 (by decide) rfl rfl dX12_says_12 ?_
  refine z_iload_n (i := 3) 0 hc dX12_says_15 rfl rfl ?_
  refine z_aload_n (i := 0) 1 hc dX12_says_16 rfl rfl ?_
  refine z_getI (kI := 168) (jI := 13) hc fl_RX12_180 tT_168 (by decide) rfl rfl rfl dX12_says_17 ?_
  refine z_iast (kI := 179) (nI9 := 10) hc hap tT_179 (by decide) rfl rfl (by decide) dX12_says_20 h (fun st2 h => ?_)
  refine z_aload_n (i := 0) 1 hc dX12_says_21 rfl rfl ?_
  refine z_getA (k' := 181) hc fl_RX12_46 tT_168 (by decide) rfl rfl dX12_says_22 ?_
  refine z_iload_n (i := 3) 0 hc dX12_says_25 rfl rfl ?_
  refine z_iload_n (i := 2) 3 hc dX12_says_26 rfl rfl ?_
  refine z_iast (kI := 181) (nI9 := 10) hc hap tT_181 (by decide) rfl rfl (by decide) dX12_says_27 h (fun st3 h => ?_)
  refine z_iconst hc dX12_says_28 ?_
  refine z_istore [(4, .int (zI 0)), (3, .int (zI ((2 * x1) + (st 178 x1)))), (0, .ref (a 168)), (1, .int (zI x1)), (2, .int (zI x2))] hc dX12_says_29 (by decide) rfl ?_
  obtain ⟨lx6, hlx6, h⟩ := z_b_some h
  refine z_sub [(0, .ref (a 168)), (1, .int (zI x1)), (3, .int (zI ((2 * x1) + (st 178 x1)))), (4, .int (zI 0))] [2, 3, 1, 0] rfl ?_
  refine z_loop (fun q9 : (Int × z_St) => J_X12_says_b31 x1 ((2 * x1) + (st 178 x1)) q9.1 q9.2) (fun q9 : (Int × z_St) => z_V κ z_T z_N a 0 0 31 [(0, .ref (a 168)), (1, .int (zI x1)), (3, .int (zI ((2 * x1) + (st 178 x1)))), (4, .int (zI q9.1))] [] q9.2) (fun x9 : z_St => z_V κ z_T z_N a 0 0 64 [(0, .ref (a 168)), (1, .int (zI x1))] [] x9) (fun q9 o9 hb k1 k2 => ?_) _ _ _ hlx6 ?_
  · exact w_X12_says_b31 hc hap k1 k2 hb
  · show z_V κ z_T z_N a 0 0 64 [(0, .ref (a 168)), (1, .int (zI x1))] [] lx6
    refine z_aload_n (i := 0) 0 hc dX12_says_64 rfl rfl ?_
    refine z_getA (k' := 178) hc fl_RX12_37 tT_168 (by decide) rfl rfl dX12_says_65 ?_
    refine z_iload_n (i := 1) 1 hc dX12_says_68 rfl rfl ?_
    refine z_dup2 hc dX12_says_69 rfl rfl ?_
    refine z_iald (kI := 178) (nI9 := 5) hc tT_178 (by decide) rfl rfl (by decide) dX12_says_70 h (fun g7 h => ?_)
    refine z_iconst hc dX12_says_71 ?_
    refine z_iadd hc dX12_says_72 ?_
    refine z_iast (kI := 178) (nI9 := 5) hc hap tT_178 (by decide) rfl rfl (by decide) dX12_says_73 h (fun st8 h => ?_)
    refine z_aload_n (i := 0) 0 hc dX12_says_74 rfl rfl ?_
    refine z_getI (kI := 168) (jI := 13) hc fl_RX12_180 tT_168 (by decide) rfl rfl rfl dX12_says_75 ?_
    refine z_istore [(4, .int (zI (st8 168 13))), (0, .ref (a 168)), (1, .int (zI x1))] hc dX12_says_78 (by decide) rfl ?_
    refine z_aload_n (i := 0) 1 hc dX12_says_80 rfl rfl ?_
    refine z_iconst hc dX12_says_81 ?_
    refine z_putI (kI := 168) (jI := 13) hc hap fp_RX12_180 tT_168 (by decide) rfl rfl rfl dX12_says_82 h (fun st9 h => ?_)
    refine z_iload 0 hc dX12_says_85 rfl ?_
    have h := Option.some.inj h
    subst h
    exact z_retI hc he dX12_says_87
set_option maxRecDepth 100000 in
set_option maxHeartbeats 4000000 in
theorem c_X12_says {l : Launch} (hl : l.stackTraces = false) {a : Nat → Nat} {x1 x2 : Int} {st : z_St} {o : Int × z_St} (h : J_X12_says x1 x2 st = some o) : z_M 0 l yX12_says cX12_says 5 (some .int) 8 z_T z_N a [.ref (a 168), .int (zI x1), .int (zI x2)] st o.1 o.2 := z_of hl (by decide +kernel) (Nat.le_of_ble_eq_true rfl) (fun κ hc hap he => w_X12_says hc hap he h)
theorem dX12_word_0 : decode cX12_word 0 = .ok (.aload_n 0, 1) := by decide +kernel
theorem dX12_word_1 : decode cX12_word 1 = .ok (.aload_n 0, 1) := by decide +kernel
theorem dX12_word_2 : decode cX12_word 2 = .ok (.iload_n 1, 1) := by decide +kernel
theorem dX12_word_3 : decode cX12_word 3 = .ok (.i2l, 1) := by decide +kernel
theorem dX12_word_4 : decode cX12_word 4 = .ok (.lconst 0, 1) := by decide +kernel
theorem dX12_word_5 : decode cX12_word 5 = .ok (.ldc2_w 183, 3) := by decide +kernel
theorem dX12_word_8 : decode cX12_word 8 = .ok (.invokevirtual 116, 3) := by decide +kernel
theorem dX12_word_11 : decode cX12_word 11 = .ok (.ifCond .ne 7, 3) := by decide +kernel
theorem dX12_word_14 : decode cX12_word 14 = .ok (.iconst 1, 1) := by decide +kernel
theorem dX12_word_15 : decode cX12_word 15 = .ok (.goto 23, 3) := by decide +kernel
theorem dX12_word_18 : decode cX12_word 18 = .ok (.aload_n 0, 1) := by decide +kernel
theorem dX12_word_19 : decode cX12_word 19 = .ok (.invokevirtual 185, 3) := by decide +kernel
theorem dX12_word_22 : decode cX12_word 22 = .ok (.ifCond .eq 11, 3) := by decide +kernel
theorem dX12_word_25 : decode cX12_word 25 = .ok (.aload_n 0, 1) := by decide +kernel
theorem dX12_word_26 : decode cX12_word 26 = .ok (.getfield 189, 3) := by decide +kernel
theorem dX12_word_29 : decode cX12_word 29 = .ok (.iconst 5, 1) := by decide +kernel
theorem dX12_word_30 : decode cX12_word 30 = .ok (.if_icmp .ne 7, 3) := by decide +kernel
theorem dX12_word_33 : decode cX12_word 33 = .ok (.iconst 2, 1) := by decide +kernel
theorem dX12_word_34 : decode cX12_word 34 = .ok (.goto 4, 3) := by decide +kernel
theorem dX12_word_37 : decode cX12_word 37 = .ok (.iconst 0, 1) := by decide +kernel
theorem dX12_word_38 : decode cX12_word 38 = .ok (.invokevirtual 131, 3) := by decide +kernel
theorem dX12_word_41 : decode cX12_word 41 = .ok (.ifCond .eq 5, 3) := by decide +kernel
theorem dX12_word_44 : decode cX12_word 44 = .ok (.iconst (-1), 1) := by decide +kernel
theorem dX12_word_45 : decode cX12_word 45 = .ok (.ireturn, 1) := by decide +kernel
theorem dX12_word_46 : decode cX12_word 46 = .ok (.aload_n 0, 1) := by decide +kernel
theorem dX12_word_47 : decode cX12_word 47 = .ok (.dup, 1) := by decide +kernel
theorem dX12_word_48 : decode cX12_word 48 = .ok (.getfield 189, 3) := by decide +kernel
theorem dX12_word_51 : decode cX12_word 51 = .ok (.iconst 1, 1) := by decide +kernel
theorem dX12_word_52 : decode cX12_word 52 = .ok (.iadd, 1) := by decide +kernel
theorem dX12_word_53 : decode cX12_word 53 = .ok (.putfield 189, 3) := by decide +kernel
theorem dX12_word_56 : decode cX12_word 56 = .ok (.aload_n 0, 1) := by decide +kernel
theorem dX12_word_57 : decode cX12_word 57 = .ok (.aload_n 0, 1) := by decide +kernel
theorem dX12_word_58 : decode cX12_word 58 = .ok (.getfield 189, 3) := by decide +kernel
theorem dX12_word_61 : decode cX12_word 61 = .ok (.iconst 1, 1) := by decide +kernel
theorem dX12_word_62 : decode cX12_word 62 = .ok (.isub, 1) := by decide +kernel
theorem dX12_word_63 : decode cX12_word 63 = .ok (.iload_n 1, 1) := by decide +kernel
theorem dX12_word_64 : decode cX12_word 64 = .ok (.invokevirtual 192, 3) := by decide +kernel
theorem dX12_word_67 : decode cX12_word 67 = .ok (.pop, 1) := by decide +kernel
theorem dX12_word_68 : decode cX12_word 68 = .ok (.aload_n 0, 1) := by decide +kernel
theorem dX12_word_69 : decode cX12_word 69 = .ok (.getfield 189, 3) := by decide +kernel
theorem dX12_word_72 : decode cX12_word 72 = .ok (.iconst 1, 1) := by decide +kernel
theorem dX12_word_73 : decode cX12_word 73 = .ok (.isub, 1) := by decide +kernel
theorem dX12_word_74 : decode cX12_word 74 = .ok (.ireturn, 1) := by decide +kernel
def J_X12_word_38 (v1 s0 : Int) (st : z_St) : Option (Int × z_St) :=
  z_b (J_X12_holds s0 st) fun r3 =>
  z_g (z32 r3.1) (if r3.1 = 0 then
    z_let (z_up r3.2 168 18 ((r3.2 168 18) + 1)) fun st5 =>
    z_b (J_X12_says ((st5 168 18) - 1) v1 st5) fun r6 =>
    some ((r6.2 168 18) - 1, r6.2)
  else
    some ((-1), r3.2))
set_option maxRecDepth 100000 in
set_option maxHeartbeats 4000000 in
theorem w_X12_word_38 {κ : zK} {a : Nat → Nat} {v1 s0 : Int} {st : z_St} {o : Int × z_St} (hc : z_C κ RX12 cX12_word 2 9 0 0) (hap : z_AP κ a z_N) (he : z_E 0 κ (some .int) z_T z_N a o.1 o.2) (h : J_X12_word_38 v1 s0 st = some o) : z_V κ z_T z_N a 0 0 38 [(0, .ref (a 168)), (1, .int (zI v1))] [.int (zI s0), .ref (a 168)] st := by
  unfold J_X12_word_38 at h
  obtain ⟨r3, hr3, h⟩ := z_b_some h
  refine z_callVI [.int (zI s0)] hc hap o_X12_holds ml_RX12_131 (fun l hl => c_X12_holds hl  hr3) (by decide) tT_168 (by decide) ⟨_, rfl, rfl⟩ rfl rfl (Nat.le_of_ble_eq_true rfl) (Nat.zero_le _) (Nat.zero_le _) dX12_word_38 ?_
  refine z_if_eq (tgt := 46) hc dX12_word_41 (by decide) h (fun c41 h => ?_) (fun c41 h => ?_)
  · refine z_aload_n (i := 0) 0 hc dX12_word_46 rfl rfl ?_
    refine z_dup hc dX12_word_47 rfl ?_
    refine z_getI (kI := 168) (jI := 18) hc fl_RX12_189 tT_168 (by decide) rfl rfl rfl dX12_word_48 ?_
    refine z_iconst hc dX12_word_51 ?_
    refine z_iadd hc dX12_word_52 ?_
    refine z_putI (kI := 168) (jI := 18) hc hap fp_RX12_189 tT_168 (by decide) rfl rfl rfl dX12_word_53 h (fun st5 h => ?_)
    refine z_aload_n (i := 0) 0 hc dX12_word_56 rfl rfl ?_
    refine z_aload_n (i := 0) 0 hc dX12_word_57 rfl rfl ?_
    refine z_getI (kI := 168) (jI := 18) hc fl_RX12_189 tT_168 (by decide) rfl rfl rfl dX12_word_58 ?_
    refine z_iconst hc dX12_word_61 ?_
    refine z_isub hc dX12_word_62 ?_
    refine z_iload_n (i := 1) 1 hc dX12_word_63 rfl rfl ?_
    obtain ⟨r6, hr6, h⟩ := z_b_some h
    refine z_callVI [.int (zI ((st5 168 18) - 1)), .int (zI v1)] hc hap o_X12_says ml_RX12_192 (fun l hl => c_X12_says hl  hr6) (by decide) tT_168 (by decide) ⟨_, rfl, rfl⟩ rfl rfl (Nat.le_of_ble_eq_true rfl) (Nat.zero_le _) (Nat.zero_le _) dX12_word_64 ?_
    refine z_pop hc dX12_word_67 rfl ?_
    refine z_aload_n (i := 0) 0 hc dX12_word_68 rfl rfl ?_
    refine z_getI (kI := 168) (jI := 18) hc fl_RX12_189 tT_168 (by decide) rfl rfl rfl dX12_word_69 ?_
    refine z_iconst hc dX12_word_72 ?_
    refine z_isub hc dX12_word_73 ?_
    have h := Option.some.inj h
    subst h
    exact z_retI hc he dX12_word_74
  · refine z_iconst hc dX12_word_44 ?_
    have h := Option.some.inj h
    subst h
    exact z_retI hc he dX12_word_45
def J_X12_word_33 (v1 : Int) (st : z_St) : Option (Int × z_St) :=
  J_X12_word_38 v1 2 st
set_option maxRecDepth 100000 in
set_option maxHeartbeats 4000000 in
theorem w_X12_word_33 {κ : zK} {a : Nat → Nat} {v1 : Int} {st : z_St} {o : Int × z_St} (hc : z_C κ RX12 cX12_word 2 9 0 0) (hap : z_AP κ a z_N) (he : z_E 0 κ (some .int) z_T z_N a o.1 o.2) (h : J_X12_word_33 v1 st = some o) : z_V κ z_T z_N a 0 0 33 [(0, .ref (a 168)), (1, .int (zI v1))] [.ref (a 168)] st := by
  unfold J_X12_word_33 at h
  refine z_iconst hc dX12_word_33 ?_
  refine z_goto (tgt := 38) hc dX12_word_34 (by decide) ?_
  refine z_sub [(0, .ref (a 168)), (1, .int (zI v1))] [0, 1] rfl ?_
  exact w_X12_word_38 hc hap he h
def J_X12_word (x1 : Int) (st : z_St) : Option (Int × z_St) :=
  z_g (z32 x1) <|
  z_b (J_X12_in x1 0 9999 st) fun r1 =>
  z_g (z32 r1) (if r1 = 0 then
    J_X12_word_38 x1 1 st
  else
    z_b (J_X12_isSaid st) fun r8 =>
    z_g (z32 r8) (if r8 = 0 then
      J_X12_word_33 x1 st
    else
      z_g (z32 (st 168 18) ∧ z32 5) (if st 168 18 = 5 then
        J_X12_word_33 x1 st
      else
        J_X12_word_38 x1 0 st)))
set_option maxRecDepth 100000 in
set_option maxHeartbeats 4000000 in
theorem w_X12_word {κ : zK} {a : Nat → Nat} {x1 : Int} {st : z_St} {o : Int × z_St} (hc : z_C κ RX12 cX12_word 2 9 0 0) (hap : z_AP κ a z_N) (he : z_E 0 κ (some .int) z_T z_N a o.1 o.2) (h : J_X12_word x1 st = some o) : z_V κ z_T z_N a 0 0 0 [(0, .ref (a 168)), (1, .int (zI x1))] [] st := by
  unfold J_X12_word at h
  refine z_aload_n (i := 0) 0 hc dX12_word_0 rfl rfl ?_
  refine z_aload_n (i := 0) 0 hc dX12_word_1 rfl rfl ?_
  refine z_iload_n (i := 1) 1 hc dX12_word_2 rfl rfl ?_
  refine z_i2l hc dX12_word_3 h (fun h => ?_)
  refine z_lconst 0 hc dX12_word_4 rfl ?_
  refine z_ldc2 9999 hc kc_RX12_183 dX12_word_5 rfl ?_
  obtain ⟨r1, hr1, h⟩ := z_b_some h
  refine z_callVI [.long (zJ x1), .long (zJ 0), .long (zJ 9999)] hc hap o_X12_in ml_RX12_116 (fun l hl => c_X12_in hl  hr1) (by decide) tT_168 (by decide) ⟨_, rfl, rfl⟩ rfl rfl (Nat.le_of_ble_eq_true rfl) (Nat.zero_le _) (Nat.zero_le _) dX12_word_8 ?_
  refine z_if_ne (tgt := 18) hc dX12_word_11 (by decide) h (fun c11 h => ?_) (fun c11 h => ?_)
  · refine z_iconst hc dX12_word_14 ?_
    refine z_goto (tgt := 38) hc dX12_word_15 (by decide) ?_
    refine z_sub [(0, .ref (a 168)), (1, .int (zI x1))] [0, 1] rfl ?_
    exact w_X12_word_38 hc hap he h
  · refine z_aload_n (i := 0) 0 hc dX12_word_18 rfl rfl ?_
    obtain ⟨r8, hr8, h⟩ := z_b_some h
    refine z_callVI [] hc hap o_X12_isSaid ml_RX12_185 (fun l hl => c_X12_isSaid hl  hr8) (by decide) tT_168 (by decide) ⟨_, rfl, rfl⟩ rfl rfl (Nat.le_of_ble_eq_true rfl) (Nat.zero_le _) (Nat.zero_le _) dX12_word_19 ?_
    refine z_if_eq (tgt := 33) hc dX12_word_22 (by decide) h (fun c22 h => ?_) (fun c22 h => ?_)
    · refine z_sub [(0, .ref (a 168)), (1, .int (zI x1))] [0, 1] rfl ?_
      exact w_X12_word_33 hc hap he h
    · refine z_aload_n (i := 0) 0 hc dX12_word_25 rfl rfl ?_
      refine z_getI (kI := 168) (jI := 18) hc fl_RX12_189 tT_168 (by decide) rfl rfl rfl dX12_word_26 ?_
      refine z_iconst hc dX12_word_29 ?_
      refine z_icmp_ne (tgt := 37) hc dX12_word_30 (by decide) h (fun c30 h => ?_) (fun c30 h => ?_)
      · refine z_sub [(0, .ref (a 168)), (1, .int (zI x1))] [0, 1] rfl ?_
        exact w_X12_word_33 hc hap he h
      · refine z_iconst hc dX12_word_37 ?_
        refine z_sub [(0, .ref (a 168)), (1, .int (zI x1))] [0, 1] rfl ?_
        exact w_X12_word_38 hc hap he h
set_option maxRecDepth 100000 in
set_option maxHeartbeats 4000000 in
theorem c_X12_word {l : Launch} (hl : l.stackTraces = false) {a : Nat → Nat} {x1 : Int} {st : z_St} {o : Int × z_St} (h : J_X12_word x1 st = some o) : z_M 0 l yX12_word cX12_word 2 (some .int) 9 z_T z_N a [.ref (a 168), .int (zI x1)] st o.1 o.2 := z_of hl (by decide +kernel) (Nat.le_of_ble_eq_true rfl) (fun κ hc hap he => w_X12_word hc hap he h)
theorem dX12_saying_0 : decode cX12_saying 0 = .ok (.aload_n 0, 1) := by decide +kernel
theorem dX12_saying_1 : decode cX12_saying 1 = .ok (.aload_n 0, 1) := by decide +kernel
theorem dX12_saying_2 : decode cX12_saying 2 = .ok (.iload_n 1, 1) := by decide +kernel
theorem dX12_saying_3 : decode cX12_saying 3 = .ok (.invokevirtual 195, 3) := by decide +kernel
theorem dX12_saying_6 : decode cX12_saying 6 = .ok (.ifCond .ne 7, 3) := by decide +kernel
theorem dX12_saying_9 : decode cX12_saying 9 = .ok (.iconst 1, 1) := by decide +kernel
theorem dX12_saying_10 : decode cX12_saying 10 = .ok (.goto 42, 3) := by decide +kernel
theorem dX12_saying_13 : decode cX12_saying 13 = .ok (.aload_n 0, 1) := by decide +kernel
theorem dX12_saying_14 : decode cX12_saying 14 = .ok (.iload_n 2, 1) := by decide +kernel
theorem dX12_saying_15 : decode cX12_saying 15 = .ok (.i2l, 1) := by decide +kernel
theorem dX12_saying_16 : decode cX12_saying 16 = .ok (.lconst 0, 1) := by decide +kernel
theorem dX12_saying_17 : decode cX12_saying 17 = .ok (.ldc2_w 183, 3) := by decide +kernel
theorem dX12_saying_20 : decode cX12_saying 20 = .ok (.invokevirtual 116, 3) := by decide +kernel
theorem dX12_saying_23 : decode cX12_saying 23 = .ok (.ifCond .ne 7, 3) := by decide +kernel
theorem dX12_saying_26 : decode cX12_saying 26 = .ok (.iconst 2, 1) := by decide +kernel
theorem dX12_saying_27 : decode cX12_saying 27 = .ok (.goto 25, 3) := by decide +kernel
theorem dX12_saying_30 : decode cX12_saying 30 = .ok (.aload_n 0, 1) := by decide +kernel
theorem dX12_saying_31 : decode cX12_saying 31 = .ok (.invokevirtual 185, 3) := by decide +kernel
theorem dX12_saying_34 : decode cX12_saying 34 = .ok (.ifCond .eq 13, 3) := by decide +kernel
theorem dX12_saying_37 : decode cX12_saying 37 = .ok (.aload_n 0, 1) := by decide +kernel
theorem dX12_saying_38 : decode cX12_saying 38 = .ok (.getfield 37, 3) := by decide +kernel
theorem dX12_saying_41 : decode cX12_saying 41 = .ok (.iload_n 1, 1) := by decide +kernel
theorem dX12_saying_42 : decode cX12_saying 42 = .ok (.iaload, 1) := by decide +kernel
theorem dX12_saying_43 : decode cX12_saying 43 = .ok (.iconst 2, 1) := by decide +kernel
theorem dX12_saying_44 : decode cX12_saying 44 = .ok (.if_icmp .ne 7, 3) := by decide +kernel
theorem dX12_saying_47 : decode cX12_saying 47 = .ok (.iconst 3, 1) := by decide +kernel
theorem dX12_saying_48 : decode cX12_saying 48 = .ok (.goto 4, 3) := by decide +kernel
theorem dX12_saying_51 : decode cX12_saying 51 = .ok (.iconst 0, 1) := by decide +kernel
theorem dX12_saying_52 : decode cX12_saying 52 = .ok (.invokevirtual 131, 3) := by decide +kernel
theorem dX12_saying_55 : decode cX12_saying 55 = .ok (.ifCond .eq 5, 3) := by decide +kernel
theorem dX12_saying_58 : decode cX12_saying 58 = .ok (.iconst (-1), 1) := by decide +kernel
theorem dX12_saying_59 : decode cX12_saying 59 = .ok (.ireturn, 1) := by decide +kernel
theorem dX12_saying_60 : decode cX12_saying 60 = .ok (.aload_n 0, 1) := by decide +kernel
theorem dX12_saying_61 : decode cX12_saying 61 = .ok (.iload_n 1, 1) := by decide +kernel
theorem dX12_saying_62 : decode cX12_saying 62 = .ok (.iload_n 2, 1) := by decide +kernel
theorem dX12_saying_63 : decode cX12_saying 63 = .ok (.invokevirtual 192, 3) := by decide +kernel
theorem dX12_saying_66 : decode cX12_saying 66 = .ok (.ireturn, 1) := by decide +kernel
def J_X12_saying_52 (v1 v2 s0 : Int) (st : z_St) : Option (Int × z_St) :=
  z_b (J_X12_holds s0 st) fun r3 =>
  z_g (z32 r3.1) (if r3.1 = 0 then
    z_b (J_X12_says v1 v2 r3.2) fun r5 =>
    some (r5.1, r5.2)
  else
    some ((-1), r3.2))
set_option maxRecDepth 100000 in
set_option maxHeartbeats 4000000 in
theorem w_X12_saying_52 {κ : zK} {a : Nat → Nat} {v1 v2 s0 : Int} {st : z_St} {o : Int × z_St} (hc : z_C κ RX12 cX12_saying 3 10 0 0) (hap : z_AP κ a z_N) (he : z_E 0 κ (some .int) z_T z_N a o.1 o.2) (h : J_X12_saying_52 v1 v2 s0 st = some o) : z_V κ z_T z_N a 0 0 52 [(0, .ref (a 168)), (1, .int (zI v1)), (2, .int (zI v2))] [.int (zI s0), .ref (a 168)] st := by
  unfold J_X12_saying_52 at h
  obtain ⟨r3, hr3, h⟩ := z_b_some h
  refine z_callVI [.int (zI s0)] hc hap o_X12_holds ml_RX12_131 (fun l hl => c_X12_holds hl  hr3) (by decide) tT_168 (by decide) ⟨_, rfl, rfl⟩ rfl rfl (Nat.le_of_ble_eq_true rfl) (Nat.zero_le _) (Nat.zero_le _) dX12_saying_52 ?_
  refine z_if_eq (tgt := 60) hc dX12_saying_55 (by decide) h (fun c55 h => ?_) (fun c55 h => ?_)
  · refine z_aload_n (i := 0) 0 hc dX12_saying_60 rfl rfl ?_
    refine z_iload_n (i := 1) 1 hc dX12_saying_61 rfl rfl ?_
    refine z_iload_n (i := 2) 2 hc dX12_saying_62 rfl rfl ?_
    obtain ⟨r5, hr5, h⟩ := z_b_some h
    refine z_callVI [.int (zI v1), .int (zI v2)] hc hap o_X12_says ml_RX12_192 (fun l hl => c_X12_says hl  hr5) (by decide) tT_168 (by decide) ⟨_, rfl, rfl⟩ rfl rfl (Nat.le_of_ble_eq_true rfl) (Nat.zero_le _) (Nat.zero_le _) dX12_saying_63 ?_
    have h := Option.some.inj h
    subst h
    exact z_retI hc he dX12_saying_66
  · refine z_iconst hc dX12_saying_58 ?_
    have h := Option.some.inj h
    subst h
    exact z_retI hc he dX12_saying_59
def J_X12_saying_47 (v1 v2 : Int) (st : z_St) : Option (Int × z_St) :=
  J_X12_saying_52 v1 v2 3 st
set_option maxRecDepth 100000 in
set_option maxHeartbeats 4000000 in
theorem w_X12_saying_47 {κ : zK} {a : Nat → Nat} {v1 v2 : Int} {st : z_St} {o : Int × z_St} (hc : z_C κ RX12 cX12_saying 3 10 0 0) (hap : z_AP κ a z_N) (he : z_E 0 κ (some .int) z_T z_N a o.1 o.2) (h : J_X12_saying_47 v1 v2 st = some o) : z_V κ z_T z_N a 0 0 47 [(0, .ref (a 168)), (1, .int (zI v1)), (2, .int (zI v2))] [.ref (a 168)] st := by
  unfold J_X12_saying_47 at h
  refine z_iconst hc dX12_saying_47 ?_
  refine z_goto (tgt := 52) hc dX12_saying_48 (by decide) ?_
  refine z_sub [(0, .ref (a 168)), (1, .int (zI v1)), (2, .int (zI v2))] [0, 1, 2] rfl ?_
  exact w_X12_saying_52 hc hap he h
def J_X12_saying (x1 x2 : Int) (st : z_St) : Option (Int × z_St) :=
  z_b (J_X12_isWord x1 st) fun r1 =>
  z_g (z32 r1) (if r1 = 0 then
    J_X12_saying_52 x1 x2 1 st
  else
    z_g (z32 x2) <|
    z_b (J_X12_in x2 0 9999 st) fun r7 =>
    z_g (z32 r7) (if r7 = 0 then
      J_X12_saying_52 x1 x2 2 st
    else
      z_b (J_X12_isSaid st) fun r9 =>
      z_g (z32 r9) (if r9 = 0 then
        J_X12_saying_47 x1 x2 st
      else
        z_g (0 ≤ x1 ∧ x1 < 5) <|
        z_g (z32 (st 178 x1) ∧ z32 2) (if st 178 x1 = 2 then
          J_X12_saying_47 x1 x2 st
        else
          J_X12_saying_52 x1 x2 0 st))))
set_option maxRecDepth 100000 in
set_option maxHeartbeats 4000000 in
theorem w_X12_saying {κ : zK} {a : Nat → Nat} {x1 x2 : Int} {st : z_St} {o : Int × z_St} (hc : z_C κ RX12 cX12_saying 3 10 0 0) (hap : z_AP κ a z_N) (he : z_E 0 κ (some .int) z_T z_N a o.1 o.2) (h : J_X12_saying x1 x2 st = some o) : z_V κ z_T z_N a 0 0 0 [(0, .ref (a 168)), (1, .int (zI x1)), (2, .int (zI x2))] [] st := by
  unfold J_X12_saying at h
  refine z_aload_n (i := 0) 0 hc dX12_saying_0 rfl rfl ?_
  refine z_aload_n (i := 0) 0 hc dX12_saying_1 rfl rfl ?_
  refine z_iload_n (i := 1) 1 hc dX12_saying_2 rfl rfl ?_
  obtain ⟨r1, hr1, h⟩ := z_b_some h
  refine z_callVI [.int (zI x1)] hc hap o_X12_isWord ml_RX12_195 (fun l hl => c_X12_isWord hl  hr1) (by decide) tT_168 (by decide) ⟨_, rfl, rfl⟩ rfl rfl (Nat.le_of_ble_eq_true rfl) (Nat.zero_le _) (Nat.zero_le _) dX12_saying_3 ?_
  refine z_if_ne (tgt := 13) hc dX12_saying_6 (by decide) h (fun c6 h => ?_) (fun c6 h => ?_)
  · refine z_iconst hc dX12_saying_9 ?_
    refine z_goto (tgt := 52) hc dX12_saying_10 (by decide) ?_
    refine z_sub [(0, .ref (a 168)), (1, .int (zI x1)), (2, .int (zI x2))] [0, 1, 2] rfl ?_
    exact w_X12_saying_52 hc hap he h
  · refine z_aload_n (i := 0) 0 hc dX12_saying_13 rfl rfl ?_
    refine z_iload_n (i := 2) 2 hc dX12_saying_14 rfl rfl ?_
    refine z_i2l hc dX12_saying_15 h (fun h => ?_)
    refine z_lconst 0 hc dX12_saying_16 rfl ?_
    refine z_ldc2 9999 hc kc_RX12_183 dX12_saying_17 rfl ?_
    obtain ⟨r7, hr7, h⟩ := z_b_some h
    refine z_callVI [.long (zJ x2), .long (zJ 0), .long (zJ 9999)] hc hap o_X12_in ml_RX12_116 (fun l hl => c_X12_in hl  hr7) (by decide) tT_168 (by decide) ⟨_, rfl, rfl⟩ rfl rfl (Nat.le_of_ble_eq_true rfl) (Nat.zero_le _) (Nat.zero_le _) dX12_saying_20 ?_
    refine z_if_ne (tgt := 30) hc dX12_saying_23 (by decide) h (fun c23 h => ?_) (fun c23 h => ?_)
    · refine z_iconst hc dX12_saying_26 ?_
      refine z_goto (tgt := 52) hc dX12_saying_27 (by decide) ?_
      refine z_sub [(0, .ref (a 168)), (1, .int (zI x1)), (2, .int (zI x2))] [0, 1, 2] rfl ?_
      exact w_X12_saying_52 hc hap he h
    · refine z_aload_n (i := 0) 0 hc dX12_saying_30 rfl rfl ?_
      obtain ⟨r9, hr9, h⟩ := z_b_some h
      refine z_callVI [] hc hap o_X12_isSaid ml_RX12_185 (fun l hl => c_X12_isSaid hl  hr9) (by decide) tT_168 (by decide) ⟨_, rfl, rfl⟩ rfl rfl (Nat.le_of_ble_eq_true rfl) (Nat.zero_le _) (Nat.zero_le _) dX12_saying_31 ?_
      refine z_if_eq (tgt := 47) hc dX12_saying_34 (by decide) h (fun c34 h => ?_) (fun c34 h => ?_)
      · refine z_sub [(0, .ref (a 168)), (1, .int (zI x1)), (2, .int (zI x2))] [0, 1, 2] rfl ?_
        exact w_X12_saying_47 hc hap he h
      · refine z_aload_n (i := 0) 0 hc dX12_saying_37 rfl rfl ?_
        refine z_getA (k' := 178) hc fl_RX12_37 tT_168 (by decide) rfl rfl dX12_saying_38 ?_
        refine z_iload_n (i := 1) 1 hc dX12_saying_41 rfl rfl ?_
        refine z_iald (kI := 178) (nI9 := 5) hc tT_178 (by decide) rfl rfl (by decide) dX12_saying_42 h (fun g11 h => ?_)
        refine z_iconst hc dX12_saying_43 ?_
        refine z_icmp_ne (tgt := 51) hc dX12_saying_44 (by decide) h (fun c44 h => ?_) (fun c44 h => ?_)
        · refine z_sub [(0, .ref (a 168)), (1, .int (zI x1)), (2, .int (zI x2))] [0, 1, 2] rfl ?_
          exact w_X12_saying_47 hc hap he h
        · refine z_iconst hc dX12_saying_51 ?_
          refine z_sub [(0, .ref (a 168)), (1, .int (zI x1)), (2, .int (zI x2))] [0, 1, 2] rfl ?_
          exact w_X12_saying_52 hc hap he h
set_option maxRecDepth 100000 in
set_option maxHeartbeats 4000000 in
theorem c_X12_saying {l : Launch} (hl : l.stackTraces = false) {a : Nat → Nat} {x1 x2 : Int} {st : z_St} {o : Int × z_St} (h : J_X12_saying x1 x2 st = some o) : z_M 0 l yX12_saying cX12_saying 3 (some .int) 10 z_T z_N a [.ref (a 168), .int (zI x1), .int (zI x2)] st o.1 o.2 := z_of hl (by decide +kernel) (Nat.le_of_ble_eq_true rfl) (fun κ hc hap he => w_X12_saying hc hap he h)
theorem dX12_form_0 : decode cX12_form 0 = .ok (.aload_n 0, 1) := by decide +kernel
theorem dX12_form_1 : decode cX12_form 1 = .ok (.iload_n 1, 1) := by decide +kernel
theorem dX12_form_2 : decode cX12_form 2 = .ok (.invokevirtual 195, 3) := by decide +kernel
theorem dX12_form_5 : decode cX12_form 5 = .ok (.ifCond .eq 49, 3) := by decide +kernel
theorem dX12_form_8 : decode cX12_form 8 = .ok (.aload_n 0, 1) := by decide +kernel
theorem dX12_form_9 : decode cX12_form 9 = .ok (.iload_n 2, 1) := by decide +kernel
theorem dX12_form_10 : decode cX12_form 10 = .ok (.i2l, 1) := by decide +kernel
theorem dX12_form_11 : decode cX12_form 11 = .ok (.lconst 0, 1) := by decide +kernel
theorem dX12_form_12 : decode cX12_form 12 = .ok (.aload_n 0, 1) := by decide +kernel
theorem dX12_form_13 : decode cX12_form 13 = .ok (.getfield 37, 3) := by decide +kernel
theorem dX12_form_16 : decode cX12_form 16 = .ok (.iload_n 1, 1) := by decide +kernel
theorem dX12_form_17 : decode cX12_form 17 = .ok (.iaload, 1) := by decide +kernel
theorem dX12_form_18 : decode cX12_form 18 = .ok (.iconst 1, 1) := by decide +kernel
theorem dX12_form_19 : decode cX12_form 19 = .ok (.isub, 1) := by decide +kernel
theorem dX12_form_20 : decode cX12_form 20 = .ok (.i2l, 1) := by decide +kernel
theorem dX12_form_21 : decode cX12_form 21 = .ok (.invokevirtual 116, 3) := by decide +kernel
theorem dX12_form_24 : decode cX12_form 24 = .ok (.ifCond .eq 30, 3) := by decide +kernel
theorem dX12_form_27 : decode cX12_form 27 = .ok (.aload_n 0, 1) := by decide +kernel
theorem dX12_form_28 : decode cX12_form 28 = .ok (.iload_n 3, 1) := by decide +kernel
theorem dX12_form_29 : decode cX12_form 29 = .ok (.i2l, 1) := by decide +kernel
theorem dX12_form_30 : decode cX12_form 30 = .ok (.lconst 0, 1) := by decide +kernel
theorem dX12_form_31 : decode cX12_form 31 = .ok (.aload_n 0, 1) := by decide +kernel
theorem dX12_form_32 : decode cX12_form 32 = .ok (.getfield 40, 3) := by decide +kernel
theorem dX12_form_35 : decode cX12_form 35 = .ok (.iconst 2, 1) := by decide +kernel
theorem dX12_form_36 : decode cX12_form 36 = .ok (.iload_n 1, 1) := by decide +kernel
theorem dX12_form_37 : decode cX12_form 37 = .ok (.imul, 1) := by decide +kernel
theorem dX12_form_38 : decode cX12_form 38 = .ok (.iload_n 2, 1) := by decide +kernel
theorem dX12_form_39 : decode cX12_form 39 = .ok (.iadd, 1) := by decide +kernel
theorem dX12_form_40 : decode cX12_form 40 = .ok (.iaload, 1) := by decide +kernel
theorem dX12_form_41 : decode cX12_form 41 = .ok (.iconst 1, 1) := by decide +kernel
theorem dX12_form_42 : decode cX12_form 42 = .ok (.isub, 1) := by decide +kernel
theorem dX12_form_43 : decode cX12_form 43 = .ok (.i2l, 1) := by decide +kernel
theorem dX12_form_44 : decode cX12_form 44 = .ok (.invokevirtual 116, 3) := by decide +kernel
theorem dX12_form_47 : decode cX12_form 47 = .ok (.ifCond .eq 7, 3) := by decide +kernel
theorem dX12_form_50 : decode cX12_form 50 = .ok (.iconst 1, 1) := by decide +kernel
theorem dX12_form_51 : decode cX12_form 51 = .ok (.goto 4, 3) := by decide +kernel
theorem dX12_form_54 : decode cX12_form 54 = .ok (.iconst 0, 1) := by decide +kernel
theorem dX12_form_55 : decode cX12_form 55 = .ok (.istore 4, 2) := by decide +kernel
theorem dX12_form_57 : decode cX12_form 57 = .ok (.aload_n 0, 1) := by decide +kernel
theorem dX12_form_58 : decode cX12_form 58 = .ok (.iload 4, 2) := by decide +kernel
theorem dX12_form_60 : decode cX12_form 60 = .ok (.ifCond .eq 7, 3) := by decide +kernel
theorem dX12_form_63 : decode cX12_form 63 = .ok (.iconst 0, 1) := by decide +kernel
theorem dX12_form_64 : decode cX12_form 64 = .ok (.goto 4, 3) := by decide +kernel
theorem dX12_form_67 : decode cX12_form 67 = .ok (.iconst 1, 1) := by decide +kernel
theorem dX12_form_68 : decode cX12_form 68 = .ok (.invokevirtual 131, 3) := by decide +kernel
theorem dX12_form_71 : decode cX12_form 71 = .ok (.ifCond .eq 5, 3) := by decide +kernel
theorem dX12_form_74 : decode cX12_form 74 = .ok (.iconst (-1), 1) := by decide +kernel
theorem dX12_form_75 : decode cX12_form 75 = .ok (.ireturn, 1) := by decide +kernel
theorem dX12_form_76 : decode cX12_form 76 = .ok (.aload_n 0, 1) := by decide +kernel
theorem dX12_form_77 : decode cX12_form 77 = .ok (.iconst 2, 1) := by decide +kernel
theorem dX12_form_78 : decode cX12_form 78 = .ok (.iload_n 1, 1) := by decide +kernel
theorem dX12_form_79 : decode cX12_form 79 = .ok (.imul, 1) := by decide +kernel
theorem dX12_form_80 : decode cX12_form 80 = .ok (.iload_n 2, 1) := by decide +kernel
theorem dX12_form_81 : decode cX12_form 81 = .ok (.iadd, 1) := by decide +kernel
theorem dX12_form_82 : decode cX12_form 82 = .ok (.iload_n 3, 1) := by decide +kernel
theorem dX12_form_83 : decode cX12_form 83 = .ok (.invokevirtual 198, 3) := by decide +kernel
theorem dX12_form_86 : decode cX12_form 86 = .ok (.ireturn, 1) := by decide +kernel
def J_X12_form_68 (v1 v2 v3 s0 : Int) (st : z_St) : Option (Int × z_St) :=
  z_b (J_X12_holds s0 st) fun r3 =>
  z_g (z32 r3.1) (if r3.1 = 0 then
    z_b (J_X12_formOf ((2 * v1) + v2) v3 r3.2) fun r5 =>
    some (r5, r3.2)
  else
    some ((-1), r3.2))
set_option maxRecDepth 100000 in
set_option maxHeartbeats 4000000 in
theorem w_X12_form_68 {κ : zK} {a : Nat → Nat} {v1 v2 v3 s0 : Int} {st : z_St} {o : Int × z_St} (hc : z_C κ RX12 cX12_form 5 10 0 0) (hap : z_AP κ a z_N) (he : z_E 0 κ (some .int) z_T z_N a o.1 o.2) (h : J_X12_form_68 v1 v2 v3 s0 st = some o) : z_V κ z_T z_N a 0 0 68 [(0, .ref (a 168)), (1, .int (zI v1)), (2, .int (zI v2)), (3, .int (zI v3))] [.int (zI s0), .ref (a 168)] st := by
  unfold J_X12_form_68 at h
  obtain ⟨r3, hr3, h⟩ := z_b_some h
  refine z_callVI [.int (zI s0)] hc hap o_X12_holds ml_RX12_131 (fun l hl => c_X12_holds hl  hr3) (by decide) tT_168 (by decide) ⟨_, rfl, rfl⟩ rfl rfl (Nat.le_of_ble_eq_true rfl) (Nat.zero_le _) (Nat.zero_le _) dX12_form_68 ?_
  refine z_if_eq (tgt := 76) hc dX12_form_71 (by decide) h (fun c71 h => ?_) (fun c71 h => ?_)
  · refine z_aload_n (i := 0) 0 hc dX12_form_76 rfl rfl ?_
    refine z_iconst hc dX12_form_77 ?_
    refine z_iload_n (i := 1) 1 hc dX12_form_78 rfl rfl ?_
    refine z_imul hc dX12_form_79 ?_
    refine z_iload_n (i := 2) 2 hc dX12_form_80 rfl rfl ?_
    refine z_iadd hc dX12_form_81 ?_
    refine z_iload_n (i := 3) 3 hc dX12_form_82 rfl rfl ?_
    obtain ⟨r5, hr5, h⟩ := z_b_some h
    refine z_callVI [.int (zI ((2 * v1) + v2)), .int (zI v3)] hc hap o_X12_formOf ml_RX12_198 (fun l hl => c_X12_formOf hl  hr5) (by decide) tT_168 (by decide) ⟨_, rfl, rfl⟩ rfl rfl (Nat.le_of_ble_eq_true rfl) (Nat.zero_le _) (Nat.zero_le _) dX12_form_83 ?_
    have h := Option.some.inj h
    subst h
    exact z_retI hc he dX12_form_86
  · refine z_iconst hc dX12_form_74 ?_
    have h := Option.some.inj h
    subst h
    exact z_retI hc he dX12_form_75
def J_X12_form_55 (v1 v2 v3 s0 : Int) (st : z_St) : Option (Int × z_St) :=
  z_g (z32 s0) (if s0 = 0 then
    J_X12_form_68 v1 v2 v3 1 st
  else
    J_X12_form_68 v1 v2 v3 0 st)
set_option maxRecDepth 100000 in
set_option maxHeartbeats 4000000 in
theorem w_X12_form_55 {κ : zK} {a : Nat → Nat} {v1 v2 v3 s0 : Int} {st : z_St} {o : Int × z_St} (hc : z_C κ RX12 cX12_form 5 10 0 0) (hap : z_AP κ a z_N) (he : z_E 0 κ (some .int) z_T z_N a o.1 o.2) (h : J_X12_form_55 v1 v2 v3 s0 st = some o) : z_V κ z_T z_N a 0 0 55 [(0, .ref (a 168)), (1, .int (zI v1)), (2, .int (zI v2)), (3, .int (zI v3))] [.int (zI s0)] st := by
  unfold J_X12_form_55 at h
  refine z_istore [(4, .int (zI s0)), (0, .ref (a 168)), (1, .int (zI v1)), (2, .int (zI v2)), (3, .int (zI v3))] hc dX12_form_55 (by decide) rfl ?_
  refine z_aload_n (i := 0) 1 hc dX12_form_57 rfl rfl ?_
  refine z_iload 0 hc dX12_form_58 rfl ?_
  refine z_if_eq (tgt := 67) hc dX12_form_60 (by decide) h (fun c60 h => ?_) (fun c60 h => ?_)
  · refine z_iconst hc dX12_form_67 ?_
    refine z_sub [(0, .ref (a 168)), (1, .int (zI v1)), (2, .int (zI v2)), (3, .int (zI v3))] [1, 2, 3, 4] rfl ?_
    exact w_X12_form_68 hc hap he h
  · refine z_iconst hc dX12_form_63 ?_
    refine z_goto (tgt := 68) hc dX12_form_64 (by decide) ?_
    refine z_sub [(0, .ref (a 168)), (1, .int (zI v1)), (2, .int (zI v2)), (3, .int (zI v3))] [1, 2, 3, 4] rfl ?_
    exact w_X12_form_68 hc hap he h
def J_X12_form_54 (v1 v2 v3 : Int) (st : z_St) : Option (Int × z_St) :=
  J_X12_form_55 v1 v2 v3 0 st
set_option maxRecDepth 100000 in
set_option maxHeartbeats 4000000 in
theorem w_X12_form_54 {κ : zK} {a : Nat → Nat} {v1 v2 v3 : Int} {st : z_St} {o : Int × z_St} (hc : z_C κ RX12 cX12_form 5 10 0 0) (hap : z_AP κ a z_N) (he : z_E 0 κ (some .int) z_T z_N a o.1 o.2) (h : J_X12_form_54 v1 v2 v3 st = some o) : z_V κ z_T z_N a 0 0 54 [(0, .ref (a 168)), (1, .int (zI v1)), (2, .int (zI v2)), (3, .int (zI v3))] [] st := by
  unfold J_X12_form_54 at h
  refine z_iconst hc dX12_form_54 ?_
  refine z_sub [(0, .ref (a 168)), (1, .int (zI v1)), (2, .int (zI v2)), (3, .int (zI v3))] [0, 1, 2, 3] rfl ?_
  exact w_X12_form_55 hc hap he h
def J_X12_form (x1 x2 x3 : Int) (st : z_St) : Option (Int × z_St) :=
  z_b (J_X12_isWord x1 st) fun r1 =>
  z_g (z32 r1) (if r1 = 0 then
    J_X12_form_54 x1 x2 x3 st
  else
    z_g (z32 x2) <|
    z_g (0 ≤ x1 ∧ x1 < 5) <|
    z_g (z32 ((st 178 x1) - 1)) <|
    z_b (J_X12_in x2 0 ((st 178 x1) - 1) st) fun r8 =>
    z_g (z32 r8) (if r8 = 0 then
      J_X12_form_54 x1 x2 x3 st
    else
      z_g (z32 x3) <|
      z_g (0 ≤ (2 * x1) + x2 ∧ (2 * x1) + x2 < 10) <|
      z_g (z32 ((st 179 ((2 * x1) + x2)) - 1)) <|
      z_b (J_X12_in x3 0 ((st 179 ((2 * x1) + x2)) - 1) st) fun r11 =>
      z_g (z32 r11) (if r11 = 0 then
        J_X12_form_54 x1 x2 x3 st
      else
        J_X12_form_55 x1 x2 x3 1 st)))
set_option maxRecDepth 100000 in
set_option maxHeartbeats 4000000 in
theorem w_X12_form {κ : zK} {a : Nat → Nat} {x1 x2 x3 : Int} {st : z_St} {o : Int × z_St} (hc : z_C κ RX12 cX12_form 5 10 0 0) (hap : z_AP κ a z_N) (he : z_E 0 κ (some .int) z_T z_N a o.1 o.2) (h : J_X12_form x1 x2 x3 st = some o) : z_V κ z_T z_N a 0 0 0 [(0, .ref (a 168)), (1, .int (zI x1)), (2, .int (zI x2)), (3, .int (zI x3))] [] st := by
  unfold J_X12_form at h
  refine z_aload_n (i := 0) 0 hc dX12_form_0 rfl rfl ?_
  refine z_iload_n (i := 1) 1 hc dX12_form_1 rfl rfl ?_
  obtain ⟨r1, hr1, h⟩ := z_b_some h
  refine z_callVI [.int (zI x1)] hc hap o_X12_isWord ml_RX12_195 (fun l hl => c_X12_isWord hl  hr1) (by decide) tT_168 (by decide) ⟨_, rfl, rfl⟩ rfl rfl (Nat.le_of_ble_eq_true rfl) (Nat.zero_le _) (Nat.zero_le _) dX12_form_2 ?_
  refine z_if_eq (tgt := 54) hc dX12_form_5 (by decide) h (fun c5 h => ?_) (fun c5 h => ?_)
  · refine z_sub [(0, .ref (a 168)), (1, .int (zI x1)), (2, .int (zI x2)), (3, .int (zI x3))] [0, 1, 2, 3] rfl ?_
    exact w_X12_form_54 hc hap he h
  · refine z_aload_n (i := 0) 0 hc dX12_form_8 rfl rfl ?_
    refine z_iload_n (i := 2) 2 hc dX12_form_9 rfl rfl ?_
    refine z_i2l hc dX12_form_10 h (fun h => ?_)
    refine z_lconst 0 hc dX12_form_11 rfl ?_
    refine z_aload_n (i := 0) 0 hc dX12_form_12 rfl rfl ?_
    refine z_getA (k' := 178) hc fl_RX12_37 tT_168 (by decide) rfl rfl dX12_form_13 ?_
    refine z_iload_n (i := 1) 1 hc dX12_form_16 rfl rfl ?_
    refine z_iald (kI := 178) (nI9 := 5) hc tT_178 (by decide) rfl rfl (by decide) dX12_form_17 h (fun g7 h => ?_)
    refine z_iconst hc dX12_form_18 ?_
    refine z_isub hc dX12_form_19 ?_
    refine z_i2l hc dX12_form_20 h (fun h => ?_)
    obtain ⟨r8, hr8, h⟩ := z_b_some h
    refine z_callVI [.long (zJ x2), .long (zJ 0), .long (zJ ((st 178 x1) - 1))] hc hap o_X12_in ml_RX12_116 (fun l hl => c_X12_in hl  hr8) (by decide) tT_168 (by decide) ⟨_, rfl, rfl⟩ rfl rfl (Nat.le_of_ble_eq_true rfl) (Nat.zero_le _) (Nat.zero_le _) dX12_form_21 ?_
    refine z_if_eq (tgt := 54) hc dX12_form_24 (by decide) h (fun c24 h => ?_) (fun c24 h => ?_)
    · refine z_sub [(0, .ref (a 168)), (1, .int (zI x1)), (2, .int (zI x2)), (3, .int (zI x3))] [0, 1, 2, 3] rfl ?_
      exact w_X12_form_54 hc hap he h
    · refine z_aload_n (i := 0) 0 hc dX12_form_27 rfl rfl ?_
      refine z_iload_n (i := 3) 3 hc dX12_form_28 rfl rfl ?_
      refine z_i2l hc dX12_form_29 h (fun h => ?_)
      refine z_lconst 0 hc dX12_form_30 rfl ?_
      refine z_aload_n (i := 0) 0 hc dX12_form_31 rfl rfl ?_
      refine z_getA (k' := 179) hc fl_RX12_40 tT_168 (by decide) rfl rfl dX12_form_32 ?_
      refine z_iconst hc dX12_form_35 ?_
      refine z_iload_n (i := 1) 1 hc dX12_form_36 rfl rfl ?_
      refine z_imul hc dX12_form_37 ?_
      refine z_iload_n (i := 2) 2 hc dX12_form_38 rfl rfl ?_
      refine z_iadd hc dX12_form_39 ?_
      refine z_iald (kI := 179) (nI9 := 10) hc tT_179 (by decide) rfl rfl (by decide) dX12_form_40 h (fun g10 h => ?_)
      refine z_iconst hc dX12_form_41 ?_
      refine z_isub hc dX12_form_42 ?_
      refine z_i2l hc dX12_form_43 h (fun h => ?_)
      obtain ⟨r11, hr11, h⟩ := z_b_some h
      refine z_callVI [.long (zJ x3), .long (zJ 0), .long (zJ ((st 179 ((2 * x1) + x2)) - 1))] hc hap o_X12_in ml_RX12_116 (fun l hl => c_X12_in hl  hr11) (by decide) tT_168 (by decide) ⟨_, rfl, rfl⟩ rfl rfl (Nat.le_of_ble_eq_true rfl) (Nat.zero_le _) (Nat.zero_le _) dX12_form_44 ?_
      refine z_if_eq (tgt := 54) hc dX12_form_47 (by decide) h (fun c47 h => ?_) (fun c47 h => ?_)
      · refine z_sub [(0, .ref (a 168)), (1, .int (zI x1)), (2, .int (zI x2)), (3, .int (zI x3))] [0, 1, 2, 3] rfl ?_
        exact w_X12_form_54 hc hap he h
      · refine z_iconst hc dX12_form_50 ?_
        refine z_goto (tgt := 55) hc dX12_form_51 (by decide) ?_
        refine z_sub [(0, .ref (a 168)), (1, .int (zI x1)), (2, .int (zI x2)), (3, .int (zI x3))] [0, 1, 2, 3] rfl ?_
        exact w_X12_form_55 hc hap he h
set_option maxRecDepth 100000 in
set_option maxHeartbeats 4000000 in
theorem c_X12_form {l : Launch} (hl : l.stackTraces = false) {a : Nat → Nat} {x1 x2 x3 : Int} {st : z_St} {o : Int × z_St} (h : J_X12_form x1 x2 x3 st = some o) : z_M 0 l yX12_form cX12_form 5 (some .int) 10 z_T z_N a [.ref (a 168), .int (zI x1), .int (zI x2), .int (zI x3)] st o.1 o.2 := z_of hl (by decide +kernel) (Nat.le_of_ble_eq_true rfl) (fun κ hc hap he => w_X12_form hc hap he h)
theorem dX12_cost_0 : decode cX12_cost 0 = .ok (.aload_n 0, 1) := by decide +kernel
theorem dX12_cost_1 : decode cX12_cost 1 = .ok (.iload_n 1, 1) := by decide +kernel
theorem dX12_cost_2 : decode cX12_cost 2 = .ok (.i2l, 1) := by decide +kernel
theorem dX12_cost_3 : decode cX12_cost 3 = .ok (.lconst 0, 1) := by decide +kernel
theorem dX12_cost_4 : decode cX12_cost 4 = .ok (.aload_n 0, 1) := by decide +kernel
theorem dX12_cost_5 : decode cX12_cost 5 = .ok (.getfield 128, 3) := by decide +kernel
theorem dX12_cost_8 : decode cX12_cost 8 = .ok (.iconst 1, 1) := by decide +kernel
theorem dX12_cost_9 : decode cX12_cost 9 = .ok (.isub, 1) := by decide +kernel
theorem dX12_cost_10 : decode cX12_cost 10 = .ok (.i2l, 1) := by decide +kernel
theorem dX12_cost_11 : decode cX12_cost 11 = .ok (.invokevirtual 116, 3) := by decide +kernel
theorem dX12_cost_14 : decode cX12_cost 14 = .ok (.ifCond .eq 15, 3) := by decide +kernel
theorem dX12_cost_17 : decode cX12_cost 17 = .ok (.aload_n 0, 1) := by decide +kernel
theorem dX12_cost_18 : decode cX12_cost 18 = .ok (.iload_n 2, 1) := by decide +kernel
theorem dX12_cost_19 : decode cX12_cost 19 = .ok (.invokevirtual 173, 3) := by decide +kernel
theorem dX12_cost_22 : decode cX12_cost 22 = .ok (.ifCond .eq 7, 3) := by decide +kernel
theorem dX12_cost_25 : decode cX12_cost 25 = .ok (.iconst 1, 1) := by decide +kernel
theorem dX12_cost_26 : decode cX12_cost 26 = .ok (.goto 4, 3) := by decide +kernel
theorem dX12_cost_29 : decode cX12_cost 29 = .ok (.iconst 0, 1) := by decide +kernel
theorem dX12_cost_30 : decode cX12_cost 30 = .ok (.istore 4, 2) := by decide +kernel
theorem dX12_cost_32 : decode cX12_cost 32 = .ok (.aload_n 0, 1) := by decide +kernel
theorem dX12_cost_33 : decode cX12_cost 33 = .ok (.iload 4, 2) := by decide +kernel
theorem dX12_cost_35 : decode cX12_cost 35 = .ok (.ifCond .ne 7, 3) := by decide +kernel
theorem dX12_cost_38 : decode cX12_cost 38 = .ok (.iconst 1, 1) := by decide +kernel
theorem dX12_cost_39 : decode cX12_cost 39 = .ok (.goto 25, 3) := by decide +kernel
theorem dX12_cost_42 : decode cX12_cost 42 = .ok (.aload_n 0, 1) := by decide +kernel
theorem dX12_cost_43 : decode cX12_cost 43 = .ok (.iload_n 3, 1) := by decide +kernel
theorem dX12_cost_44 : decode cX12_cost 44 = .ok (.i2l, 1) := by decide +kernel
theorem dX12_cost_45 : decode cX12_cost 45 = .ok (.lconst 0, 1) := by decide +kernel
theorem dX12_cost_46 : decode cX12_cost 46 = .ok (.aload_n 0, 1) := by decide +kernel
theorem dX12_cost_47 : decode cX12_cost 47 = .ok (.getfield 22, 3) := by decide +kernel
theorem dX12_cost_50 : decode cX12_cost 50 = .ok (.iload_n 2, 1) := by decide +kernel
theorem dX12_cost_51 : decode cX12_cost 51 = .ok (.iaload, 1) := by decide +kernel
theorem dX12_cost_52 : decode cX12_cost 52 = .ok (.i2l, 1) := by decide +kernel
theorem dX12_cost_53 : decode cX12_cost 53 = .ok (.invokevirtual 116, 3) := by decide +kernel
theorem dX12_cost_56 : decode cX12_cost 56 = .ok (.ifCond .eq 7, 3) := by decide +kernel
theorem dX12_cost_59 : decode cX12_cost 59 = .ok (.iconst 0, 1) := by decide +kernel
theorem dX12_cost_60 : decode cX12_cost 60 = .ok (.goto 4, 3) := by decide +kernel
theorem dX12_cost_63 : decode cX12_cost 63 = .ok (.iconst 2, 1) := by decide +kernel
theorem dX12_cost_64 : decode cX12_cost 64 = .ok (.invokevirtual 131, 3) := by decide +kernel
theorem dX12_cost_67 : decode cX12_cost 67 = .ok (.ifCond .eq 7, 3) := by decide +kernel
theorem dX12_cost_70 : decode cX12_cost 70 = .ok (.ldc2_w 145, 3) := by decide +kernel
theorem dX12_cost_73 : decode cX12_cost 73 = .ok (.lreturn, 1) := by decide +kernel
theorem dX12_cost_74 : decode cX12_cost 74 = .ok (.aload_n 0, 1) := by decide +kernel
theorem dX12_cost_75 : decode cX12_cost 75 = .ok (.iload_n 1, 1) := by decide +kernel
theorem dX12_cost_76 : decode cX12_cost 76 = .ok (.iload_n 2, 1) := by decide +kernel
theorem dX12_cost_77 : decode cX12_cost 77 = .ok (.iload_n 3, 1) := by decide +kernel
theorem dX12_cost_78 : decode cX12_cost 78 = .ok (.invokevirtual 201, 3) := by decide +kernel
theorem dX12_cost_81 : decode cX12_cost 81 = .ok (.lreturn, 1) := by decide +kernel
def J_X12_cost_64 (v1 v2 v3 s0 : Int) (st : z_St) : Option (Int × z_St) :=
  z_b (J_X12_holds s0 st) fun r3 =>
  z_g (z32 r3.1) (if r3.1 = 0 then
    z_b (J_X12_costOf v1 v2 v3 r3.2) fun r5 =>
    some (r5, r3.2)
  else
    some ((-1), r3.2))
set_option maxRecDepth 100000 in
set_option maxHeartbeats 4000000 in
theorem w_X12_cost_64 {κ : zK} {a : Nat → Nat} {v1 v2 v3 s0 : Int} {st : z_St} {o : Int × z_St} (hc : z_C κ RX12 cX12_cost 5 10 0 0) (hap : z_AP κ a z_N) (he : z_E 1 κ (some .long) z_T z_N a o.1 o.2) (h : J_X12_cost_64 v1 v2 v3 s0 st = some o) : z_V κ z_T z_N a 0 0 64 [(0, .ref (a 168)), (1, .int (zI v1)), (2, .int (zI v2)), (3, .int (zI v3))] [.int (zI s0), .ref (a 168)] st := by
  unfold J_X12_cost_64 at h
  obtain ⟨r3, hr3, h⟩ := z_b_some h
  refine z_callVI [.int (zI s0)] hc hap o_X12_holds ml_RX12_131 (fun l hl => c_X12_holds hl  hr3) (by decide) tT_168 (by decide) ⟨_, rfl, rfl⟩ rfl rfl (Nat.le_of_ble_eq_true rfl) (Nat.zero_le _) (Nat.zero_le _) dX12_cost_64 ?_
  refine z_if_eq (tgt := 74) hc dX12_cost_67 (by decide) h (fun c67 h => ?_) (fun c67 h => ?_)
  · refine z_aload_n (i := 0) 0 hc dX12_cost_74 rfl rfl ?_
    refine z_iload_n (i := 1) 1 hc dX12_cost_75 rfl rfl ?_
    refine z_iload_n (i := 2) 2 hc dX12_cost_76 rfl rfl ?_
    refine z_iload_n (i := 3) 3 hc dX12_cost_77 rfl rfl ?_
    obtain ⟨r5, hr5, h⟩ := z_b_some h
    refine z_callVJ [.int (zI v1), .int (zI v2), .int (zI v3)] hc hap o_X12_costOf ml_RX12_201 (fun l hl => c_X12_costOf hl  hr5) (by decide) tT_168 (by decide) ⟨_, rfl, rfl⟩ rfl rfl (Nat.le_of_ble_eq_true rfl) (Nat.zero_le _) (Nat.zero_le _) dX12_cost_78 ?_
    have h := Option.some.inj h
    subst h
    exact z_retJ hc he dX12_cost_81
  · refine z_ldc2 (-1) hc kc_RX12_145 dX12_cost_70 rfl ?_
    have h := Option.some.inj h
    subst h
    exact z_retJ hc he dX12_cost_73
def J_X12_cost_30 (v1 v2 v3 s0 : Int) (st : z_St) : Option (Int × z_St) :=
  z_g (z32 s0) (if s0 = 0 then
    J_X12_cost_64 v1 v2 v3 1 st
  else
    z_g (z32 v3) <|
    z_g (0 ≤ v2 ∧ v2 < 6) <|
    z_g (z32 (st 173 v2)) <|
    z_b (J_X12_in v3 0 (st 173 v2) st) fun r8 =>
    z_g (z32 r8) (if r8 = 0 then
      J_X12_cost_64 v1 v2 v3 2 st
    else
      J_X12_cost_64 v1 v2 v3 0 st))
set_option maxRecDepth 100000 in
set_option maxHeartbeats 4000000 in
theorem w_X12_cost_30 {κ : zK} {a : Nat → Nat} {v1 v2 v3 s0 : Int} {st : z_St} {o : Int × z_St} (hc : z_C κ RX12 cX12_cost 5 10 0 0) (hap : z_AP κ a z_N) (he : z_E 1 κ (some .long) z_T z_N a o.1 o.2) (h : J_X12_cost_30 v1 v2 v3 s0 st = some o) : z_V κ z_T z_N a 0 0 30 [(0, .ref (a 168)), (1, .int (zI v1)), (2, .int (zI v2)), (3, .int (zI v3))] [.int (zI s0)] st := by
  unfold J_X12_cost_30 at h
  refine z_istore [(4, .int (zI s0)), (0, .ref (a 168)), (1, .int (zI v1)), (2, .int (zI v2)), (3, .int (zI v3))] hc dX12_cost_30 (by decide) rfl ?_
  refine z_aload_n (i := 0) 1 hc dX12_cost_32 rfl rfl ?_
  refine z_iload 0 hc dX12_cost_33 rfl ?_
  refine z_if_ne (tgt := 42) hc dX12_cost_35 (by decide) h (fun c35 h => ?_) (fun c35 h => ?_)
  · refine z_iconst hc dX12_cost_38 ?_
    refine z_goto (tgt := 64) hc dX12_cost_39 (by decide) ?_
    refine z_sub [(0, .ref (a 168)), (1, .int (zI v1)), (2, .int (zI v2)), (3, .int (zI v3))] [1, 2, 3, 4] rfl ?_
    exact w_X12_cost_64 hc hap he h
  · refine z_aload_n (i := 0) 1 hc dX12_cost_42 rfl rfl ?_
    refine z_iload_n (i := 3) 4 hc dX12_cost_43 rfl rfl ?_
    refine z_i2l hc dX12_cost_44 h (fun h => ?_)
    refine z_lconst 0 hc dX12_cost_45 rfl ?_
    refine z_aload_n (i := 0) 1 hc dX12_cost_46 rfl rfl ?_
    refine z_getA (k' := 173) hc fl_RX12_22 tT_168 (by decide) rfl rfl dX12_cost_47 ?_
    refine z_iload_n (i := 2) 3 hc dX12_cost_50 rfl rfl ?_
    refine z_iald (kI := 173) (nI9 := 6) hc tT_173 (by decide) rfl rfl (by decide) dX12_cost_51 h (fun g7 h => ?_)
    refine z_i2l hc dX12_cost_52 h (fun h => ?_)
    obtain ⟨r8, hr8, h⟩ := z_b_some h
    refine z_callVI [.long (zJ v3), .long (zJ 0), .long (zJ (st 173 v2))] hc hap o_X12_in ml_RX12_116 (fun l hl => c_X12_in hl  hr8) (by decide) tT_168 (by decide) ⟨_, rfl, rfl⟩ rfl rfl (Nat.le_of_ble_eq_true rfl) (Nat.zero_le _) (Nat.zero_le _) dX12_cost_53 ?_
    refine z_if_eq (tgt := 63) hc dX12_cost_56 (by decide) h (fun c56 h => ?_) (fun c56 h => ?_)
    · refine z_iconst hc dX12_cost_63 ?_
      refine z_sub [(0, .ref (a 168)), (1, .int (zI v1)), (2, .int (zI v2)), (3, .int (zI v3))] [1, 2, 3, 4] rfl ?_
      exact w_X12_cost_64 hc hap he h
    · refine z_iconst hc dX12_cost_59 ?_
      refine z_goto (tgt := 64) hc dX12_cost_60 (by decide) ?_
      refine z_sub [(0, .ref (a 168)), (1, .int (zI v1)), (2, .int (zI v2)), (3, .int (zI v3))] [1, 2, 3, 4] rfl ?_
      exact w_X12_cost_64 hc hap he h
def J_X12_cost_29 (v1 v2 v3 : Int) (st : z_St) : Option (Int × z_St) :=
  J_X12_cost_30 v1 v2 v3 0 st
set_option maxRecDepth 100000 in
set_option maxHeartbeats 4000000 in
theorem w_X12_cost_29 {κ : zK} {a : Nat → Nat} {v1 v2 v3 : Int} {st : z_St} {o : Int × z_St} (hc : z_C κ RX12 cX12_cost 5 10 0 0) (hap : z_AP κ a z_N) (he : z_E 1 κ (some .long) z_T z_N a o.1 o.2) (h : J_X12_cost_29 v1 v2 v3 st = some o) : z_V κ z_T z_N a 0 0 29 [(0, .ref (a 168)), (1, .int (zI v1)), (2, .int (zI v2)), (3, .int (zI v3))] [] st := by
  unfold J_X12_cost_29 at h
  refine z_iconst hc dX12_cost_29 ?_
  refine z_sub [(0, .ref (a 168)), (1, .int (zI v1)), (2, .int (zI v2)), (3, .int (zI v3))] [0, 1, 2, 3] rfl ?_
  exact w_X12_cost_30 hc hap he h
def J_X12_cost (x1 x2 x3 : Int) (st : z_St) : Option (Int × z_St) :=
  z_g (z32 x1) <|
  z_g (z32 ((st 168 2) - 1)) <|
  z_b (J_X12_in x1 0 ((st 168 2) - 1) st) fun r1 =>
  z_g (z32 r1) (if r1 = 0 then
    J_X12_cost_29 x1 x2 x3 st
  else
    z_b (J_X12_isSound x2 st) fun r10 =>
    z_g (z32 r10) (if r10 = 0 then
      J_X12_cost_29 x1 x2 x3 st
    else
      J_X12_cost_30 x1 x2 x3 1 st))
set_option maxRecDepth 100000 in
set_option maxHeartbeats 4000000 in
theorem w_X12_cost {κ : zK} {a : Nat → Nat} {x1 x2 x3 : Int} {st : z_St} {o : Int × z_St} (hc : z_C κ RX12 cX12_cost 5 10 0 0) (hap : z_AP κ a z_N) (he : z_E 1 κ (some .long) z_T z_N a o.1 o.2) (h : J_X12_cost x1 x2 x3 st = some o) : z_V κ z_T z_N a 0 0 0 [(0, .ref (a 168)), (1, .int (zI x1)), (2, .int (zI x2)), (3, .int (zI x3))] [] st := by
  unfold J_X12_cost at h
  refine z_aload_n (i := 0) 0 hc dX12_cost_0 rfl rfl ?_
  refine z_iload_n (i := 1) 1 hc dX12_cost_1 rfl rfl ?_
  refine z_i2l hc dX12_cost_2 h (fun h => ?_)
  refine z_lconst 0 hc dX12_cost_3 rfl ?_
  refine z_aload_n (i := 0) 0 hc dX12_cost_4 rfl rfl ?_
  refine z_getI (kI := 168) (jI := 2) hc fl_RX12_128 tT_168 (by decide) rfl rfl rfl dX12_cost_5 ?_
  refine z_iconst hc dX12_cost_8 ?_
  refine z_isub hc dX12_cost_9 ?_
  refine z_i2l hc dX12_cost_10 h (fun h => ?_)
  obtain ⟨r1, hr1, h⟩ := z_b_some h
  refine z_callVI [.long (zJ x1), .long (zJ 0), .long (zJ ((st 168 2) - 1))] hc hap o_X12_in ml_RX12_116 (fun l hl => c_X12_in hl  hr1) (by decide) tT_168 (by decide) ⟨_, rfl, rfl⟩ rfl rfl (Nat.le_of_ble_eq_true rfl) (Nat.zero_le _) (Nat.zero_le _) dX12_cost_11 ?_
  refine z_if_eq (tgt := 29) hc dX12_cost_14 (by decide) h (fun c14 h => ?_) (fun c14 h => ?_)
  · refine z_sub [(0, .ref (a 168)), (1, .int (zI x1)), (2, .int (zI x2)), (3, .int (zI x3))] [0, 1, 2, 3] rfl ?_
    exact w_X12_cost_29 hc hap he h
  · refine z_aload_n (i := 0) 0 hc dX12_cost_17 rfl rfl ?_
    refine z_iload_n (i := 2) 2 hc dX12_cost_18 rfl rfl ?_
    obtain ⟨r10, hr10, h⟩ := z_b_some h
    refine z_callVI [.int (zI x2)] hc hap o_X12_isSound ml_RX12_173 (fun l hl => c_X12_isSound hl  hr10) (by decide) tT_168 (by decide) ⟨_, rfl, rfl⟩ rfl rfl (Nat.le_of_ble_eq_true rfl) (Nat.zero_le _) (Nat.zero_le _) dX12_cost_19 ?_
    refine z_if_eq (tgt := 29) hc dX12_cost_22 (by decide) h (fun c22 h => ?_) (fun c22 h => ?_)
    · refine z_sub [(0, .ref (a 168)), (1, .int (zI x1)), (2, .int (zI x2)), (3, .int (zI x3))] [0, 1, 2, 3] rfl ?_
      exact w_X12_cost_29 hc hap he h
    · refine z_iconst hc dX12_cost_25 ?_
      refine z_goto (tgt := 30) hc dX12_cost_26 (by decide) ?_
      refine z_sub [(0, .ref (a 168)), (1, .int (zI x1)), (2, .int (zI x2)), (3, .int (zI x3))] [0, 1, 2, 3] rfl ?_
      exact w_X12_cost_30 hc hap he h
set_option maxRecDepth 100000 in
set_option maxHeartbeats 4000000 in
theorem c_X12_cost {l : Launch} (hl : l.stackTraces = false) {a : Nat → Nat} {x1 x2 x3 : Int} {st : z_St} {o : Int × z_St} (h : J_X12_cost x1 x2 x3 st = some o) : z_M 1 l yX12_cost cX12_cost 5 (some .long) 10 z_T z_N a [.ref (a 168), .int (zI x1), .int (zI x2), .int (zI x3)] st o.1 o.2 := z_of hl (by decide +kernel) (Nat.le_of_ble_eq_true rfl) (fun κ hc hap he => w_X12_cost hc hap he h)
theorem dX12_told_0 : decode cX12_told 0 = .ok (.lload_n 1, 1) := by decide +kernel
theorem dX12_told_1 : decode cX12_told 1 = .ok (.ldc2_w 205, 3) := by decide +kernel
theorem dX12_told_4 : decode cX12_told 4 = .ok (.lcmp, 1) := by decide +kernel
theorem dX12_told_5 : decode cX12_told 5 = .ok (.ifCond .lt 9, 3) := by decide +kernel
theorem dX12_told_8 : decode cX12_told 8 = .ok (.ldc2_w 145, 3) := by decide +kernel
theorem dX12_told_11 : decode cX12_told 11 = .ok (.goto 4, 3) := by decide +kernel
theorem dX12_told_14 : decode cX12_told 14 = .ok (.lload_n 1, 1) := by decide +kernel
theorem dX12_told_15 : decode cX12_told 15 = .ok (.lreturn, 1) := by decide +kernel
def J_X12_told_15 (s0 : Int) (st : z_St) : Option (Int) :=
  some s0
set_option maxRecDepth 100000 in
set_option maxHeartbeats 4000000 in
theorem w_X12_told_15 {κ : zK} {a : Nat → Nat} {s0 : Int} {st : z_St} {o : Int} (hc : z_C κ RX12 cX12_told 3 8 0 0) (hap : z_AP κ a z_N) (he : z_E 1 κ (some .long) z_T z_N a o st) (h : J_X12_told_15 s0 st = some o) : z_V κ z_T z_N a 0 0 15 [] [.long (zJ s0)] st := by
  unfold J_X12_told_15 at h
  have h := Option.some.inj h
  subst h
  exact z_retJ hc he dX12_told_15
def J_X12_told (x1 : Int) (st : z_St) : Option (Int) :=
  z_g (z64 x1 ∧ z64 1000000000000000000) (if x1 < 1000000000000000000 then
    J_X12_told_15 x1 st
  else
    J_X12_told_15 (-1) st)
set_option maxRecDepth 100000 in
set_option maxHeartbeats 4000000 in
theorem w_X12_told {κ : zK} {a : Nat → Nat} {x1 : Int} {st : z_St} {o : Int} (hc : z_C κ RX12 cX12_told 3 8 0 0) (hap : z_AP κ a z_N) (he : z_E 1 κ (some .long) z_T z_N a o st) (h : J_X12_told x1 st = some o) : z_V κ z_T z_N a 0 0 0 [(0, .ref (a 168)), (1, .long (zJ x1))] [] st := by
  unfold J_X12_told at h
  refine z_lload_n (i := 1) 1 hc dX12_told_0 rfl rfl ?_
  refine z_ldc2 1000000000000000000 hc kc_RX12_205 dX12_told_1 rfl ?_
  refine z_lcmp_lt (tgt := 14) hc dX12_told_4 dX12_told_5 (by decide) h (fun c4 h => ?_) (fun c4 h => ?_)
  · refine z_lload_n (i := 1) 1 hc dX12_told_14 rfl rfl ?_
    refine z_sub [] [] rfl ?_
    exact w_X12_told_15 hc hap he h
  · refine z_ldc2 (-1) hc kc_RX12_145 dX12_told_8 rfl ?_
    refine z_goto (tgt := 15) hc dX12_told_11 (by decide) ?_
    refine z_sub [] [] rfl ?_
    exact w_X12_told_15 hc hap he h
set_option maxRecDepth 100000 in
set_option maxHeartbeats 4000000 in
theorem c_X12_told {l : Launch} (hl : l.stackTraces = false) {a : Nat → Nat} {x1 : Int} {st : z_St} {o : Int} (h : J_X12_told x1 st = some o) : z_M 1 l yX12_told cX12_told 3 (some .long) 8 z_T z_N a [.ref (a 168), .long (zJ x1)] st o st := z_of hl (by decide +kernel) (Nat.le_of_ble_eq_true rfl) (fun κ hc hap he => w_X12_told hc hap he h)
