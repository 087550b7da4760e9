theorem dX12_sure_0 : decode cX12_sure 0 = .ok (.aload_n 0, 1) := by decide +kernel
theorem dX12_sure_1 : decode cX12_sure 1 = .ok (.iload_n 3, 1) := by decide +kernel
theorem dX12_sure_2 : decode cX12_sure 2 = .ok (.i2l, 1) := by decide +kernel
theorem dX12_sure_3 : decode cX12_sure 3 = .ok (.lconst 0, 1) := by decide +kernel
theorem dX12_sure_4 : decode cX12_sure 4 = .ok (.aload_n 0, 1) := by decide +kernel
theorem dX12_sure_5 : decode cX12_sure 5 = .ok (.getfield 128, 3) := by decide +kernel
theorem dX12_sure_8 : decode cX12_sure 8 = .ok (.iconst 1, 1) := by decide +kernel
theorem dX12_sure_9 : decode cX12_sure 9 = .ok (.isub, 1) := by decide +kernel
theorem dX12_sure_10 : decode cX12_sure 10 = .ok (.i2l, 1) := by decide +kernel
theorem dX12_sure_11 : decode cX12_sure 11 = .ok (.invokevirtual 116, 3) := by decide +kernel
theorem dX12_sure_14 : decode cX12_sure 14 = .ok (.istore 4, 2) := by decide +kernel
theorem dX12_sure_16 : decode cX12_sure 16 = .ok (.iload 4, 2) := by decide +kernel
theorem dX12_sure_18 : decode cX12_sure 18 = .ok (.ifCond .eq 9, 3) := by decide +kernel
theorem dX12_sure_21 : decode cX12_sure 21 = .ok (.lload_n 1, 1) := by decide +kernel
theorem dX12_sure_22 : decode cX12_sure 22 = .ok (.lconst 0, 1) := by decide +kernel
theorem dX12_sure_23 : decode cX12_sure 23 = .ok (.lcmp, 1) := by decide +kernel
theorem dX12_sure_24 : decode cX12_sure 24 = .ok (.ifCond .ge 20, 3) := by decide +kernel
theorem dX12_sure_27 : decode cX12_sure 27 = .ok (.aload_n 0, 1) := by decide +kernel
theorem dX12_sure_28 : decode cX12_sure 28 = .ok (.iload 4, 2) := by decide +kernel
theorem dX12_sure_30 : decode cX12_sure 30 = .ok (.ifCond .eq 7, 3) := by decide +kernel
theorem dX12_sure_33 : decode cX12_sure 33 = .ok (.iconst 2, 1) := by decide +kernel
theorem dX12_sure_34 : decode cX12_sure 34 = .ok (.goto 4, 3) := by decide +kernel
theorem dX12_sure_37 : decode cX12_sure 37 = .ok (.iconst 1, 1) := by decide +kernel
theorem dX12_sure_38 : decode cX12_sure 38 = .ok (.invokevirtual 131, 3) := by decide +kernel
theorem dX12_sure_41 : decode cX12_sure 41 = .ok (.pop, 1) := by decide +kernel
theorem dX12_sure_42 : decode cX12_sure 42 = .ok (.iconst (-1), 1) := by decide +kernel
theorem dX12_sure_43 : decode cX12_sure 43 = .ok (.ireturn, 1) := by decide +kernel
theorem dX12_sure_44 : decode cX12_sure 44 = .ok (.aload_n 0, 1) := by decide +kernel
theorem dX12_sure_45 : decode cX12_sure 45 = .ok (.aload_n 0, 1) := by decide +kernel
theorem dX12_sure_46 : decode cX12_sure 46 = .ok (.invokevirtual 141, 3) := by decide +kernel
theorem dX12_sure_49 : decode cX12_sure 49 = .ok (.ifCond .ge 7, 3) := by decide +kernel
theorem dX12_sure_52 : decode cX12_sure 52 = .ok (.iconst 3, 1) := by decide +kernel
theorem dX12_sure_53 : decode cX12_sure 53 = .ok (.goto 4, 3) := by decide +kernel
theorem dX12_sure_56 : decode cX12_sure 56 = .ok (.iconst 0, 1) := by decide +kernel
theorem dX12_sure_57 : decode cX12_sure 57 = .ok (.invokevirtual 131, 3) := by decide +kernel
theorem dX12_sure_60 : decode cX12_sure 60 = .ok (.ifCond .eq 5, 3) := by decide +kernel
theorem dX12_sure_63 : decode cX12_sure 63 = .ok (.iconst (-1), 1) := by decide +kernel
theorem dX12_sure_64 : decode cX12_sure 64 = .ok (.ireturn, 1) := by decide +kernel
theorem dX12_sure_65 : decode cX12_sure 65 = .ok (.aload_n 0, 1) := by decide +kernel
theorem dX12_sure_66 : decode cX12_sure 66 = .ok (.invokevirtual 303, 3) := by decide +kernel
theorem dX12_sure_69 : decode cX12_sure 69 = .ok (.pop, 1) := by decide +kernel
theorem dX12_sure_70 : decode cX12_sure 70 = .ok (.iconst 0, 1) := by decide +kernel
theorem dX12_sure_71 : decode cX12_sure 71 = .ok (.istore 5, 2) := by decide +kernel
theorem dX12_sure_73 : decode cX12_sure 73 = .ok (.iconst 0, 1) := by decide +kernel
theorem dX12_sure_74 : decode cX12_sure 74 = .ok (.istore 6, 2) := by decide +kernel
theorem dX12_sure_76 : decode cX12_sure 76 = .ok (.iconst 0, 1) := by decide +kernel
theorem dX12_sure_77 : decode cX12_sure 77 = .ok (.istore 7, 2) := by decide +kernel
theorem dX12_sure_79 : decode cX12_sure 79 = .ok (.iload 7, 2) := by decide +kernel
theorem dX12_sure_81 : decode cX12_sure 81 = .ok (.aload_n 0, 1) := by decide +kernel
theorem dX12_sure_82 : decode cX12_sure 82 = .ok (.getfield 189, 3) := by decide +kernel
theorem dX12_sure_85 : decode cX12_sure 85 = .ok (.if_icmp .ge 103, 3) := by decide +kernel
theorem dX12_sure_88 : decode cX12_sure 88 = .ok (.iconst 0, 1) := by decide +kernel
theorem dX12_sure_89 : decode cX12_sure 89 = .ok (.istore 8, 2) := by decide +kernel
theorem dX12_sure_91 : decode cX12_sure 91 = .ok (.iload 8, 2) := by decide +kernel
theorem dX12_sure_93 : decode cX12_sure 93 = .ok (.iload_n 3, 1) := by decide +kernel
theorem dX12_sure_94 : decode cX12_sure 94 = .ok (.if_icmp .gt 88, 3) := by decide +kernel
theorem dX12_sure_97 : decode cX12_sure 97 = .ok (.iload_n 3, 1) := by decide +kernel
theorem dX12_sure_98 : decode cX12_sure 98 = .ok (.iconst 1, 1) := by decide +kernel
theorem dX12_sure_99 : decode cX12_sure 99 = .ok (.iadd, 1) := by decide +kernel
theorem dX12_sure_100 : decode cX12_sure 100 = .ok (.istore 9, 2) := by decide +kernel
theorem dX12_sure_102 : decode cX12_sure 102 = .ok (.iload 9, 2) := by decide +kernel
theorem dX12_sure_104 : decode cX12_sure 104 = .ok (.aload_n 0, 1) := by decide +kernel
theorem dX12_sure_105 : decode cX12_sure 105 = .ok (.getfield 128, 3) := by decide +kernel
theorem dX12_sure_108 : decode cX12_sure 108 = .ok (.if_icmp .gt 68, 3) := by decide +kernel
theorem dX12_sure_111 : decode cX12_sure 111 = .ok (.aload_n 0, 1) := by decide +kernel
theorem dX12_sure_112 : decode cX12_sure 112 = .ok (.iload 7, 2) := by decide +kernel
theorem dX12_sure_114 : decode cX12_sure 114 = .ok (.iload 8, 2) := by decide +kernel
theorem dX12_sure_116 : decode cX12_sure 116 = .ok (.iload 9, 2) := by decide +kernel
theorem dX12_sure_118 : decode cX12_sure 118 = .ok (.lload_n 1, 1) := by decide +kernel
theorem dX12_sure_119 : decode cX12_sure 119 = .ok (.invokevirtual 306, 3) := by decide +kernel
theorem dX12_sure_122 : decode cX12_sure 122 = .ok (.istore 10, 2) := by decide +kernel
theorem dX12_sure_124 : decode cX12_sure 124 = .ok (.iload 6, 2) := by decide +kernel
theorem dX12_sure_126 : decode cX12_sure 126 = .ok (.iload 10, 2) := by decide +kernel
theorem dX12_sure_128 : decode cX12_sure 128 = .ok (.ifCond .eq 7, 3) := by decide +kernel
theorem dX12_sure_131 : decode cX12_sure 131 = .ok (.iconst 1, 1) := by decide +kernel
theorem dX12_sure_132 : decode cX12_sure 132 = .ok (.goto 4, 3) := by decide +kernel
theorem dX12_sure_135 : decode cX12_sure 135 = .ok (.iconst 0, 1) := by decide +kernel
theorem dX12_sure_136 : decode cX12_sure 136 = .ok (.iadd, 1) := by decide +kernel
theorem dX12_sure_137 : decode cX12_sure 137 = .ok (.istore 6, 2) := by decide +kernel
theorem dX12_sure_139 : decode cX12_sure 139 = .ok (.iload 5, 2) := by decide +kernel
theorem dX12_sure_141 : decode cX12_sure 141 = .ok (.iload 10, 2) := by decide +kernel
theorem dX12_sure_143 : decode cX12_sure 143 = .ok (.ifCond .eq 23, 3) := by decide +kernel
theorem dX12_sure_146 : decode cX12_sure 146 = .ok (.iload 7, 2) := by decide +kernel
theorem dX12_sure_148 : decode cX12_sure 148 = .ok (.aload_n 0, 1) := by decide +kernel
theorem dX12_sure_149 : decode cX12_sure 149 = .ok (.getfield 84, 3) := by decide +kernel
theorem dX12_sure_152 : decode cX12_sure 152 = .ok (.bipush 6, 2) := by decide +kernel
theorem dX12_sure_154 : decode cX12_sure 154 = .ok (.iload_n 3, 1) := by decide +kernel
theorem dX12_sure_155 : decode cX12_sure 155 = .ok (.imul, 1) := by decide +kernel
theorem dX12_sure_156 : decode cX12_sure 156 = .ok (.iconst 1, 1) := by decide +kernel
theorem dX12_sure_157 : decode cX12_sure 157 = .ok (.iadd, 1) := by decide +kernel
theorem dX12_sure_158 : decode cX12_sure 158 = .ok (.iaload, 1) := by decide +kernel
theorem dX12_sure_159 : decode cX12_sure 159 = .ok (.if_icmp .ne 7, 3) := by decide +kernel
theorem dX12_sure_162 : decode cX12_sure 162 = .ok (.iconst 1, 1) := by decide +kernel
theorem dX12_sure_163 : decode cX12_sure 163 = .ok (.goto 4, 3) := by decide +kernel
theorem dX12_sure_166 : decode cX12_sure 166 = .ok (.iconst 0, 1) := by decide +kernel
theorem dX12_sure_167 : decode cX12_sure 167 = .ok (.iadd, 1) := by decide +kernel
theorem dX12_sure_168 : decode cX12_sure 168 = .ok (.istore 5, 2) := by decide +kernel
theorem dX12_sure_170 : decode cX12_sure 170 = .ok (.iinc 9 1, 3) := by decide +kernel
theorem dX12_sure_173 : decode cX12_sure 173 = .ok (.goto (-71), 3) := by decide +kernel
theorem dX12_sure_176 : decode cX12_sure 176 = .ok (.iinc 8 1, 3) := by decide +kernel
theorem dX12_sure_179 : decode cX12_sure 179 = .ok (.goto (-88), 3) := by decide +kernel
theorem dX12_sure_182 : decode cX12_sure 182 = .ok (.iinc 7 1, 3) := by decide +kernel
theorem dX12_sure_185 : decode cX12_sure 185 = .ok (.goto (-106), 3) := by decide +kernel
theorem dX12_sure_188 : decode cX12_sure 188 = .ok (.aload_n 0, 1) := by decide +kernel
theorem dX12_sure_189 : decode cX12_sure 189 = .ok (.iload 5, 2) := by decide +kernel
theorem dX12_sure_191 : decode cX12_sure 191 = .ok (.iload 6, 2) := by decide +kernel
theorem dX12_sure_193 : decode cX12_sure 193 = .ok (.invokevirtual 314, 3) := by decide +kernel
theorem dX12_sure_196 : decode cX12_sure 196 = .ok (.ireturn, 1) := by decide +kernel
def J_X12_sure_38 (s0 : Int) (st : z_St) : Option (Int × z_St) :=
  z_b (J_X12_holds s0 st) fun r3 =>
  some ((-1), r3.2)
set_option maxRecDepth 100000 in
set_option maxHeartbeats 4000000 in
theorem w_X12_sure_38 {κ : zK} {a : Nat → Nat} {s0 : Int} {st : z_St} {o : Int × z_St} (hc : z_C κ RX12 cX12_sure 11 14 0 0) (hap : z_AP κ a z_N) (he : z_E 0 κ (some .int) z_T z_N a o.1 o.2) (h : J_X12_sure_38 s0 st = some o) : z_V κ z_T z_N a 0 0 38 [] [.int (zI s0), .ref (a 168)] st := by
  unfold J_X12_sure_38 at h
  obtain ⟨r3, hr3, h⟩ := z_b_some h
  refine z_callVI [.int (zI s0)] hc hap o_X12_holds ml_RX12_131 (fun l hl => c_X12_holds hl  hr3) (by decide) tT_168 (by decide) ⟨_, rfl, rfl⟩ rfl rfl (Nat.le_of_ble_eq_true rfl) (Nat.zero_le _) (Nat.zero_le _) dX12_sure_38 ?_
  refine z_pop hc dX12_sure_41 rfl ?_
  refine z_iconst hc dX12_sure_42 ?_
  have h := Option.some.inj h
  subst h
  exact z_retI hc he dX12_sure_43
def J_X12_sure_27 (v4 : Int) (st : z_St) : Option (Int × z_St) :=
  z_g (z32 v4) (if v4 = 0 then
    J_X12_sure_38 1 st
  else
    J_X12_sure_38 2 st)
set_option maxRecDepth 100000 in
set_option maxHeartbeats 4000000 in
theorem w_X12_sure_27 {κ : zK} {a : Nat → Nat} {v4 : Int} {st : z_St} {o : Int × z_St} (hc : z_C κ RX12 cX12_sure 11 14 0 0) (hap : z_AP κ a z_N) (he : z_E 0 κ (some .int) z_T z_N a o.1 o.2) (h : J_X12_sure_27 v4 st = some o) : z_V κ z_T z_N a 0 0 27 [(0, .ref (a 168)), (4, .int (zI v4))] [] st := by
  unfold J_X12_sure_27 at h
  refine z_aload_n (i := 0) 0 hc dX12_sure_27 rfl rfl ?_
  refine z_iload 1 hc dX12_sure_28 rfl ?_
  refine z_if_eq (tgt := 37) hc dX12_sure_30 (by decide) h (fun c30 h => ?_) (fun c30 h => ?_)
  · refine z_iconst hc dX12_sure_37 ?_
    refine z_sub [] [] rfl ?_
    exact w_X12_sure_38 hc hap he h
  · refine z_iconst hc dX12_sure_33 ?_
    refine z_goto (tgt := 38) hc dX12_sure_34 (by decide) ?_
    refine z_sub [] [] rfl ?_
    exact w_X12_sure_38 hc hap he h
def J_X12_sure_167 (v1 v3 v6 v7 v8 v9 s0 s1 : Int) (st : z_St) : Option ((Int × Int × Int) ⊕ (Int × Int)) :=
  some (.inl (s1 + s0, v6, v9 + 1))
set_option maxRecDepth 100000 in
set_option maxHeartbeats 4000000 in
theorem w_X12_sure_167 {κ : zK} {a : Nat → Nat} {v1 v3 v6 v7 v8 v9 s0 s1 : Int} {st : z_St} {mc9 ms9 : Nat} {o : (Int × Int × Int) ⊕ (Int × Int)} (hc : z_C κ RX12 cX12_sure 11 14 mc9 ms9) (hap : z_AP κ a z_N) (k1 : ∀ s9 : (Int × Int × Int), o = .inl s9 → z_V κ z_T z_N a 0 0 102 [(0, .ref (a 168)), (1, .long (zJ v1)), (3, .int (zI v3)), (5, .int (zI s9.1)), (6, .int (zI s9.2.1)), (7, .int (zI v7)), (8, .int (zI v8)), (9, .int (zI s9.2.2))] [] st) (k2 : ∀ x9 : (Int × Int), o = .inr x9 → z_V κ z_T z_N a 0 0 176 [(0, .ref (a 168)), (1, .long (zJ v1)), (3, .int (zI v3)), (5, .int (zI x9.1)), (6, .int (zI x9.2)), (7, .int (zI v7)), (8, .int (zI v8))] [] st) (h : J_X12_sure_167 v1 v3 v6 v7 v8 v9 s0 s1 st = some o) : z_V κ z_T z_N a 0 0 167 [(0, .ref (a 168)), (1, .long (zJ v1)), (3, .int (zI v3)), (6, .int (zI v6)), (7, .int (zI v7)), (8, .int (zI v8)), (9, .int (zI v9))] [.int (zI s0), .int (zI s1)] st := by
  unfold J_X12_sure_167 at h
  refine z_iadd hc dX12_sure_167 ?_
  refine z_istore [(5, .int (zI (s1 + s0))), (0, .ref (a 168)), (1, .long (zJ v1)), (3, .int (zI v3)), (6, .int (zI v6)), (7, .int (zI v7)), (8, .int (zI v8)), (9, .int (zI v9))] hc dX12_sure_168 (by decide) rfl ?_
  refine z_iinc [(9, .int (zI (v9 + 1))), (5, .int (zI (s1 + s0))), (0, .ref (a 168)), (1, .long (zJ v1)), (3, .int (zI v3)), (6, .int (zI v6)), (7, .int (zI v7)), (8, .int (zI v8))] 7 hc dX12_sure_170 rfl (by decide) rfl ?_
  refine z_goto (tgt := 102) hc dX12_sure_173 (by decide) ?_
  refine z_sub [(0, .ref (a 168)), (1, .long (zJ v1)), (3, .int (zI v3)), (5, .int (zI (s1 + s0))), (6, .int (zI v6)), (7, .int (zI v7)), (8, .int (zI v8)), (9, .int (zI (v9 + 1)))] [2, 3, 4, 1, 5, 6, 7, 0] rfl ?_
  exact k1 _ (Option.some.inj h).symm
def J_X12_sure_166 (v1 v3 v6 v7 v8 v9 s0 : Int) (st : z_St) : Option ((Int × Int × Int) ⊕ (Int × Int)) :=
  J_X12_sure_167 v1 v3 v6 v7 v8 v9 0 s0 st
set_option maxRecDepth 100000 in
set_option maxHeartbeats 4000000 in
theorem w_X12_sure_166 {κ : zK} {a : Nat → Nat} {v1 v3 v6 v7 v8 v9 s0 : Int} {st : z_St} {mc9 ms9 : Nat} {o : (Int × Int × Int) ⊕ (Int × Int)} (hc : z_C κ RX12 cX12_sure 11 14 mc9 ms9) (hap : z_AP κ a z_N) (k1 : ∀ s9 : (Int × Int × Int), o = .inl s9 → z_V κ z_T z_N a 0 0 102 [(0, .ref (a 168)), (1, .long (zJ v1)), (3, .int (zI v3)), (5, .int (zI s9.1)), (6, .int (zI s9.2.1)), (7, .int (zI v7)), (8, .int (zI v8)), (9, .int (zI s9.2.2))] [] st) (k2 : ∀ x9 : (Int × Int), o = .inr x9 → z_V κ z_T z_N a 0 0 176 [(0, .ref (a 168)), (1, .long (zJ v1)), (3, .int (zI v3)), (5, .int (zI x9.1)), (6, .int (zI x9.2)), (7, .int (zI v7)), (8, .int (zI v8))] [] st) (h : J_X12_sure_166 v1 v3 v6 v7 v8 v9 s0 st = some o) : z_V κ z_T z_N a 0 0 166 [(0, .ref (a 168)), (1, .long (zJ v1)), (3, .int (zI v3)), (6, .int (zI v6)), (7, .int (zI v7)), (8, .int (zI v8)), (9, .int (zI v9))] [.int (zI s0)] st := by
  unfold J_X12_sure_166 at h
  refine z_iconst hc dX12_sure_166 ?_
  refine z_sub [(0, .ref (a 168)), (1, .long (zJ v1)), (3, .int (zI v3)), (6, .int (zI v6)), (7, .int (zI v7)), (8, .int (zI v8)), (9, .int (zI v9))] [0, 1, 2, 3, 4, 5, 6] rfl ?_
  exact w_X12_sure_167 hc hap k1 k2 h
def J_X12_sure_136 (v1 v3 v5 v7 v8 v9 v10 s0 s1 : Int) (st : z_St) : Option ((Int × Int × Int) ⊕ (Int × Int)) :=
  z_g (z32 v10) (if v10 = 0 then
    J_X12_sure_166 v1 v3 (s1 + s0) v7 v8 v9 v5 st
  else
    z_g (0 ≤ (6 * v3) + 1 ∧ (6 * v3) + 1 < 96) <|
    z_g (z32 v7 ∧ z32 (st 191 ((6 * v3) + 1))) (if v7 = st 191 ((6 * v3) + 1) then
      J_X12_sure_167 v1 v3 (s1 + s0) v7 v8 v9 1 v5 st
    else
      J_X12_sure_166 v1 v3 (s1 + s0) v7 v8 v9 v5 st))
set_option maxRecDepth 100000 in
set_option maxHeartbeats 4000000 in
theorem w_X12_sure_136 {κ : zK} {a : Nat → Nat} {v1 v3 v5 v7 v8 v9 v10 s0 s1 : Int} {st : z_St} {mc9 ms9 : Nat} {o : (Int × Int × Int) ⊕ (Int × Int)} (hc : z_C κ RX12 cX12_sure 11 14 mc9 ms9) (hap : z_AP κ a z_N) (k1 : ∀ s9 : (Int × Int × Int), o = .inl s9 → z_V κ z_T z_N a 0 0 102 [(0, .ref (a 168)), (1, .long (zJ v1)), (3, .int (zI v3)), (5, .int (zI s9.1)), (6, .int (zI s9.2.1)), (7, .int (zI v7)), (8, .int (zI v8)), (9, .int (zI s9.2.2))] [] st) (k2 : ∀ x9 : (Int × Int), o = .inr x9 → z_V κ z_T z_N a 0 0 176 [(0, .ref (a 168)), (1, .long (zJ v1)), (3, .int (zI v3)), (5, .int (zI x9.1)), (6, .int (zI x9.2)), (7, .int (zI v7)), (8, .int (zI v8))] [] st) (h : J_X12_sure_136 v1 v3 v5 v7 v8 v9 v10 s0 s1 st = some o) : z_V κ z_T z_N a 0 0 136 [(0, .ref (a 168)), (1, .long (zJ v1)), (3, .int (zI v3)), (5, .int (zI v5)), (7, .int (zI v7)), (8, .int (zI v8)), (9, .int (zI v9)), (10, .int (zI v10))] [.int (zI s0), .int (zI s1)] st := by
  unfold J_X12_sure_136 at h
  refine z_iadd hc dX12_sure_136 ?_
  refine z_istore [(6, .int (zI (s1 + s0))), (0, .ref (a 168)), (1, .long (zJ v1)), (3, .int (zI v3)), (5, .int (zI v5)), (7, .int (zI v7)), (8, .int (zI v8)), (9, .int (zI v9)), (10, .int (zI v10))] hc dX12_sure_137 (by decide) rfl ?_
  refine z_iload 4 hc dX12_sure_139 rfl ?_
  refine z_iload 8 hc dX12_sure_141 rfl ?_
  refine z_if_eq (tgt := 166) hc dX12_sure_143 (by decide) h (fun c143 h => ?_) (fun c143 h => ?_)
  · refine z_sub [(0, .ref (a 168)), (1, .long (zJ v1)), (3, .int (zI v3)), (6, .int (zI (s1 + s0))), (7, .int (zI v7)), (8, .int (zI v8)), (9, .int (zI v9))] [1, 2, 3, 0, 5, 6, 7] rfl ?_
    exact w_X12_sure_166 hc hap k1 k2 h
  · refine z_iload 5 hc dX12_sure_146 rfl ?_
    refine z_aload_n (i := 0) 1 hc dX12_sure_148 rfl rfl ?_
    refine z_getA (k' := 191) hc fl_RX12_84 tT_168 (by decide) rfl rfl dX12_sure_149 ?_
    refine z_bipush hc dX12_sure_152 rfl ?_
    refine z_iload_n (i := 3) 3 hc dX12_sure_154 rfl rfl ?_
    refine z_imul hc dX12_sure_155 ?_
    refine z_iconst hc dX12_sure_156 ?_
    refine z_iadd hc dX12_sure_157 ?_
    refine z_iald (kI := 191) (nI9 := 96) hc tT_191 (by decide) rfl rfl (by decide) dX12_sure_158 h (fun g13 h => ?_)
    refine z_icmp_ne (tgt := 166) hc dX12_sure_159 (by decide) h (fun c159 h => ?_) (fun c159 h => ?_)
    · refine z_iconst hc dX12_sure_162 ?_
      refine z_goto (tgt := 167) hc dX12_sure_163 (by decide) ?_
      refine z_sub [(0, .ref (a 168)), (1, .long (zJ v1)), (3, .int (zI v3)), (6, .int (zI (s1 + s0))), (7, .int (zI v7)), (8, .int (zI v8)), (9, .int (zI v9))] [1, 2, 3, 0, 5, 6, 7] rfl ?_
      exact w_X12_sure_167 hc hap k1 k2 h
    · refine z_sub [(0, .ref (a 168)), (1, .long (zJ v1)), (3, .int (zI v3)), (6, .int (zI (s1 + s0))), (7, .int (zI v7)), (8, .int (zI v8)), (9, .int (zI v9))] [1, 2, 3, 0, 5, 6, 7] rfl ?_
      exact w_X12_sure_166 hc hap k1 k2 h
def J_X12_sure_b102 (v1 v3 v7 v8 v5 v6 v9 : Int) (st : z_St) : Option ((Int × Int × Int) ⊕ (Int × Int)) :=
  z_g (z32 v9 ∧ z32 (st 168 2)) (if st 168 2 < v9 then
    some (.inr (v5, v6))
  else
    z_b (J_X12_isArc v7 v8 v9 v1 st) fun r11 =>
    z_g (z32 r11) (if r11 = 0 then
      J_X12_sure_136 v1 v3 v5 v7 v8 v9 r11 0 v6 st
    else
      J_X12_sure_136 v1 v3 v5 v7 v8 v9 r11 1 v6 st))
set_option maxRecDepth 100000 in
set_option maxHeartbeats 4000000 in
theorem w_X12_sure_b102 {κ : zK} {a : Nat → Nat} {v1 v3 v5 v6 v7 v8 v9 : Int} {st : z_St} {mc9 ms9 : Nat} {o : (Int × Int × Int) ⊕ (Int × Int)} (hc : z_C κ RX12 cX12_sure 11 14 mc9 ms9) (hap : z_AP κ a z_N) (k1 : ∀ s9 : (Int × Int × Int), o = .inl s9 → z_V κ z_T z_N a 0 0 102 [(0, .ref (a 168)), (1, .long (zJ v1)), (3, .int (zI v3)), (5, .int (zI s9.1)), (6, .int (zI s9.2.1)), (7, .int (zI v7)), (8, .int (zI v8)), (9, .int (zI s9.2.2))] [] st) (k2 : ∀ x9 : (Int × Int), o = .inr x9 → z_V κ z_T z_N a 0 0 176 [(0, .ref (a 168)), (1, .long (zJ v1)), (3, .int (zI v3)), (5, .int (zI x9.1)), (6, .int (zI x9.2)), (7, .int (zI v7)), (8, .int (zI v8))] [] st) (h : J_X12_sure_b102 v1 v3 v7 v8 v5 v6 v9 st = some o) : z_V κ z_T z_N a 0 0 102 [(0, .ref (a 168)), (1, .long (zJ v1)), (3, .int (zI v3)), (5, .int (zI v5)), (6, .int (zI v6)), (7, .int (zI v7)), (8, .int (zI v8)), (9, .int (zI v9))] [] st := by
  unfold J_X12_sure_b102 at h
  refine z_iload 7 hc dX12_sure_102 rfl ?_
  refine z_aload_n (i := 0) 0 hc dX12_sure_104 rfl rfl ?_
  refine z_getI (kI := 168) (jI := 2) hc fl_RX12_128 tT_168 (by decide) rfl rfl rfl dX12_sure_105 ?_
  refine z_icmp_gt (tgt := 176) hc dX12_sure_108 (by decide) h (fun c108 h => ?_) (fun c108 h => ?_)
  · refine z_sub [(0, .ref (a 168)), (1, .long (zJ v1)), (3, .int (zI v3)), (5, .int (zI v5)), (6, .int (zI v6)), (7, .int (zI v7)), (8, .int (zI v8))] [0, 1, 2, 3, 4, 5, 6] rfl ?_
    exact k2 (v5, v6) (Option.some.inj h).symm
  · refine z_aload_n (i := 0) 0 hc dX12_sure_111 rfl rfl ?_
    refine z_iload 5 hc dX12_sure_112 rfl ?_
    refine z_iload 6 hc dX12_sure_114 rfl ?_
    refine z_iload 7 hc dX12_sure_116 rfl ?_
    refine z_lload_n (i := 1) 1 hc dX12_sure_118 rfl rfl ?_
    obtain ⟨r11, hr11, h⟩ := z_b_some h
    refine z_callVI [.int (zI v7), .int (zI v8), .int (zI v9), .long (zJ v1)] hc hap o_X12_isArc ml_RX12_306 (fun l hl => c_X12_isArc hl  hr11) (by decide) tT_168 (by decide) ⟨_, rfl, rfl⟩ rfl rfl (Nat.le_of_ble_eq_true rfl) (Nat.zero_le _) (Nat.zero_le _) dX12_sure_119 ?_
    refine z_istore [(10, .int (zI r11)), (0, .ref (a 168)), (1, .long (zJ v1)), (3, .int (zI v3)), (5, .int (zI v5)), (6, .int (zI v6)), (7, .int (zI v7)), (8, .int (zI v8)), (9, .int (zI v9))] hc dX12_sure_122 (by decide) rfl ?_
    refine z_iload 5 hc dX12_sure_124 rfl ?_
    refine z_iload 0 hc dX12_sure_126 rfl ?_
    refine z_if_eq (tgt := 135) hc dX12_sure_128 (by decide) h (fun c128 h => ?_) (fun c128 h => ?_)
    · refine z_iconst hc dX12_sure_135 ?_
      refine z_sub [(0, .ref (a 168)), (1, .long (zJ v1)), (3, .int (zI v3)), (5, .int (zI v5)), (7, .int (zI v7)), (8, .int (zI v8)), (9, .int (zI v9)), (10, .int (zI r11))] [1, 2, 3, 4, 6, 7, 8, 0] rfl ?_
      exact w_X12_sure_136 hc hap k1 k2 h
    · refine z_iconst hc dX12_sure_131 ?_
      refine z_goto (tgt := 136) hc dX12_sure_132 (by decide) ?_
      refine z_sub [(0, .ref (a 168)), (1, .long (zJ v1)), (3, .int (zI v3)), (5, .int (zI v5)), (7, .int (zI v7)), (8, .int (zI v8)), (9, .int (zI v9)), (10, .int (zI r11))] [1, 2, 3, 4, 6, 7, 8, 0] rfl ?_
      exact w_X12_sure_136 hc hap k1 k2 h
def J_X12_sure_b91 (v1 v3 v7 v5 v6 v8 : Int) (st : z_St) : Option ((Int × Int × Int) ⊕ (Int × Int)) :=
  z_g (z32 v8 ∧ z32 v3) (if v3 < v8 then
    some (.inr (v5, v6))
  else
    z_b (z_iter z_F (fun q9 : (Int × Int × Int) => J_X12_sure_b102 v1 v3 v7 v8 q9.1 q9.2.1 q9.2.2 st) (v5, v6, v3 + 1)) fun lx14 =>
      some (.inl (lx14.1, lx14.2, v8 + 1)))
set_option maxRecDepth 100000 in
set_option maxHeartbeats 4000000 in
theorem w_X12_sure_b91 {κ : zK} {a : Nat → Nat} {v1 v3 v5 v6 v7 v8 : Int} {st : z_St} {mc9 ms9 : Nat} {o : (Int × Int × Int) ⊕ (Int × Int)} (hc : z_C κ RX12 cX12_sure 11 14 mc9 ms9) (hap : z_AP κ a z_N) (k1 : ∀ s9 : (Int × Int × Int), o = .inl s9 → z_V κ z_T z_N a 0 0 91 [(0, .ref (a 168)), (1, .long (zJ v1)), (3, .int (zI v3)), (5, .int (zI s9.1)), (6, .int (zI s9.2.1)), (7, .int (zI v7)), (8, .int (zI s9.2.2))] [] st) (k2 : ∀ x9 : (Int × Int), o = .inr x9 → z_V κ z_T z_N a 0 0 182 [(0, .ref (a 168)), (1, .long (zJ v1)), (3, .int (zI v3)), (5, .int (zI x9.1)), (6, .int (zI x9.2)), (7, .int (zI v7))] [] st) (h : J_X12_sure_b91 v1 v3 v7 v5 v6 v8 st = some o) : z_V κ z_T z_N a 0 0 91 [(0, .ref (a 168)), (1, .long (zJ v1)), (3, .int (zI v3)), (5, .int (zI v5)), (6, .int (zI v6)), (7, .int (zI v7)), (8, .int (zI v8))] [] st := by
  unfold J_X12_sure_b91 at h
  refine z_iload 6 hc dX12_sure_91 rfl ?_
  refine z_iload_n (i := 3) 2 hc dX12_sure_93 rfl rfl ?_
  refine z_icmp_gt (tgt := 182) hc dX12_sure_94 (by decide) h (fun c94 h => ?_) (fun c94 h => ?_)
  · refine z_sub [(0, .ref (a 168)), (1, .long (zJ v1)), (3, .int (zI v3)), (5, .int (zI v5)), (6, .int (zI v6)), (7, .int (zI v7))] [0, 1, 2, 3, 4, 5] rfl ?_
    exact k2 (v5, v6) (Option.some.inj h).symm
  · refine z_iload_n (i := 3) 2 hc dX12_sure_97 rfl rfl ?_
    refine z_iconst hc dX12_sure_98 ?_
    refine z_iadd hc dX12_sure_99 ?_
    refine z_istore [(9, .int (zI (v3 + 1))), (0, .ref (a 168)), (1, .long (zJ v1)), (3, .int (zI v3)), (5, .int (zI v5)), (6, .int (zI v6)), (7, .int (zI v7)), (8, .int (zI v8))] hc dX12_sure_100 (by decide) rfl ?_
    obtain ⟨lx14, hlx14, h⟩ := z_b_some h
    refine z_sub [(0, .ref (a 168)), (1, .long (zJ v1)), (3, .int (zI v3)), (5, .int (zI v5)), (6, .int (zI v6)), (7, .int (zI v7)), (8, .int (zI v8)), (9, .int (zI (v3 + 1)))] [1, 2, 3, 4, 5, 6, 7, 0] rfl ?_
    refine z_loop (fun q9 : (Int × Int × Int) => J_X12_sure_b102 v1 v3 v7 v8 q9.1 q9.2.1 q9.2.2 st) (fun q9 : (Int × Int × Int) => z_V κ z_T z_N a 0 0 102 [(0, .ref (a 168)), (1, .long (zJ v1)), (3, .int (zI v3)), (5, .int (zI q9.1)), (6, .int (zI q9.2.1)), (7, .int (zI v7)), (8, .int (zI v8)), (9, .int (zI q9.2.2))] [] st) (fun x9 : (Int × Int) => z_V κ z_T z_N a 0 0 176 [(0, .ref (a 168)), (1, .long (zJ v1)), (3, .int (zI v3)), (5, .int (zI x9.1)), (6, .int (zI x9.2)), (7, .int (zI v7)), (8, .int (zI v8))] [] st) (fun q9 o9 hb k1 k2 => ?_) _ _ _ hlx14 ?_
    · exact w_X12_sure_b102 hc hap k1 k2 hb
    · show z_V κ z_T z_N a 0 0 176 [(0, .ref (a 168)), (1, .long (zJ v1)), (3, .int (zI v3)), (5, .int (zI lx14.1)), (6, .int (zI lx14.2)), (7, .int (zI v7)), (8, .int (zI v8))] [] st
      refine z_iinc [(8, .int (zI (v8 + 1))), (0, .ref (a 168)), (1, .long (zJ v1)), (3, .int (zI v3)), (5, .int (zI lx14.1)), (6, .int (zI lx14.2)), (7, .int (zI v7))] 6 hc dX12_sure_176 rfl (by decide) rfl ?_
      refine z_goto (tgt := 91) hc dX12_sure_179 (by decide) ?_
      refine z_sub [(0, .ref (a 168)), (1, .long (zJ v1)), (3, .int (zI v3)), (5, .int (zI lx14.1)), (6, .int (zI lx14.2)), (7, .int (zI v7)), (8, .int (zI (v8 + 1)))] [1, 2, 3, 4, 5, 6, 0] rfl ?_
      exact k1 _ (Option.some.inj h).symm
def J_X12_sure_b79 (v1 v3 v5 v6 v7 : Int) (st : z_St) : Option ((Int × Int × Int) ⊕ (Int × Int)) :=
  z_g (z32 v7 ∧ z32 (st 168 18)) (if v7 < st 168 18 then
    z_b (z_iter z_F (fun q9 : (Int × Int × Int) => J_X12_sure_b91 v1 v3 v7 q9.1 q9.2.1 q9.2.2 st) (v5, v6, 0)) fun lx15 =>
      some (.inl (lx15.1, lx15.2, v7 + 1))
  else
    some (.inr (v5, v6)))
set_option maxRecDepth 100000 in
set_option maxHeartbeats 4000000 in
theorem w_X12_sure_b79 {κ : zK} {a : Nat → Nat} {v1 v3 v5 v6 v7 : Int} {st : z_St} {mc9 ms9 : Nat} {o : (Int × Int × Int) ⊕ (Int × Int)} (hc : z_C κ RX12 cX12_sure 11 14 mc9 ms9) (hap : z_AP κ a z_N) (k1 : ∀ s9 : (Int × Int × Int), o = .inl s9 → z_V κ z_T z_N a 0 0 79 [(0, .ref (a 168)), (1, .long (zJ v1)), (3, .int (zI v3)), (5, .int (zI s9.1)), (6, .int (zI s9.2.1)), (7, .int (zI s9.2.2))] [] st) (k2 : ∀ x9 : (Int × Int), o = .inr x9 → z_V κ z_T z_N a 0 0 188 [(0, .ref (a 168)), (5, .int (zI x9.1)), (6, .int (zI x9.2))] [] st) (h : J_X12_sure_b79 v1 v3 v5 v6 v7 st = some o) : z_V κ z_T z_N a 0 0 79 [(0, .ref (a 168)), (1, .long (zJ v1)), (3, .int (zI v3)), (5, .int (zI v5)), (6, .int (zI v6)), (7, .int (zI v7))] [] st := by
  unfold J_X12_sure_b79 at h
  refine z_iload 5 hc dX12_sure_79 rfl ?_
  refine z_aload_n (i := 0) 0 hc dX12_sure_81 rfl rfl ?_
  refine z_getI (kI := 168) (jI := 18) hc fl_RX12_189 tT_168 (by decide) rfl rfl rfl dX12_sure_82 ?_
  refine z_icmp_ge (tgt := 188) hc dX12_sure_85 (by decide) h (fun c85 h => ?_) (fun c85 h => ?_)
  · refine z_iconst hc dX12_sure_88 ?_
    refine z_istore [(8, .int (zI 0)), (0, .ref (a 168)), (1, .long (zJ v1)), (3, .int (zI v3)), (5, .int (zI v5)), (6, .int (zI v6)), (7, .int (zI v7))] hc dX12_sure_89 (by decide) rfl ?_
    obtain ⟨lx15, hlx15, h⟩ := z_b_some h
    refine z_sub [(0, .ref (a 168)), (1, .long (zJ v1)), (3, .int (zI v3)), (5, .int (zI v5)), (6, .int (zI v6)), (7, .int (zI v7)), (8, .int (zI 0))] [1, 2, 3, 4, 5, 6, 0] rfl ?_
    refine z_loop (fun q9 : (Int × Int × Int) => J_X12_sure_b91 v1 v3 v7 q9.1 q9.2.1 q9.2.2 st) (fun q9 : (Int × Int × Int) => z_V κ z_T z_N a 0 0 91 [(0, .ref (a 168)), (1, .long (zJ v1)), (3, .int (zI v3)), (5, .int (zI q9.1)), (6, .int (zI q9.2.1)), (7, .int (zI v7)), (8, .int (zI q9.2.2))] [] st) (fun x9 : (Int × Int) => z_V κ z_T z_N a 0 0 182 [(0, .ref (a 168)), (1, .long (zJ v1)), (3, .int (zI v3)), (5, .int (zI x9.1)), (6, .int (zI x9.2)), (7, .int (zI v7))] [] st) (fun q9 o9 hb k1 k2 => ?_) _ _ _ hlx15 ?_
    · exact w_X12_sure_b91 hc hap k1 k2 hb
    · show z_V κ z_T z_N a 0 0 182 [(0, .ref (a 168)), (1, .long (zJ v1)), (3, .int (zI v3)), (5, .int (zI lx15.1)), (6, .int (zI lx15.2)), (7, .int (zI v7))] [] st
      refine z_iinc [(7, .int (zI (v7 + 1))), (0, .ref (a 168)), (1, .long (zJ v1)), (3, .int (zI v3)), (5, .int (zI lx15.1)), (6, .int (zI lx15.2))] 5 hc dX12_sure_182 rfl (by decide) rfl ?_
      refine z_goto (tgt := 79) hc dX12_sure_185 (by decide) ?_
      refine z_sub [(0, .ref (a 168)), (1, .long (zJ v1)), (3, .int (zI v3)), (5, .int (zI lx15.1)), (6, .int (zI lx15.2)), (7, .int (zI (v7 + 1)))] [1, 2, 3, 4, 5, 0] rfl ?_
      exact k1 _ (Option.some.inj h).symm
  · refine z_sub [(0, .ref (a 168)), (5, .int (zI v5)), (6, .int (zI v6))] [0, 3, 4] rfl ?_
    exact k2 (v5, v6) (Option.some.inj h).symm
def J_X12_sure_57 (v1 v3 s0 : Int) (st : z_St) : Option (Int × z_St) :=
  z_b (J_X12_holds s0 st) fun r7 =>
  z_g (z32 r7.1) (if r7.1 = 0 then
    z_b (J_X12_laysArcs r7.2) fun r9 =>
    z_b (z_iter z_F (fun q9 : (Int × Int × Int) => J_X12_sure_b79 v1 v3 q9.1 q9.2.1 q9.2.2 r9.2) (0, 0, 0)) fun lx16 =>
      z_b (J_X12_bitsOf lx16.1 lx16.2 r9.2) fun r17 =>
      some (r17, r9.2)
  else
    some ((-1), r7.2))
set_option maxRecDepth 100000 in
set_option maxHeartbeats 4000000 in
theorem w_X12_sure_57 {κ : zK} {a : Nat → Nat} {v1 v3 s0 : Int} {st : z_St} {o : Int × z_St} (hc : z_C κ RX12 cX12_sure 11 14 0 0) (hap : z_AP κ a z_N) (he : z_E 0 κ (some .int) z_T z_N a o.1 o.2) (h : J_X12_sure_57 v1 v3 s0 st = some o) : z_V κ z_T z_N a 0 0 57 [(0, .ref (a 168)), (1, .long (zJ v1)), (3, .int (zI v3))] [.int (zI s0), .ref (a 168)] st := by
  unfold J_X12_sure_57 at h
  obtain ⟨r7, hr7, h⟩ := z_b_some h
  refine z_callVI [.int (zI s0)] hc hap o_X12_holds ml_RX12_131 (fun l hl => c_X12_holds hl  hr7) (by decide) tT_168 (by decide) ⟨_, rfl, rfl⟩ rfl rfl (Nat.le_of_ble_eq_true rfl) (Nat.zero_le _) (Nat.zero_le _) dX12_sure_57 ?_
  refine z_if_eq (tgt := 65) hc dX12_sure_60 (by decide) h (fun c60 h => ?_) (fun c60 h => ?_)
  · refine z_aload_n (i := 0) 0 hc dX12_sure_65 rfl rfl ?_
    obtain ⟨r9, hr9, h⟩ := z_b_some h
    refine z_callVI [] hc hap o_X12_laysArcs ml_RX12_303 (fun l hl => c_X12_laysArcs hl  hr9) (by decide) tT_168 (by decide) ⟨_, rfl, rfl⟩ rfl rfl (Nat.le_of_ble_eq_true rfl) (Nat.zero_le _) (Nat.zero_le _) dX12_sure_66 ?_
    refine z_pop hc dX12_sure_69 rfl ?_
    refine z_iconst hc dX12_sure_70 ?_
    refine z_istore [(5, .int (zI 0)), (0, .ref (a 168)), (1, .long (zJ v1)), (3, .int (zI v3))] hc dX12_sure_71 (by decide) rfl ?_
    refine z_iconst hc dX12_sure_73 ?_
    refine z_istore [(6, .int (zI 0)), (5, .int (zI 0)), (0, .ref (a 168)), (1, .long (zJ v1)), (3, .int (zI v3))] hc dX12_sure_74 (by decide) rfl ?_
    refine z_iconst hc dX12_sure_76 ?_
    refine z_istore [(7, .int (zI 0)), (6, .int (zI 0)), (5, .int (zI 0)), (0, .ref (a 168)), (1, .long (zJ v1)), (3, .int (zI v3))] hc dX12_sure_77 (by decide) rfl ?_
    obtain ⟨lx16, hlx16, h⟩ := z_b_some h
    refine z_sub [(0, .ref (a 168)), (1, .long (zJ v1)), (3, .int (zI v3)), (5, .int (zI 0)), (6, .int (zI 0)), (7, .int (zI 0))] [3, 4, 5, 2, 1, 0] rfl ?_
    refine z_loop (fun q9 : (Int × Int × Int) => J_X12_sure_b79 v1 v3 q9.1 q9.2.1 q9.2.2 r9.2) (fun q9 : (Int × Int × Int) => z_V κ z_T z_N a 0 0 79 [(0, .ref (a 168)), (1, .long (zJ v1)), (3, .int (zI v3)), (5, .int (zI q9.1)), (6, .int (zI q9.2.1)), (7, .int (zI q9.2.2))] [] r9.2) (fun x9 : (Int × Int) => z_V κ z_T z_N a 0 0 188 [(0, .ref (a 168)), (5, .int (zI x9.1)), (6, .int (zI x9.2))] [] r9.2) (fun q9 o9 hb k1 k2 => ?_) _ _ _ hlx16 ?_
    · exact w_X12_sure_b79 hc hap k1 k2 hb
    · show z_V κ z_T z_N a 0 0 188 [(0, .ref (a 168)), (5, .int (zI lx16.1)), (6, .int (zI lx16.2))] [] r9.2
      refine z_aload_n (i := 0) 0 hc dX12_sure_188 rfl rfl ?_
      refine z_iload 1 hc dX12_sure_189 rfl ?_
      refine z_iload 2 hc dX12_sure_191 rfl ?_
      obtain ⟨r17, hr17, h⟩ := z_b_some h
      refine z_callVI [.int (zI lx16.1), .int (zI lx16.2)] hc hap o_X12_bitsOf ml_RX12_314 (fun l hl => c_X12_bitsOf hl  hr17) (by decide) tT_168 (by decide) ⟨_, rfl, rfl⟩ rfl rfl (Nat.le_of_ble_eq_true rfl) (Nat.zero_le _) (Nat.zero_le _) dX12_sure_193 ?_
      have h := Option.some.inj h
      subst h
      exact z_retI hc he dX12_sure_196
  · refine z_iconst hc dX12_sure_63 ?_
    have h := Option.some.inj h
    subst h
    exact z_retI hc he dX12_sure_64
def J_X12_sure (x1 x3 : Int) (st : z_St) : Option (Int × z_St) :=
  z_g (z32 x3) <|
  z_g (z32 ((st 168 2) - 1)) <|
  z_b (J_X12_in x3 0 ((st 168 2) - 1) st) fun r1 =>
  z_g (z32 r1) (if r1 = 0 then
    J_X12_sure_27 r1 st
  else
    z_g (z64 x1 ∧ z64 0) (if x1 < 0 then
      J_X12_sure_27 r1 st
    else
      z_b (J_X12_laysPath st) fun r5 =>
      z_g (z32 r5.1) (if r5.1 < 0 then
        J_X12_sure_57 x1 x3 3 r5.2
      else
        J_X12_sure_57 x1 x3 0 r5.2)))
set_option maxRecDepth 100000 in
set_option maxHeartbeats 4000000 in
theorem w_X12_sure {κ : zK} {a : Nat → Nat} {x1 x3 : Int} {st : z_St} {o : Int × z_St} (hc : z_C κ RX12 cX12_sure 11 14 0 0) (hap : z_AP κ a z_N) (he : z_E 0 κ (some .int) z_T z_N a o.1 o.2) (h : J_X12_sure x1 x3 st = some o) : z_V κ z_T z_N a 0 0 0 [(0, .ref (a 168)), (1, .long (zJ x1)), (3, .int (zI x3))] [] st := by
  unfold J_X12_sure at h
  refine z_aload_n (i := 0) 0 hc dX12_sure_0 rfl rfl ?_
  refine z_iload_n (i := 3) 2 hc dX12_sure_1 rfl rfl ?_
  refine z_i2l hc dX12_sure_2 h (fun h => ?_)
  refine z_lconst 0 hc dX12_sure_3 rfl ?_
  refine z_aload_n (i := 0) 0 hc dX12_sure_4 rfl rfl ?_
  refine z_getI (kI := 168) (jI := 2) hc fl_RX12_128 tT_168 (by decide) rfl rfl rfl dX12_sure_5 ?_
  refine z_iconst hc dX12_sure_8 ?_
  refine z_isub hc dX12_sure_9 ?_
  refine z_i2l hc dX12_sure_10 h (fun h => ?_)
  obtain ⟨r1, hr1, h⟩ := z_b_some h
  refine z_callVI [.long (zJ x3), .long (zJ 0), .long (zJ ((st 168 2) - 1))] hc hap o_X12_in ml_RX12_116 (fun l hl => c_X12_in hl  hr1) (by decide) tT_168 (by decide) ⟨_, rfl, rfl⟩ rfl rfl (Nat.le_of_ble_eq_true rfl) (Nat.zero_le _) (Nat.zero_le _) dX12_sure_11 ?_
  refine z_istore [(4, .int (zI r1)), (0, .ref (a 168)), (1, .long (zJ x1)), (3, .int (zI x3))] hc dX12_sure_14 (by decide) rfl ?_
  refine z_iload 0 hc dX12_sure_16 rfl ?_
  refine z_if_eq (tgt := 27) hc dX12_sure_18 (by decide) h (fun c18 h => ?_) (fun c18 h => ?_)
  · refine z_sub [(0, .ref (a 168)), (4, .int (zI r1))] [1, 0] rfl ?_
    exact w_X12_sure_27 hc hap he h
  · refine z_lload_n (i := 1) 2 hc dX12_sure_21 rfl rfl ?_
    refine z_lconst 0 hc dX12_sure_22 rfl ?_
    refine z_lcmp_ge (tgt := 44) hc dX12_sure_23 dX12_sure_24 (by decide) h (fun c23 h => ?_) (fun c23 h => ?_)
    · refine z_sub [(0, .ref (a 168)), (4, .int (zI r1))] [1, 0] rfl ?_
      exact w_X12_sure_27 hc hap he h
    · refine z_aload_n (i := 0) 1 hc dX12_sure_44 rfl rfl ?_
      refine z_aload_n (i := 0) 1 hc dX12_sure_45 rfl rfl ?_
      obtain ⟨r5, hr5, h⟩ := z_b_some h
      refine z_callVI [] hc hap o_X12_laysPath ml_RX12_141 (fun l hl => c_X12_laysPath hl  hr5) (by decide) tT_168 (by decide) ⟨_, rfl, rfl⟩ rfl rfl (Nat.le_of_ble_eq_true rfl) (Nat.zero_le _) (Nat.zero_le _) dX12_sure_46 ?_
      refine z_if_ge (tgt := 56) hc dX12_sure_49 (by decide) h (fun c49 h => ?_) (fun c49 h => ?_)
      · refine z_iconst hc dX12_sure_52 ?_
        refine z_goto (tgt := 57) hc dX12_sure_53 (by decide) ?_
        refine z_sub [(0, .ref (a 168)), (1, .long (zJ x1)), (3, .int (zI x3))] [1, 2, 3] rfl ?_
        exact w_X12_sure_57 hc hap he h
      · refine z_iconst hc dX12_sure_56 ?_
        refine z_sub [(0, .ref (a 168)), (1, .long (zJ x1)), (3, .int (zI x3))] [1, 2, 3] rfl ?_
        exact w_X12_sure_57 hc hap he h
set_option maxRecDepth 100000 in
set_option maxHeartbeats 4000000 in
theorem c_X12_sure {l : Launch} (hl : l.stackTraces = false) {a : Nat → Nat} {x1 x3 : Int} {st : z_St} {o : Int × z_St} (h : J_X12_sure x1 x3 st = some o) : z_M 0 l yX12_sure cX12_sure 11 (some .int) 14 z_T z_N a [.ref (a 168), .long (zJ x1), .int (zI x3)] st o.1 o.2 := z_of hl (by decide +kernel) (Nat.le_of_ble_eq_true rfl) (fun κ hc hap he => w_X12_sure hc hap he h)
theorem dX12_path_0 : decode cX12_path 0 = .ok (.aload_n 0, 1) := by decide +kernel
theorem dX12_path_1 : decode cX12_path 1 = .ok (.iload_n 1, 1) := by decide +kernel
theorem dX12_path_2 : decode cX12_path 2 = .ok (.i2l, 1) := by decide +kernel
theorem dX12_path_3 : decode cX12_path 3 = .ok (.lconst 0, 1) := by decide +kernel
theorem dX12_path_4 : decode cX12_path 4 = .ok (.aload_n 0, 1) := by decide +kernel
theorem dX12_path_5 : decode cX12_path 5 = .ok (.getfield 128, 3) := by decide +kernel
theorem dX12_path_8 : decode cX12_path 8 = .ok (.iconst 1, 1) := by decide +kernel
theorem dX12_path_9 : decode cX12_path 9 = .ok (.isub, 1) := by decide +kernel
theorem dX12_path_10 : decode cX12_path 10 = .ok (.i2l, 1) := by decide +kernel
theorem dX12_path_11 : decode cX12_path 11 = .ok (.invokevirtual 116, 3) := by decide +kernel
theorem dX12_path_14 : decode cX12_path 14 = .ok (.istore_n 3, 1) := by decide +kernel
theorem dX12_path_15 : decode cX12_path 15 = .ok (.iload_n 3, 1) := by decide +kernel
theorem dX12_path_16 : decode cX12_path 16 = .ok (.ifCond .eq 16, 3) := by decide +kernel
theorem dX12_path_19 : decode cX12_path 19 = .ok (.aload_n 0, 1) := by decide +kernel
theorem dX12_path_20 : decode cX12_path 20 = .ok (.iload_n 2, 1) := by decide +kernel
theorem dX12_path_21 : decode cX12_path 21 = .ok (.i2l, 1) := by decide +kernel
theorem dX12_path_22 : decode cX12_path 22 = .ok (.lconst 0, 1) := by decide +kernel
theorem dX12_path_23 : decode cX12_path 23 = .ok (.ldc2_w 327, 3) := by decide +kernel
theorem dX12_path_26 : decode cX12_path 26 = .ok (.invokevirtual 116, 3) := by decide +kernel
theorem dX12_path_29 : decode cX12_path 29 = .ok (.ifCond .ne 19, 3) := by decide +kernel
theorem dX12_path_32 : decode cX12_path 32 = .ok (.aload_n 0, 1) := by decide +kernel
theorem dX12_path_33 : decode cX12_path 33 = .ok (.iload_n 3, 1) := by decide +kernel
theorem dX12_path_34 : decode cX12_path 34 = .ok (.ifCond .eq 7, 3) := by decide +kernel
theorem dX12_path_37 : decode cX12_path 37 = .ok (.iconst 2, 1) := by decide +kernel
theorem dX12_path_38 : decode cX12_path 38 = .ok (.goto 4, 3) := by decide +kernel
theorem dX12_path_41 : decode cX12_path 41 = .ok (.iconst 1, 1) := by decide +kernel
theorem dX12_path_42 : decode cX12_path 42 = .ok (.invokevirtual 131, 3) := by decide +kernel
theorem dX12_path_45 : decode cX12_path 45 = .ok (.pop, 1) := by decide +kernel
theorem dX12_path_46 : decode cX12_path 46 = .ok (.iconst (-1), 1) := by decide +kernel
theorem dX12_path_47 : decode cX12_path 47 = .ok (.ireturn, 1) := by decide +kernel
theorem dX12_path_48 : decode cX12_path 48 = .ok (.aload_n 0, 1) := by decide +kernel
theorem dX12_path_49 : decode cX12_path 49 = .ok (.aload_n 0, 1) := by decide +kernel
theorem dX12_path_50 : decode cX12_path 50 = .ok (.invokevirtual 141, 3) := by decide +kernel
theorem dX12_path_53 : decode cX12_path 53 = .ok (.ifCond .ge 7, 3) := by decide +kernel
theorem dX12_path_56 : decode cX12_path 56 = .ok (.iconst 3, 1) := by decide +kernel
theorem dX12_path_57 : decode cX12_path 57 = .ok (.goto 4, 3) := by decide +kernel
theorem dX12_path_60 : decode cX12_path 60 = .ok (.iconst 0, 1) := by decide +kernel
theorem dX12_path_61 : decode cX12_path 61 = .ok (.invokevirtual 131, 3) := by decide +kernel
theorem dX12_path_64 : decode cX12_path 64 = .ok (.ifCond .eq 5, 3) := by decide +kernel
theorem dX12_path_67 : decode cX12_path 67 = .ok (.iconst (-1), 1) := by decide +kernel
theorem dX12_path_68 : decode cX12_path 68 = .ok (.ireturn, 1) := by decide +kernel
theorem dX12_path_69 : decode cX12_path 69 = .ok (.aload_n 0, 1) := by decide +kernel
theorem dX12_path_70 : decode cX12_path 70 = .ok (.getfield 84, 3) := by decide +kernel
theorem dX12_path_73 : decode cX12_path 73 = .ok (.bipush 6, 2) := by decide +kernel
theorem dX12_path_75 : decode cX12_path 75 = .ok (.iload_n 1, 1) := by decide +kernel
theorem dX12_path_76 : decode cX12_path 76 = .ok (.imul, 1) := by decide +kernel
theorem dX12_path_77 : decode cX12_path 77 = .ok (.iload_n 2, 1) := by decide +kernel
theorem dX12_path_78 : decode cX12_path 78 = .ok (.iadd, 1) := by decide +kernel
theorem dX12_path_79 : decode cX12_path 79 = .ok (.iaload, 1) := by decide +kernel
theorem dX12_path_80 : decode cX12_path 80 = .ok (.ireturn, 1) := by decide +kernel
def J_X12_path_42 (s0 : Int) (st : z_St) : Option (Int × z_St) :=
  z_b (J_X12_holds s0 st) fun r3 =>
  some ((-1), r3.2)
set_option maxRecDepth 100000 in
set_option maxHeartbeats 4000000 in
theorem w_X12_path_42 {κ : zK} {a : Nat → Nat} {s0 : Int} {st : z_St} {o : Int × z_St} (hc : z_C κ RX12 cX12_path 4 14 0 0) (hap : z_AP κ a z_N) (he : z_E 0 κ (some .int) z_T z_N a o.1 o.2) (h : J_X12_path_42 s0 st = some o) : z_V κ z_T z_N a 0 0 42 [] [.int (zI s0), .ref (a 168)] st := by
  unfold J_X12_path_42 at h
  obtain ⟨r3, hr3, h⟩ := z_b_some h
  refine z_callVI [.int (zI s0)] hc hap o_X12_holds ml_RX12_131 (fun l hl => c_X12_holds hl  hr3) (by decide) tT_168 (by decide) ⟨_, rfl, rfl⟩ rfl rfl (Nat.le_of_ble_eq_true rfl) (Nat.zero_le _) (Nat.zero_le _) dX12_path_42 ?_
  refine z_pop hc dX12_path_45 rfl ?_
  refine z_iconst hc dX12_path_46 ?_
  have h := Option.some.inj h
  subst h
  exact z_retI hc he dX12_path_47
def J_X12_path_32 (v3 : Int) (st : z_St) : Option (Int × z_St) :=
  z_g (z32 v3) (if v3 = 0 then
    J_X12_path_42 1 st
  else
    J_X12_path_42 2 st)
set_option maxRecDepth 100000 in
set_option maxHeartbeats 4000000 in
theorem w_X12_path_32 {κ : zK} {a : Nat → Nat} {v3 : Int} {st : z_St} {o : Int × z_St} (hc : z_C κ RX12 cX12_path 4 14 0 0) (hap : z_AP κ a z_N) (he : z_E 0 κ (some .int) z_T z_N a o.1 o.2) (h : J_X12_path_32 v3 st = some o) : z_V κ z_T z_N a 0 0 32 [(0, .ref (a 168)), (3, .int (zI v3))] [] st := by
  unfold J_X12_path_32 at h
  refine z_aload_n (i := 0) 0 hc dX12_path_32 rfl rfl ?_
  refine z_iload_n (i := 3) 1 hc dX12_path_33 rfl rfl ?_
  refine z_if_eq (tgt := 41) hc dX12_path_34 (by decide) h (fun c34 h => ?_) (fun c34 h => ?_)
  · refine z_iconst hc dX12_path_41 ?_
    refine z_sub [] [] rfl ?_
    exact w_X12_path_42 hc hap he h
  · refine z_iconst hc dX12_path_37 ?_
    refine z_goto (tgt := 42) hc dX12_path_38 (by decide) ?_
    refine z_sub [] [] rfl ?_
    exact w_X12_path_42 hc hap he h
def J_X12_path_61 (v1 v2 s0 : Int) (st : z_St) : Option (Int × z_St) :=
  z_b (J_X12_holds s0 st) fun r9 =>
  z_g (z32 r9.1) (if r9.1 = 0 then
    z_g (0 ≤ (6 * v1) + v2 ∧ (6 * v1) + v2 < 96) <|
    some (r9.2 191 ((6 * v1) + v2), r9.2)
  else
    some ((-1), r9.2))
set_option maxRecDepth 100000 in
set_option maxHeartbeats 4000000 in
theorem w_X12_path_61 {κ : zK} {a : Nat → Nat} {v1 v2 s0 : Int} {st : z_St} {o : Int × z_St} (hc : z_C κ RX12 cX12_path 4 14 0 0) (hap : z_AP κ a z_N) (he : z_E 0 κ (some .int) z_T z_N a o.1 o.2) (h : J_X12_path_61 v1 v2 s0 st = some o) : z_V κ z_T z_N a 0 0 61 [(0, .ref (a 168)), (1, .int (zI v1)), (2, .int (zI v2))] [.int (zI s0), .ref (a 168)] st := by
  unfold J_X12_path_61 at h
  obtain ⟨r9, hr9, h⟩ := z_b_some h
  refine z_callVI [.int (zI s0)] hc hap o_X12_holds ml_RX12_131 (fun l hl => c_X12_holds hl  hr9) (by decide) tT_168 (by decide) ⟨_, rfl, rfl⟩ rfl rfl (Nat.le_of_ble_eq_true rfl) (Nat.zero_le _) (Nat.zero_le _) dX12_path_61 ?_
  refine z_if_eq (tgt := 69) hc dX12_path_64 (by decide) h (fun c64 h => ?_) (fun c64 h => ?_)
  · refine z_aload_n (i := 0) 0 hc dX12_path_69 rfl rfl ?_
    refine z_getA (k' := 191) hc fl_RX12_84 tT_168 (by decide) rfl rfl dX12_path_70 ?_
    refine z_bipush hc dX12_path_73 rfl ?_
    refine z_iload_n (i := 1) 1 hc dX12_path_75 rfl rfl ?_
    refine z_imul hc dX12_path_76 ?_
    refine z_iload_n (i := 2) 2 hc dX12_path_77 rfl rfl ?_
    refine z_iadd hc dX12_path_78 ?_
    refine z_iald (kI := 191) (nI9 := 96) hc tT_191 (by decide) rfl rfl (by decide) dX12_path_79 h (fun g11 h => ?_)
    have h := Option.some.inj h
    subst h
    exact z_retI hc he dX12_path_80
  · refine z_iconst hc dX12_path_67 ?_
    have h := Option.some.inj h
    subst h
    exact z_retI hc he dX12_path_68
def J_X12_path (x1 x2 : Int) (st : z_St) : Option (Int × z_St) :=
  z_g (z32 x1) <|
  z_g (z32 ((st 168 2) - 1)) <|
  z_b (J_X12_in x1 0 ((st 168 2) - 1) st) fun r1 =>
  z_g (z32 r1) (if r1 = 0 then
    J_X12_path_32 r1 st
  else
    z_g (z32 x2) <|
    z_b (J_X12_in x2 0 5 st) fun r5 =>
    z_g (z32 r5) (if r5 = 0 then
      J_X12_path_32 r1 st
    else
      z_b (J_X12_laysPath st) fun r7 =>
      z_g (z32 r7.1) (if r7.1 < 0 then
        J_X12_path_61 x1 x2 3 r7.2
      else
        J_X12_path_61 x1 x2 0 r7.2)))
set_option maxRecDepth 100000 in
set_option maxHeartbeats 4000000 in
theorem w_X12_path {κ : zK} {a : Nat → Nat} {x1 x2 : Int} {st : z_St} {o : Int × z_St} (hc : z_C κ RX12 cX12_path 4 14 0 0) (hap : z_AP κ a z_N) (he : z_E 0 κ (some .int) z_T z_N a o.1 o.2) (h : J_X12_path x1 x2 st = some o) : z_V κ z_T z_N a 0 0 0 [(0, .ref (a 168)), (1, .int (zI x1)), (2, .int (zI x2))] [] st := by
  unfold J_X12_path at h
  refine z_aload_n (i := 0) 0 hc dX12_path_0 rfl rfl ?_
  refine z_iload_n (i := 1) 1 hc dX12_path_1 rfl rfl ?_
  refine z_i2l hc dX12_path_2 h (fun h => ?_)
  refine z_lconst 0 hc dX12_path_3 rfl ?_
  refine z_aload_n (i := 0) 0 hc dX12_path_4 rfl rfl ?_
  refine z_getI (kI := 168) (jI := 2) hc fl_RX12_128 tT_168 (by decide) rfl rfl rfl dX12_path_5 ?_
  refine z_iconst hc dX12_path_8 ?_
  refine z_isub hc dX12_path_9 ?_
  refine z_i2l hc dX12_path_10 h (fun h => ?_)
  obtain ⟨r1, hr1, h⟩ := z_b_some h
  refine z_callVI [.long (zJ x1), .long (zJ 0), .long (zJ ((st 168 2) - 1))] hc hap o_X12_in ml_RX12_116 (fun l hl => c_X12_in hl  hr1) (by decide) tT_168 (by decide) ⟨_, rfl, rfl⟩ rfl rfl (Nat.le_of_ble_eq_true rfl) (Nat.zero_le _) (Nat.zero_le _) dX12_path_11 ?_
  refine z_istore_n (i := 3) [(3, .int (zI r1)), (0, .ref (a 168)), (1, .int (zI x1)), (2, .int (zI x2))] hc dX12_path_14 rfl (by decide) rfl ?_
  refine z_iload_n (i := 3) 0 hc dX12_path_15 rfl rfl ?_
  refine z_if_eq (tgt := 32) hc dX12_path_16 (by decide) h (fun c16 h => ?_) (fun c16 h => ?_)
  · refine z_sub [(0, .ref (a 168)), (3, .int (zI r1))] [1, 0] rfl ?_
    exact w_X12_path_32 hc hap he h
  · refine z_aload_n (i := 0) 1 hc dX12_path_19 rfl rfl ?_
    refine z_iload_n (i := 2) 3 hc dX12_path_20 rfl rfl ?_
    refine z_i2l hc dX12_path_21 h (fun h => ?_)
    refine z_lconst 0 hc dX12_path_22 rfl ?_
    refine z_ldc2 5 hc kc_RX12_327 dX12_path_23 rfl ?_
    obtain ⟨r5, hr5, h⟩ := z_b_some h
    refine z_callVI [.long (zJ x2), .long (zJ 0), .long (zJ 5)] hc hap o_X12_in ml_RX12_116 (fun l hl => c_X12_in hl  hr5) (by decide) tT_168 (by decide) ⟨_, rfl, rfl⟩ rfl rfl (Nat.le_of_ble_eq_true rfl) (Nat.zero_le _) (Nat.zero_le _) dX12_path_26 ?_
    refine z_if_ne (tgt := 48) hc dX12_path_29 (by decide) h (fun c29 h => ?_) (fun c29 h => ?_)
    · refine z_sub [(0, .ref (a 168)), (3, .int (zI r1))] [1, 0] rfl ?_
      exact w_X12_path_32 hc hap he h
    · refine z_aload_n (i := 0) 1 hc dX12_path_48 rfl rfl ?_
      refine z_aload_n (i := 0) 1 hc dX12_path_49 rfl rfl ?_
      obtain ⟨r7, hr7, h⟩ := z_b_some h
      refine z_callVI [] hc hap o_X12_laysPath ml_RX12_141 (fun l hl => c_X12_laysPath hl  hr7) (by decide) tT_168 (by decide) ⟨_, rfl, rfl⟩ rfl rfl (Nat.le_of_ble_eq_true rfl) (Nat.zero_le _) (Nat.zero_le _) dX12_path_50 ?_
      refine z_if_ge (tgt := 60) hc dX12_path_53 (by decide) h (fun c53 h => ?_) (fun c53 h => ?_)
      · refine z_iconst hc dX12_path_56 ?_
        refine z_goto (tgt := 61) hc dX12_path_57 (by decide) ?_
        refine z_sub [(0, .ref (a 168)), (1, .int (zI x1)), (2, .int (zI x2))] [1, 2, 3] rfl ?_
        exact w_X12_path_61 hc hap he h
      · refine z_iconst hc dX12_path_60 ?_
        refine z_sub [(0, .ref (a 168)), (1, .int (zI x1)), (2, .int (zI x2))] [1, 2, 3] rfl ?_
        exact w_X12_path_61 hc hap he h
set_option maxRecDepth 100000 in
set_option maxHeartbeats 4000000 in
theorem c_X12_path {l : Launch} (hl : l.stackTraces = false) {a : Nat → Nat} {x1 x2 : Int} {st : z_St} {o : Int × z_St} (h : J_X12_path x1 x2 st = some o) : z_M 0 l yX12_path cX12_path 4 (some .int) 14 z_T z_N a [.ref (a 168), .int (zI x1), .int (zI x2)] st o.1 o.2 := z_of hl (by decide +kernel) (Nat.le_of_ble_eq_true rfl) (fun κ hc hap he => w_X12_path hc hap he h)
theorem dX12_errors_0 : decode cX12_errors 0 = .ok (.aload_n 0, 1) := by decide +kernel
theorem dX12_errors_1 : decode cX12_errors 1 = .ok (.iload_n 1, 1) := by decide +kernel
theorem dX12_errors_2 : decode cX12_errors 2 = .ok (.aload_n 0, 1) := by decide +kernel
theorem dX12_errors_3 : decode cX12_errors 3 = .ok (.getfield 72, 3) := by decide +kernel
theorem dX12_errors_6 : decode cX12_errors 6 = .ok (.invokevirtual 231, 3) := by decide +kernel
theorem dX12_errors_9 : decode cX12_errors 9 = .ok (.istore_n 2, 1) := by decide +kernel
theorem dX12_errors_10 : decode cX12_errors 10 = .ok (.iload_n 2, 1) := by decide +kernel
theorem dX12_errors_11 : decode cX12_errors 11 = .ok (.ifCond .ne 11, 3) := by decide +kernel
theorem dX12_errors_14 : decode cX12_errors 14 = .ok (.aload_n 0, 1) := by decide +kernel
theorem dX12_errors_15 : decode cX12_errors 15 = .ok (.iconst 1, 1) := by decide +kernel
theorem dX12_errors_16 : decode cX12_errors 16 = .ok (.invokevirtual 131, 3) := by decide +kernel
theorem dX12_errors_19 : decode cX12_errors 19 = .ok (.pop, 1) := by decide +kernel
theorem dX12_errors_20 : decode cX12_errors 20 = .ok (.iconst (-1), 1) := by decide +kernel
theorem dX12_errors_21 : decode cX12_errors 21 = .ok (.ireturn, 1) := by decide +kernel
theorem dX12_errors_22 : decode cX12_errors 22 = .ok (.aload_n 0, 1) := by decide +kernel
theorem dX12_errors_23 : decode cX12_errors 23 = .ok (.invokevirtual 159, 3) := by decide +kernel
theorem dX12_errors_26 : decode cX12_errors 26 = .ok (.istore_n 3, 1) := by decide +kernel
theorem dX12_errors_27 : decode cX12_errors 27 = .ok (.aload_n 0, 1) := by decide +kernel
theorem dX12_errors_28 : decode cX12_errors 28 = .ok (.iload_n 3, 1) := by decide +kernel
theorem dX12_errors_29 : decode cX12_errors 29 = .ok (.ifCond .ge 7, 3) := by decide +kernel
theorem dX12_errors_32 : decode cX12_errors 32 = .ok (.iconst 2, 1) := by decide +kernel
theorem dX12_errors_33 : decode cX12_errors 33 = .ok (.goto 4, 3) := by decide +kernel
theorem dX12_errors_36 : decode cX12_errors 36 = .ok (.iconst 0, 1) := by decide +kernel
theorem dX12_errors_37 : decode cX12_errors 37 = .ok (.invokevirtual 131, 3) := by decide +kernel
theorem dX12_errors_40 : decode cX12_errors 40 = .ok (.ifCond .eq 5, 3) := by decide +kernel
theorem dX12_errors_43 : decode cX12_errors 43 = .ok (.iconst (-1), 1) := by decide +kernel
theorem dX12_errors_44 : decode cX12_errors 44 = .ok (.ireturn, 1) := by decide +kernel
theorem dX12_errors_45 : decode cX12_errors 45 = .ok (.aload_n 0, 1) := by decide +kernel
theorem dX12_errors_46 : decode cX12_errors 46 = .ok (.aload_n 0, 1) := by decide +kernel
theorem dX12_errors_47 : decode cX12_errors 47 = .ok (.getfield 81, 3) := by decide +kernel
theorem dX12_errors_50 : decode cX12_errors 50 = .ok (.iload_n 3, 1) := by decide +kernel
theorem dX12_errors_51 : decode cX12_errors 51 = .ok (.iaload, 1) := by decide +kernel
theorem dX12_errors_52 : decode cX12_errors 52 = .ok (.aload_n 0, 1) := by decide +kernel
theorem dX12_errors_53 : decode cX12_errors 53 = .ok (.getfield 69, 3) := by decide +kernel
theorem dX12_errors_56 : decode cX12_errors 56 = .ok (.invokevirtual 231, 3) := by decide +kernel
theorem dX12_errors_59 : decode cX12_errors 59 = .ok (.istore 4, 2) := by decide +kernel
theorem dX12_errors_61 : decode cX12_errors 61 = .ok (.iconst 0, 1) := by decide +kernel
theorem dX12_errors_62 : decode cX12_errors 62 = .ok (.istore 5, 2) := by decide +kernel
theorem dX12_errors_64 : decode cX12_errors 64 = .ok (.iload 5, 2) := by decide +kernel
theorem dX12_errors_66 : decode cX12_errors 66 = .ok (.iload 4, 2) := by decide +kernel
theorem dX12_errors_68 : decode cX12_errors 68 = .ok (.if_icmp .gt 195, 3) := by decide +kernel
theorem dX12_errors_71 : decode cX12_errors 71 = .ok (.iconst 0, 1) := by decide +kernel
theorem dX12_errors_72 : decode cX12_errors 72 = .ok (.istore 6, 2) := by decide +kernel
theorem dX12_errors_74 : decode cX12_errors 74 = .ok (.iload 6, 2) := by decide +kernel
theorem dX12_errors_76 : decode cX12_errors 76 = .ok (.iload_n 2, 1) := by decide +kernel
theorem dX12_errors_77 : decode cX12_errors 77 = .ok (.if_icmp .gt 180, 3) := by decide +kernel
theorem dX12_errors_80 : decode cX12_errors 80 = .ok (.iload 5, 2) := by decide +kernel
theorem dX12_errors_82 : decode cX12_errors 82 = .ok (.ifCond .ne 8, 3) := by decide +kernel
theorem dX12_errors_85 : decode cX12_errors 85 = .ok (.iload 6, 2) := by decide +kernel
theorem dX12_errors_87 : decode cX12_errors 87 = .ok (.goto 5, 3) := by decide +kernel
theorem dX12_errors_90 : decode cX12_errors 90 = .ok (.iload 5, 2) := by decide +kernel
theorem dX12_errors_92 : decode cX12_errors 92 = .ok (.istore 7, 2) := by decide +kernel
theorem dX12_errors_94 : decode cX12_errors 94 = .ok (.iload 5, 2) := by decide +kernel
theorem dX12_errors_96 : decode cX12_errors 96 = .ok (.ifCond .le 141, 3) := by decide +kernel
theorem dX12_errors_99 : decode cX12_errors 99 = .ok (.iload 6, 2) := by decide +kernel
theorem dX12_errors_101 : decode cX12_errors 101 = .ok (.ifCond .le 136, 3) := by decide +kernel
theorem dX12_errors_104 : decode cX12_errors 104 = .ok (.aload_n 0, 1) := by decide +kernel
theorem dX12_errors_105 : decode cX12_errors 105 = .ok (.getfield 106, 3) := by decide +kernel
theorem dX12_errors_108 : decode cX12_errors 108 = .ok (.iconst 5, 1) := by decide +kernel
theorem dX12_errors_109 : decode cX12_errors 109 = .ok (.iload 5, 2) := by decide +kernel
theorem dX12_errors_111 : decode cX12_errors 111 = .ok (.iconst 1, 1) := by decide +kernel
theorem dX12_errors_112 : decode cX12_errors 112 = .ok (.isub, 1) := by decide +kernel
theorem dX12_errors_113 : decode cX12_errors 113 = .ok (.imul, 1) := by decide +kernel
theorem dX12_errors_114 : decode cX12_errors 114 = .ok (.iload 6, 2) := by decide +kernel
theorem dX12_errors_116 : decode cX12_errors 116 = .ok (.iadd, 1) := by decide +kernel
theorem dX12_errors_117 : decode cX12_errors 117 = .ok (.iconst 1, 1) := by decide +kernel
theorem dX12_errors_118 : decode cX12_errors 118 = .ok (.isub, 1) := by decide +kernel
theorem dX12_errors_119 : decode cX12_errors 119 = .ok (.iaload, 1) := by decide +kernel
theorem dX12_errors_120 : decode cX12_errors 120 = .ok (.aload_n 0, 1) := by decide +kernel
theorem dX12_errors_121 : decode cX12_errors 121 = .ok (.getfield 69, 3) := by decide +kernel
theorem dX12_errors_124 : decode cX12_errors 124 = .ok (.iload 5, 2) := by decide +kernel
theorem dX12_errors_126 : decode cX12_errors 126 = .ok (.iconst 1, 1) := by decide +kernel
theorem dX12_errors_127 : decode cX12_errors 127 = .ok (.isub, 1) := by decide +kernel
theorem dX12_errors_128 : decode cX12_errors 128 = .ok (.iaload, 1) := by decide +kernel
theorem dX12_errors_129 : decode cX12_errors 129 = .ok (.aload_n 0, 1) := by decide +kernel
theorem dX12_errors_130 : decode cX12_errors 130 = .ok (.getfield 72, 3) := by decide +kernel
theorem dX12_errors_133 : decode cX12_errors 133 = .ok (.iload 6, 2) := by decide +kernel
theorem dX12_errors_135 : decode cX12_errors 135 = .ok (.iconst 1, 1) := by decide +kernel
theorem dX12_errors_136 : decode cX12_errors 136 = .ok (.isub, 1) := by decide +kernel
theorem dX12_errors_137 : decode cX12_errors 137 = .ok (.iaload, 1) := by decide +kernel
theorem dX12_errors_138 : decode cX12_errors 138 = .ok (.if_icmp .ne 7, 3) := by decide +kernel
theorem dX12_errors_141 : decode cX12_errors 141 = .ok (.iconst 0, 1) := by decide +kernel
theorem dX12_errors_142 : decode cX12_errors 142 = .ok (.goto 4, 3) := by decide +kernel
theorem dX12_errors_145 : decode cX12_errors 145 = .ok (.iconst 1, 1) := by decide +kernel
theorem dX12_errors_146 : decode cX12_errors 146 = .ok (.iadd, 1) := by decide +kernel
theorem dX12_errors_147 : decode cX12_errors 147 = .ok (.istore 7, 2) := by decide +kernel
theorem dX12_errors_149 : decode cX12_errors 149 = .ok (.aload_n 0, 1) := by decide +kernel
theorem dX12_errors_150 : decode cX12_errors 150 = .ok (.getfield 106, 3) := by decide +kernel
theorem dX12_errors_153 : decode cX12_errors 153 = .ok (.iconst 5, 1) := by decide +kernel
theorem dX12_errors_154 : decode cX12_errors 154 = .ok (.iload 5, 2) := by decide +kernel
theorem dX12_errors_156 : decode cX12_errors 156 = .ok (.iconst 1, 1) := by decide +kernel
theorem dX12_errors_157 : decode cX12_errors 157 = .ok (.isub, 1) := by decide +kernel
theorem dX12_errors_158 : decode cX12_errors 158 = .ok (.imul, 1) := by decide +kernel
theorem dX12_errors_159 : decode cX12_errors 159 = .ok (.iload 6, 2) := by decide +kernel
theorem dX12_errors_161 : decode cX12_errors 161 = .ok (.iadd, 1) := by decide +kernel
theorem dX12_errors_162 : decode cX12_errors 162 = .ok (.iaload, 1) := by decide +kernel
theorem dX12_errors_163 : decode cX12_errors 163 = .ok (.iconst 1, 1) := by decide +kernel
theorem dX12_errors_164 : decode cX12_errors 164 = .ok (.iadd, 1) := by decide +kernel
theorem dX12_errors_165 : decode cX12_errors 165 = .ok (.iload 7, 2) := by decide +kernel
theorem dX12_errors_167 : decode cX12_errors 167 = .ok (.if_icmp .ge 22, 3) := by decide +kernel
theorem dX12_errors_170 : decode cX12_errors 170 = .ok (.aload_n 0, 1) := by decide +kernel
theorem dX12_errors_171 : decode cX12_errors 171 = .ok (.getfield 106, 3) := by decide +kernel
theorem dX12_errors_174 : decode cX12_errors 174 = .ok (.iconst 5, 1) := by decide +kernel
theorem dX12_errors_175 : decode cX12_errors 175 = .ok (.iload 5, 2) := by decide +kernel
theorem dX12_errors_177 : decode cX12_errors 177 = .ok (.iconst 1, 1) := by decide +kernel
theorem dX12_errors_178 : decode cX12_errors 178 = .ok (.isub, 1) := by decide +kernel
theorem dX12_errors_179 : decode cX12_errors 179 = .ok (.imul, 1) := by decide +kernel
theorem dX12_errors_180 : decode cX12_errors 180 = .ok (.iload 6, 2) := by decide +kernel
theorem dX12_errors_182 : decode cX12_errors 182 = .ok (.iadd, 1) := by decide +kernel
theorem dX12_errors_183 : decode cX12_errors 183 = .ok (.iaload, 1) := by decide +kernel
theorem dX12_errors_184 : decode cX12_errors 184 = .ok (.iconst 1, 1) := by decide +kernel
theorem dX12_errors_185 : decode cX12_errors 185 = .ok (.iadd, 1) := by decide +kernel
theorem dX12_errors_186 : decode cX12_errors 186 = .ok (.goto 5, 3) := by decide +kernel
theorem dX12_errors_189 : decode cX12_errors 189 = .ok (.iload 7, 2) := by decide +kernel
theorem dX12_errors_191 : decode cX12_errors 191 = .ok (.istore 7, 2) := by decide +kernel
theorem dX12_errors_193 : decode cX12_errors 193 = .ok (.aload_n 0, 1) := by decide +kernel
theorem dX12_errors_194 : decode cX12_errors 194 = .ok (.getfield 106, 3) := by decide +kernel
theorem dX12_errors_197 : decode cX12_errors 197 = .ok (.iconst 5, 1) := by decide +kernel
theorem dX12_errors_198 : decode cX12_errors 198 = .ok (.iload 5, 2) := by decide +kernel
theorem dX12_errors_200 : decode cX12_errors 200 = .ok (.imul, 1) := by decide +kernel
theorem dX12_errors_201 : decode cX12_errors 201 = .ok (.iload 6, 2) := by decide +kernel
theorem dX12_errors_203 : decode cX12_errors 203 = .ok (.iadd, 1) := by decide +kernel
theorem dX12_errors_204 : decode cX12_errors 204 = .ok (.iconst 1, 1) := by decide +kernel
theorem dX12_errors_205 : decode cX12_errors 205 = .ok (.isub, 1) := by decide +kernel
theorem dX12_errors_206 : decode cX12_errors 206 = .ok (.iaload, 1) := by decide +kernel
theorem dX12_errors_207 : decode cX12_errors 207 = .ok (.iconst 1, 1) := by decide +kernel
theorem dX12_errors_208 : decode cX12_errors 208 = .ok (.iadd, 1) := by decide +kernel
theorem dX12_errors_209 : decode cX12_errors 209 = .ok (.iload 7, 2) := by decide +kernel
theorem dX12_errors_211 : decode cX12_errors 211 = .ok (.if_icmp .ge 22, 3) := by decide +kernel
theorem dX12_errors_214 : decode cX12_errors 214 = .ok (.aload_n 0, 1) := by decide +kernel
theorem dX12_errors_215 : decode cX12_errors 215 = .ok (.getfield 106, 3) := by decide +kernel
theorem dX12_errors_218 : decode cX12_errors 218 = .ok (.iconst 5, 1) := by decide +kernel
theorem dX12_errors_219 : decode cX12_errors 219 = .ok (.iload 5, 2) := by decide +kernel
theorem dX12_errors_221 : decode cX12_errors 221 = .ok (.imul, 1) := by decide +kernel
theorem dX12_errors_222 : decode cX12_errors 222 = .ok (.iload 6, 2) := by decide +kernel
theorem dX12_errors_224 : decode cX12_errors 224 = .ok (.iadd, 1) := by decide +kernel
theorem dX12_errors_225 : decode cX12_errors 225 = .ok (.iconst 1, 1) := by decide +kernel
theorem dX12_errors_226 : decode cX12_errors 226 = .ok (.isub, 1) := by decide +kernel
theorem dX12_errors_227 : decode cX12_errors 227 = .ok (.iaload, 1) := by decide +kernel
theorem dX12_errors_228 : decode cX12_errors 228 = .ok (.iconst 1, 1) := by decide +kernel
theorem dX12_errors_229 : decode cX12_errors 229 = .ok (.iadd, 1) := by decide +kernel
theorem dX12_errors_230 : decode cX12_errors 230 = .ok (.goto 5, 3) := by decide +kernel
theorem dX12_errors_233 : decode cX12_errors 233 = .ok (.iload 7, 2) := by decide +kernel
theorem dX12_errors_235 : decode cX12_errors 235 = .ok (.istore 7, 2) := by decide +kernel
theorem dX12_errors_237 : decode cX12_errors 237 = .ok (.aload_n 0, 1) := by decide +kernel
theorem dX12_errors_238 : decode cX12_errors 238 = .ok (.getfield 106, 3) := by decide +kernel
theorem dX12_errors_241 : decode cX12_errors 241 = .ok (.iconst 5, 1) := by decide +kernel
theorem dX12_errors_242 : decode cX12_errors 242 = .ok (.iload 5, 2) := by decide +kernel
theorem dX12_errors_244 : decode cX12_errors 244 = .ok (.imul, 1) := by decide +kernel
theorem dX12_errors_245 : decode cX12_errors 245 = .ok (.iload 6, 2) := by decide +kernel
theorem dX12_errors_247 : decode cX12_errors 247 = .ok (.iadd, 1) := by decide +kernel
theorem dX12_errors_248 : decode cX12_errors 248 = .ok (.iload 7, 2) := by decide +kernel
theorem dX12_errors_250 : decode cX12_errors 250 = .ok (.iastore, 1) := by decide +kernel
theorem dX12_errors_251 : decode cX12_errors 251 = .ok (.iinc 6 1, 3) := by decide +kernel
theorem dX12_errors_254 : decode cX12_errors 254 = .ok (.goto (-180), 3) := by decide +kernel
theorem dX12_errors_257 : decode cX12_errors 257 = .ok (.iinc 5 1, 3) := by decide +kernel
theorem dX12_errors_260 : decode cX12_errors 260 = .ok (.goto (-196), 3) := by decide +kernel
theorem dX12_errors_263 : decode cX12_errors 263 = .ok (.aload_n 0, 1) := by decide +kernel
theorem dX12_errors_264 : decode cX12_errors 264 = .ok (.getfield 106, 3) := by decide +kernel
theorem dX12_errors_267 : decode cX12_errors 267 = .ok (.iconst 5, 1) := by decide +kernel
theorem dX12_errors_268 : decode cX12_errors 268 = .ok (.iload 4, 2) := by decide +kernel
theorem dX12_errors_270 : decode cX12_errors 270 = .ok (.imul, 1) := by decide +kernel
theorem dX12_errors_271 : decode cX12_errors 271 = .ok (.iload_n 2, 1) := by decide +kernel
theorem dX12_errors_272 : decode cX12_errors 272 = .ok (.iadd, 1) := by decide +kernel
theorem dX12_errors_273 : decode cX12_errors 273 = .ok (.iaload, 1) := by decide +kernel
theorem dX12_errors_274 : decode cX12_errors 274 = .ok (.ireturn, 1) := by decide +kernel
def J_X12_errors_237 (v2 v4 v5 v6 v7 : Int) (st : z_St) : Option ((Int × z_St) ⊕ z_St) :=
  z_g (0 ≤ (5 * v5) + v6 ∧ (5 * v5) + v6 < 25) <|
  z_let (z_up st 198 ((5 * v5) + v6) v7) fun st19 =>
  some (.inl (v6 + 1, st19))
set_option maxRecDepth 100000 in
set_option maxHeartbeats 4000000 in
theorem w_X12_errors_237 {κ : zK} {a : Nat → Nat} {v2 v4 v5 v6 v7 : Int} {st : z_St} {mc9 ms9 : Nat} {o : (Int × z_St) ⊕ z_St} (hc : z_C κ RX12 cX12_errors 8 13 mc9 ms9) (hap : z_AP κ a z_N) (k1 : ∀ s9 : (Int × z_St), o = .inl s9 → z_V κ z_T z_N a 0 0 74 [(0, .ref (a 168)), (2, .int (zI v2)), (4, .int (zI v4)), (5, .int (zI v5)), (6, .int (zI s9.1))] [] s9.2) (k2 : ∀ x9 : z_St, o = .inr x9 → z_V κ z_T z_N a 0 0 257 [(0, .ref (a 168)), (2, .int (zI v2)), (4, .int (zI v4)), (5, .int (zI v5))] [] x9) (h : J_X12_errors_237 v2 v4 v5 v6 v7 st = some o) : z_V κ z_T z_N a 0 0 237 [(0, .ref (a 168)), (2, .int (zI v2)), (4, .int (zI v4)), (5, .int (zI v5)), (6, .int (zI v6)), (7, .int (zI v7))] [] st := by
  unfold J_X12_errors_237 at h
  refine z_aload_n (i := 0) 0 hc dX12_errors_237 rfl rfl ?_
  refine z_getA (k' := 198) hc fl_RX12_106 tT_168 (by decide) rfl rfl dX12_errors_238 ?_
  refine z_iconst hc dX12_errors_241 ?_
  refine z_iload 3 hc dX12_errors_242 rfl ?_
  refine z_imul hc dX12_errors_244 ?_
  refine z_iload 4 hc dX12_errors_245 rfl ?_
  refine z_iadd hc dX12_errors_247 ?_
  refine z_iload 5 hc dX12_errors_248 rfl ?_
  refine z_iast (kI := 198) (nI9 := 25) hc hap tT_198 (by decide) rfl rfl (by decide) dX12_errors_250 h (fun st19 h => ?_)
  refine z_iinc [(6, .int (zI (v6 + 1))), (0, .ref (a 168)), (2, .int (zI v2)), (4, .int (zI v4)), (5, .int (zI v5)), (7, .int (zI v7))] 4 hc dX12_errors_251 rfl (by decide) rfl ?_
  refine z_goto (tgt := 74) hc dX12_errors_254 (by decide) ?_
  refine z_sub [(0, .ref (a 168)), (2, .int (zI v2)), (4, .int (zI v4)), (5, .int (zI v5)), (6, .int (zI (v6 + 1)))] [1, 2, 3, 4, 0] rfl ?_
  exact k1 _ (Option.some.inj h).symm
def J_X12_errors_235 (v2 v4 v5 v6 s0 : Int) (st : z_St) : Option ((Int × z_St) ⊕ z_St) :=
  J_X12_errors_237 v2 v4 v5 v6 s0 st
set_option maxRecDepth 100000 in
set_option maxHeartbeats 4000000 in
theorem w_X12_errors_235 {κ : zK} {a : Nat → Nat} {v2 v4 v5 v6 s0 : Int} {st : z_St} {mc9 ms9 : Nat} {o : (Int × z_St) ⊕ z_St} (hc : z_C κ RX12 cX12_errors 8 13 mc9 ms9) (hap : z_AP κ a z_N) (k1 : ∀ s9 : (Int × z_St), o = .inl s9 → z_V κ z_T z_N a 0 0 74 [(0, .ref (a 168)), (2, .int (zI v2)), (4, .int (zI v4)), (5, .int (zI v5)), (6, .int (zI s9.1))] [] s9.2) (k2 : ∀ x9 : z_St, o = .inr x9 → z_V κ z_T z_N a 0 0 257 [(0, .ref (a 168)), (2, .int (zI v2)), (4, .int (zI v4)), (5, .int (zI v5))] [] x9) (h : J_X12_errors_235 v2 v4 v5 v6 s0 st = some o) : z_V κ z_T z_N a 0 0 235 [(0, .ref (a 168)), (2, .int (zI v2)), (4, .int (zI v4)), (5, .int (zI v5)), (6, .int (zI v6))] [.int (zI s0)] st := by
  unfold J_X12_errors_235 at h
  refine z_istore [(7, .int (zI s0)), (0, .ref (a 168)), (2, .int (zI v2)), (4, .int (zI v4)), (5, .int (zI v5)), (6, .int (zI v6))] hc dX12_errors_235 (by decide) rfl ?_
  refine z_sub [(0, .ref (a 168)), (2, .int (zI v2)), (4, .int (zI v4)), (5, .int (zI v5)), (6, .int (zI v6)), (7, .int (zI s0))] [1, 2, 3, 4, 5, 0] rfl ?_
  exact w_X12_errors_237 hc hap k1 k2 h
def J_X12_errors_191 (v2 v4 v5 v6 s0 : Int) (st : z_St) : Option ((Int × z_St) ⊕ z_St) :=
  z_g (0 ≤ ((5 * v5) + v6) - 1 ∧ ((5 * v5) + v6) - 1 < 25) <|
  z_g (z32 ((st 198 (((5 * v5) + v6) - 1)) + 1) ∧ z32 s0) (if (st 198 (((5 * v5) + v6) - 1)) + 1 < s0 then
    z_g (0 ≤ ((5 * v5) + v6) - 1 ∧ ((5 * v5) + v6) - 1 < 25) <|
    J_X12_errors_235 v2 v4 v5 v6 ((st 198 (((5 * v5) + v6) - 1)) + 1) st
  else
    J_X12_errors_235 v2 v4 v5 v6 s0 st)
set_option maxRecDepth 100000 in
set_option maxHeartbeats 4000000 in
theorem w_X12_errors_191 {κ : zK} {a : Nat → Nat} {v2 v4 v5 v6 s0 : Int} {st : z_St} {mc9 ms9 : Nat} {o : (Int × z_St) ⊕ z_St} (hc : z_C κ RX12 cX12_errors 8 13 mc9 ms9) (hap : z_AP κ a z_N) (k1 : ∀ s9 : (Int × z_St), o = .inl s9 → z_V κ z_T z_N a 0 0 74 [(0, .ref (a 168)), (2, .int (zI v2)), (4, .int (zI v4)), (5, .int (zI v5)), (6, .int (zI s9.1))] [] s9.2) (k2 : ∀ x9 : z_St, o = .inr x9 → z_V κ z_T z_N a 0 0 257 [(0, .ref (a 168)), (2, .int (zI v2)), (4, .int (zI v4)), (5, .int (zI v5))] [] x9) (h : J_X12_errors_191 v2 v4 v5 v6 s0 st = some o) : z_V κ z_T z_N a 0 0 191 [(0, .ref (a 168)), (2, .int (zI v2)), (4, .int (zI v4)), (5, .int (zI v5)), (6, .int (zI v6))] [.int (zI s0)] st := by
  unfold J_X12_errors_191 at h
  refine z_istore [(7, .int (zI s0)), (0, .ref (a 168)), (2, .int (zI v2)), (4, .int (zI v4)), (5, .int (zI v5)), (6, .int (zI v6))] hc dX12_errors_191 (by decide) rfl ?_
  refine z_aload_n (i := 0) 1 hc dX12_errors_193 rfl rfl ?_
  refine z_getA (k' := 198) hc fl_RX12_106 tT_168 (by decide) rfl rfl dX12_errors_194 ?_
  refine z_iconst hc dX12_errors_197 ?_
  refine z_iload 4 hc dX12_errors_198 rfl ?_
  refine z_imul hc dX12_errors_200 ?_
  refine z_iload 5 hc dX12_errors_201 rfl ?_
  refine z_iadd hc dX12_errors_203 ?_
  refine z_iconst hc dX12_errors_204 ?_
  refine z_isub hc dX12_errors_205 ?_
  refine z_iald (kI := 198) (nI9 := 25) hc tT_198 (by decide) rfl rfl (by decide) dX12_errors_206 h (fun g17 h => ?_)
  refine z_iconst hc dX12_errors_207 ?_
  refine z_iadd hc dX12_errors_208 ?_
  refine z_iload 0 hc dX12_errors_209 rfl ?_
  refine z_icmp_ge (tgt := 233) hc dX12_errors_211 (by decide) h (fun c211 h => ?_) (fun c211 h => ?_)
  · refine z_aload_n (i := 0) 1 hc dX12_errors_214 rfl rfl ?_
    refine z_getA (k' := 198) hc fl_RX12_106 tT_168 (by decide) rfl rfl dX12_errors_215 ?_
    refine z_iconst hc dX12_errors_218 ?_
    refine z_iload 4 hc dX12_errors_219 rfl ?_
    refine z_imul hc dX12_errors_221 ?_
    refine z_iload 5 hc dX12_errors_222 rfl ?_
    refine z_iadd hc dX12_errors_224 ?_
    refine z_iconst hc dX12_errors_225 ?_
    refine z_isub hc dX12_errors_226 ?_
    refine z_iald (kI := 198) (nI9 := 25) hc tT_198 (by decide) rfl rfl (by decide) dX12_errors_227 h (fun g18 h => ?_)
    refine z_iconst hc dX12_errors_228 ?_
    refine z_iadd hc dX12_errors_229 ?_
    refine z_goto (tgt := 235) hc dX12_errors_230 (by decide) ?_
    refine z_sub [(0, .ref (a 168)), (2, .int (zI v2)), (4, .int (zI v4)), (5, .int (zI v5)), (6, .int (zI v6))] [1, 2, 3, 4, 5] rfl ?_
    exact w_X12_errors_235 hc hap k1 k2 h
  · refine z_iload 0 hc dX12_errors_233 rfl ?_
    refine z_sub [(0, .ref (a 168)), (2, .int (zI v2)), (4, .int (zI v4)), (5, .int (zI v5)), (6, .int (zI v6))] [1, 2, 3, 4, 5] rfl ?_
    exact w_X12_errors_235 hc hap k1 k2 h
def J_X12_errors_146 (v2 v4 v5 v6 s0 s1 : Int) (st : z_St) : Option ((Int × z_St) ⊕ z_St) :=
  z_g (0 ≤ (5 * (v5 - 1)) + v6 ∧ (5 * (v5 - 1)) + v6 < 25) <|
  z_g (z32 ((st 198 ((5 * (v5 - 1)) + v6)) + 1) ∧ z32 (s1 + s0)) (if (st 198 ((5 * (v5 - 1)) + v6)) + 1 < s1 + s0 then
    z_g (0 ≤ (5 * (v5 - 1)) + v6 ∧ (5 * (v5 - 1)) + v6 < 25) <|
    J_X12_errors_191 v2 v4 v5 v6 ((st 198 ((5 * (v5 - 1)) + v6)) + 1) st
  else
    J_X12_errors_191 v2 v4 v5 v6 (s1 + s0) st)
set_option maxRecDepth 100000 in
set_option maxHeartbeats 4000000 in
theorem w_X12_errors_146 {κ : zK} {a : Nat → Nat} {v2 v4 v5 v6 s0 s1 : Int} {st : z_St} {mc9 ms9 : Nat} {o : (Int × z_St) ⊕ z_St} (hc : z_C κ RX12 cX12_errors 8 13 mc9 ms9) (hap : z_AP κ a z_N) (k1 : ∀ s9 : (Int × z_St), o = .inl s9 → z_V κ z_T z_N a 0 0 74 [(0, .ref (a 168)), (2, .int (zI v2)), (4, .int (zI v4)), (5, .int (zI v5)), (6, .int (zI s9.1))] [] s9.2) (k2 : ∀ x9 : z_St, o = .inr x9 → z_V κ z_T z_N a 0 0 257 [(0, .ref (a 168)), (2, .int (zI v2)), (4, .int (zI v4)), (5, .int (zI v5))] [] x9) (h : J_X12_errors_146 v2 v4 v5 v6 s0 s1 st = some o) : z_V κ z_T z_N a 0 0 146 [(0, .ref (a 168)), (2, .int (zI v2)), (4, .int (zI v4)), (5, .int (zI v5)), (6, .int (zI v6))] [.int (zI s0), .int (zI s1)] st := by
  unfold J_X12_errors_146 at h
  refine z_iadd hc dX12_errors_146 ?_
  refine z_istore [(7, .int (zI (s1 + s0))), (0, .ref (a 168)), (2, .int (zI v2)), (4, .int (zI v4)), (5, .int (zI v5)), (6, .int (zI v6))] hc dX12_errors_147 (by decide) rfl ?_
  refine z_aload_n (i := 0) 1 hc dX12_errors_149 rfl rfl ?_
  refine z_getA (k' := 198) hc fl_RX12_106 tT_168 (by decide) rfl rfl dX12_errors_150 ?_
  refine z_iconst hc dX12_errors_153 ?_
  refine z_iload 4 hc dX12_errors_154 rfl ?_
  refine z_iconst hc dX12_errors_156 ?_
  refine z_isub hc dX12_errors_157 ?_
  refine z_imul hc dX12_errors_158 ?_
  refine z_iload 5 hc dX12_errors_159 rfl ?_
  refine z_iadd hc dX12_errors_161 ?_
  refine z_iald (kI := 198) (nI9 := 25) hc tT_198 (by decide) rfl rfl (by decide) dX12_errors_162 h (fun g15 h => ?_)
  refine z_iconst hc dX12_errors_163 ?_
  refine z_iadd hc dX12_errors_164 ?_
  refine z_iload 0 hc dX12_errors_165 rfl ?_
  refine z_icmp_ge (tgt := 189) hc dX12_errors_167 (by decide) h (fun c167 h => ?_) (fun c167 h => ?_)
  · refine z_aload_n (i := 0) 1 hc dX12_errors_170 rfl rfl ?_
    refine z_getA (k' := 198) hc fl_RX12_106 tT_168 (by decide) rfl rfl dX12_errors_171 ?_
    refine z_iconst hc dX12_errors_174 ?_
    refine z_iload 4 hc dX12_errors_175 rfl ?_
    refine z_iconst hc dX12_errors_177 ?_
    refine z_isub hc dX12_errors_178 ?_
    refine z_imul hc dX12_errors_179 ?_
    refine z_iload 5 hc dX12_errors_180 rfl ?_
    refine z_iadd hc dX12_errors_182 ?_
    refine z_iald (kI := 198) (nI9 := 25) hc tT_198 (by decide) rfl rfl (by decide) dX12_errors_183 h (fun g16 h => ?_)
    refine z_iconst hc dX12_errors_184 ?_
    refine z_iadd hc dX12_errors_185 ?_
    refine z_goto (tgt := 191) hc dX12_errors_186 (by decide) ?_
    refine z_sub [(0, .ref (a 168)), (2, .int (zI v2)), (4, .int (zI v4)), (5, .int (zI v5)), (6, .int (zI v6))] [1, 2, 3, 4, 5] rfl ?_
    exact w_X12_errors_191 hc hap k1 k2 h
  · refine z_iload 0 hc dX12_errors_189 rfl ?_
    refine z_sub [(0, .ref (a 168)), (2, .int (zI v2)), (4, .int (zI v4)), (5, .int (zI v5)), (6, .int (zI v6))] [1, 2, 3, 4, 5] rfl ?_
    exact w_X12_errors_191 hc hap k1 k2 h
def J_X12_errors_92 (v2 v4 v5 v6 s0 : Int) (st : z_St) : Option ((Int × z_St) ⊕ z_St) :=
  z_g (z32 v5) (if 0 < v5 then
    z_g (z32 v6) (if 0 < v6 then
      z_g (0 ≤ ((5 * (v5 - 1)) + v6) - 1 ∧ ((5 * (v5 - 1)) + v6) - 1 < 25) <|
      z_g (0 ≤ v5 - 1 ∧ v5 - 1 < 4) <|
      z_g (0 ≤ v6 - 1 ∧ v6 - 1 < 4) <|
      z_g (z32 (st 186 (v5 - 1)) ∧ z32 (st 187 (v6 - 1))) (if st 186 (v5 - 1) = st 187 (v6 - 1) then
        J_X12_errors_146 v2 v4 v5 v6 0 (st 198 (((5 * (v5 - 1)) + v6) - 1)) st
      else
        J_X12_errors_146 v2 v4 v5 v6 1 (st 198 (((5 * (v5 - 1)) + v6) - 1)) st)
    else
      J_X12_errors_237 v2 v4 v5 v6 s0 st)
  else
    J_X12_errors_237 v2 v4 v5 v6 s0 st)
set_option maxRecDepth 100000 in
set_option maxHeartbeats 4000000 in
theorem w_X12_errors_92 {κ : zK} {a : Nat → Nat} {v2 v4 v5 v6 s0 : Int} {st : z_St} {mc9 ms9 : Nat} {o : (Int × z_St) ⊕ z_St} (hc : z_C κ RX12 cX12_errors 8 13 mc9 ms9) (hap : z_AP κ a z_N) (k1 : ∀ s9 : (Int × z_St), o = .inl s9 → z_V κ z_T z_N a 0 0 74 [(0, .ref (a 168)), (2, .int (zI v2)), (4, .int (zI v4)), (5, .int (zI v5)), (6, .int (zI s9.1))] [] s9.2) (k2 : ∀ x9 : z_St, o = .inr x9 → z_V κ z_T z_N a 0 0 257 [(0, .ref (a 168)), (2, .int (zI v2)), (4, .int (zI v4)), (5, .int (zI v5))] [] x9) (h : J_X12_errors_92 v2 v4 v5 v6 s0 st = some o) : z_V κ z_T z_N a 0 0 92 [(0, .ref (a 168)), (2, .int (zI v2)), (4, .int (zI v4)), (5, .int (zI v5)), (6, .int (zI v6))] [.int (zI s0)] st := by
  unfold J_X12_errors_92 at h
  refine z_istore [(7, .int (zI s0)), (0, .ref (a 168)), (2, .int (zI v2)), (4, .int (zI v4)), (5, .int (zI v5)), (6, .int (zI v6))] hc dX12_errors_92 (by decide) rfl ?_
  refine z_iload 4 hc dX12_errors_94 rfl ?_
  refine z_if_le (tgt := 237) hc dX12_errors_96 (by decide) h (fun c96 h => ?_) (fun c96 h => ?_)
  · refine z_iload 5 hc dX12_errors_99 rfl ?_
    refine z_if_le (tgt := 237) hc dX12_errors_101 (by decide) h (fun c101 h => ?_) (fun c101 h => ?_)
    · refine z_aload_n (i := 0) 1 hc dX12_errors_104 rfl rfl ?_
      refine z_getA (k' := 198) hc fl_RX12_106 tT_168 (by decide) rfl rfl dX12_errors_105 ?_
      refine z_iconst hc dX12_errors_108 ?_
      refine z_iload 4 hc dX12_errors_109 rfl ?_
      refine z_iconst hc dX12_errors_111 ?_
      refine z_isub hc dX12_errors_112 ?_
      refine z_imul hc dX12_errors_113 ?_
      refine z_iload 5 hc dX12_errors_114 rfl ?_
      refine z_iadd hc dX12_errors_116 ?_
      refine z_iconst hc dX12_errors_117 ?_
      refine z_isub hc dX12_errors_118 ?_
      refine z_iald (kI := 198) (nI9 := 25) hc tT_198 (by decide) rfl rfl (by decide) dX12_errors_119 h (fun g12 h => ?_)
      refine z_aload_n (i := 0) 1 hc dX12_errors_120 rfl rfl ?_
      refine z_getA (k' := 186) hc fl_RX12_69 tT_168 (by decide) rfl rfl dX12_errors_121 ?_
      refine z_iload 4 hc dX12_errors_124 rfl ?_
      refine z_iconst hc dX12_errors_126 ?_
      refine z_isub hc dX12_errors_127 ?_
      refine z_iald (kI := 186) (nI9 := 4) hc tT_186 (by decide) rfl rfl (by decide) dX12_errors_128 h (fun g13 h => ?_)
      refine z_aload_n (i := 0) 1 hc dX12_errors_129 rfl rfl ?_
      refine z_getA (k' := 187) hc fl_RX12_72 tT_168 (by decide) rfl rfl dX12_errors_130 ?_
      refine z_iload 5 hc dX12_errors_133 rfl ?_
      refine z_iconst hc dX12_errors_135 ?_
      refine z_isub hc dX12_errors_136 ?_
      refine z_iald (kI := 187) (nI9 := 4) hc tT_187 (by decide) rfl rfl (by decide) dX12_errors_137 h (fun g14 h => ?_)
      refine z_icmp_ne (tgt := 145) hc dX12_errors_138 (by decide) h (fun c138 h => ?_) (fun c138 h => ?_)
      · refine z_iconst hc dX12_errors_141 ?_
        refine z_goto (tgt := 146) hc dX12_errors_142 (by decide) ?_
        refine z_sub [(0, .ref (a 168)), (2, .int (zI v2)), (4, .int (zI v4)), (5, .int (zI v5)), (6, .int (zI v6))] [1, 2, 3, 4, 5] rfl ?_
        exact w_X12_errors_146 hc hap k1 k2 h
      · refine z_iconst hc dX12_errors_145 ?_
        refine z_sub [(0, .ref (a 168)), (2, .int (zI v2)), (4, .int (zI v4)), (5, .int (zI v5)), (6, .int (zI v6))] [1, 2, 3, 4, 5] rfl ?_
        exact w_X12_errors_146 hc hap k1 k2 h
    · refine z_sub [(0, .ref (a 168)), (2, .int (zI v2)), (4, .int (zI v4)), (5, .int (zI v5)), (6, .int (zI v6)), (7, .int (zI s0))] [1, 2, 3, 4, 5, 0] rfl ?_
      exact w_X12_errors_237 hc hap k1 k2 h
  · refine z_sub [(0, .ref (a 168)), (2, .int (zI v2)), (4, .int (zI v4)), (5, .int (zI v5)), (6, .int (zI v6)), (7, .int (zI s0))] [1, 2, 3, 4, 5, 0] rfl ?_
    exact w_X12_errors_237 hc hap k1 k2 h
def J_X12_errors_b74 (v2 v4 v5 v6 : Int) (st : z_St) : Option ((Int × z_St) ⊕ z_St) :=
  z_g (z32 v6 ∧ z32 v2) (if v2 < v6 then
    some (.inr st)
  else
    z_g (z32 v5) (if v5 = 0 then
      J_X12_errors_92 v2 v4 v5 v6 v6 st
    else
      J_X12_errors_92 v2 v4 v5 v6 v5 st))
set_option maxRecDepth 100000 in
set_option maxHeartbeats 4000000 in
theorem w_X12_errors_b74 {κ : zK} {a : Nat → Nat} {v2 v4 v5 v6 : Int} {st : z_St} {mc9 ms9 : Nat} {o : (Int × z_St) ⊕ z_St} (hc : z_C κ RX12 cX12_errors 8 13 mc9 ms9) (hap : z_AP κ a z_N) (k1 : ∀ s9 : (Int × z_St), o = .inl s9 → z_V κ z_T z_N a 0 0 74 [(0, .ref (a 168)), (2, .int (zI v2)), (4, .int (zI v4)), (5, .int (zI v5)), (6, .int (zI s9.1))] [] s9.2) (k2 : ∀ x9 : z_St, o = .inr x9 → z_V κ z_T z_N a 0 0 257 [(0, .ref (a 168)), (2, .int (zI v2)), (4, .int (zI v4)), (5, .int (zI v5))] [] x9) (h : J_X12_errors_b74 v2 v4 v5 v6 st = some o) : z_V κ z_T z_N a 0 0 74 [(0, .ref (a 168)), (2, .int (zI v2)), (4, .int (zI v4)), (5, .int (zI v5)), (6, .int (zI v6))] [] st := by
  unfold J_X12_errors_b74 at h
  refine z_iload 4 hc dX12_errors_74 rfl ?_
  refine z_iload_n (i := 2) 1 hc dX12_errors_76 rfl rfl ?_
  refine z_icmp_gt (tgt := 257) hc dX12_errors_77 (by decide) h (fun c77 h => ?_) (fun c77 h => ?_)
  · refine z_sub [(0, .ref (a 168)), (2, .int (zI v2)), (4, .int (zI v4)), (5, .int (zI v5))] [0, 1, 2, 3] rfl ?_
    exact k2 st (Option.some.inj h).symm
  · refine z_iload 3 hc dX12_errors_80 rfl ?_
    refine z_if_ne (tgt := 90) hc dX12_errors_82 (by decide) h (fun c82 h => ?_) (fun c82 h => ?_)
    · refine z_iload 4 hc dX12_errors_85 rfl ?_
      refine z_goto (tgt := 92) hc dX12_errors_87 (by decide) ?_
      refine z_sub [(0, .ref (a 168)), (2, .int (zI v2)), (4, .int (zI v4)), (5, .int (zI v5)), (6, .int (zI v6))] [0, 1, 2, 3, 4] rfl ?_
      exact w_X12_errors_92 hc hap k1 k2 h
    · refine z_iload 3 hc dX12_errors_90 rfl ?_
      refine z_sub [(0, .ref (a 168)), (2, .int (zI v2)), (4, .int (zI v4)), (5, .int (zI v5)), (6, .int (zI v6))] [0, 1, 2, 3, 4] rfl ?_
      exact w_X12_errors_92 hc hap k1 k2 h
def J_X12_errors_b64 (v2 v4 v5 : Int) (st : z_St) : Option ((Int × z_St) ⊕ z_St) :=
  z_g (z32 v5 ∧ z32 v4) (if v4 < v5 then
    some (.inr st)
  else
    z_b (z_iter z_F (fun q9 : (Int × z_St) => J_X12_errors_b74 v2 v4 v5 q9.1 q9.2) (0, st)) fun lx20 =>
      some (.inl (v5 + 1, lx20)))
set_option maxRecDepth 100000 in
set_option maxHeartbeats 4000000 in
theorem w_X12_errors_b64 {κ : zK} {a : Nat → Nat} {v2 v4 v5 : Int} {st : z_St} {mc9 ms9 : Nat} {o : (Int × z_St) ⊕ z_St} (hc : z_C κ RX12 cX12_errors 8 13 mc9 ms9) (hap : z_AP κ a z_N) (k1 : ∀ s9 : (Int × z_St), o = .inl s9 → z_V κ z_T z_N a 0 0 64 [(0, .ref (a 168)), (2, .int (zI v2)), (4, .int (zI v4)), (5, .int (zI s9.1))] [] s9.2) (k2 : ∀ x9 : z_St, o = .inr x9 → z_V κ z_T z_N a 0 0 263 [(0, .ref (a 168)), (2, .int (zI v2)), (4, .int (zI v4))] [] x9) (h : J_X12_errors_b64 v2 v4 v5 st = some o) : z_V κ z_T z_N a 0 0 64 [(0, .ref (a 168)), (2, .int (zI v2)), (4, .int (zI v4)), (5, .int (zI v5))] [] st := by
  unfold J_X12_errors_b64 at h
  refine z_iload 3 hc dX12_errors_64 rfl ?_
  refine z_iload 2 hc dX12_errors_66 rfl ?_
  refine z_icmp_gt (tgt := 263) hc dX12_errors_68 (by decide) h (fun c68 h => ?_) (fun c68 h => ?_)
  · refine z_sub [(0, .ref (a 168)), (2, .int (zI v2)), (4, .int (zI v4))] [0, 1, 2] rfl ?_
    exact k2 st (Option.some.inj h).symm
  · refine z_iconst hc dX12_errors_71 ?_
    refine z_istore [(6, .int (zI 0)), (0, .ref (a 168)), (2, .int (zI v2)), (4, .int (zI v4)), (5, .int (zI v5))] hc dX12_errors_72 (by decide) rfl ?_
    obtain ⟨lx20, hlx20, h⟩ := z_b_some h
    refine z_sub [(0, .ref (a 168)), (2, .int (zI v2)), (4, .int (zI v4)), (5, .int (zI v5)), (6, .int (zI 0))] [1, 2, 3, 4, 0] rfl ?_
    refine z_loop (fun q9 : (Int × z_St) => J_X12_errors_b74 v2 v4 v5 q9.1 q9.2) (fun q9 : (Int × z_St) => z_V κ z_T z_N a 0 0 74 [(0, .ref (a 168)), (2, .int (zI v2)), (4, .int (zI v4)), (5, .int (zI v5)), (6, .int (zI q9.1))] [] q9.2) (fun x9 : z_St => z_V κ z_T z_N a 0 0 257 [(0, .ref (a 168)), (2, .int (zI v2)), (4, .int (zI v4)), (5, .int (zI v5))] [] x9) (fun q9 o9 hb k1 k2 => ?_) _ _ _ hlx20 ?_
    · exact w_X12_errors_b74 hc hap k1 k2 hb
    · show z_V κ z_T z_N a 0 0 257 [(0, .ref (a 168)), (2, .int (zI v2)), (4, .int (zI v4)), (5, .int (zI v5))] [] lx20
      refine z_iinc [(5, .int (zI (v5 + 1))), (0, .ref (a 168)), (2, .int (zI v2)), (4, .int (zI v4))] 3 hc dX12_errors_257 rfl (by decide) rfl ?_
      refine z_goto (tgt := 64) hc dX12_errors_260 (by decide) ?_
      refine z_sub [(0, .ref (a 168)), (2, .int (zI v2)), (4, .int (zI v4)), (5, .int (zI (v5 + 1)))] [1, 2, 3, 0] rfl ?_
      exact k1 _ (Option.some.inj h).symm
def J_X12_errors_37 (v2 v3 s0 : Int) (st : z_St) : Option (Int × z_St) :=
  z_b (J_X12_holds s0 st) fun r7 =>
  z_g (z32 r7.1) (if r7.1 = 0 then
    z_g (0 ≤ v3 ∧ v3 < 780) <|
    z_b (J_X12_apart (r7.2 190 v3) 186 r7.2) fun r10 =>
    z_b (z_iter z_F (fun q9 : (Int × z_St) => J_X12_errors_b64 v2 r10.1 q9.1 q9.2) (0, r10.2)) fun lx21 =>
      z_g (0 ≤ (5 * r10.1) + v2 ∧ (5 * r10.1) + v2 < 25) <|
      some (lx21 198 ((5 * r10.1) + v2), lx21)
  else
    some ((-1), r7.2))
set_option maxRecDepth 100000 in
set_option maxHeartbeats 4000000 in
theorem w_X12_errors_37 {κ : zK} {a : Nat → Nat} {v2 v3 s0 : Int} {st : z_St} {o : Int × z_St} (hc : z_C κ RX12 cX12_errors 8 13 0 0) (hap : z_AP κ a z_N) (he : z_E 0 κ (some .int) z_T z_N a o.1 o.2) (h : J_X12_errors_37 v2 v3 s0 st = some o) : z_V κ z_T z_N a 0 0 37 [(0, .ref (a 168)), (2, .int (zI v2)), (3, .int (zI v3))] [.int (zI s0), .ref (a 168)] st := by
  unfold J_X12_errors_37 at h
  obtain ⟨r7, hr7, h⟩ := z_b_some h
  refine z_callVI [.int (zI s0)] hc hap o_X12_holds ml_RX12_131 (fun l hl => c_X12_holds hl  hr7) (by decide) tT_168 (by decide) ⟨_, rfl, rfl⟩ rfl rfl (Nat.le_of_ble_eq_true rfl) (Nat.zero_le _) (Nat.zero_le _) dX12_errors_37 ?_
  refine z_if_eq (tgt := 45) hc dX12_errors_40 (by decide) h (fun c40 h => ?_) (fun c40 h => ?_)
  · refine z_aload_n (i := 0) 0 hc dX12_errors_45 rfl rfl ?_
    refine z_aload_n (i := 0) 0 hc dX12_errors_46 rfl rfl ?_
    refine z_getA (k' := 190) hc fl_RX12_81 tT_168 (by decide) rfl rfl dX12_errors_47 ?_
    refine z_iload_n (i := 3) 2 hc dX12_errors_50 rfl rfl ?_
    refine z_iald (kI := 190) (nI9 := 780) hc tT_190 (by decide) rfl rfl (by decide) dX12_errors_51 h (fun g9 h => ?_)
    refine z_aload_n (i := 0) 0 hc dX12_errors_52 rfl rfl ?_
    refine z_getA (k' := 186) hc fl_RX12_69 tT_168 (by decide) rfl rfl dX12_errors_53 ?_
    obtain ⟨r10, hr10, h⟩ := z_b_some h
    refine z_callVI [.int (zI (r7.2 190 v3)), .ref (a 186)] hc hap o_X12_apart ml_RX12_231 (fun l hl => c_X12_apart hl (z_isArr_lit (by decide) tT_186) hr10) (by decide) tT_168 (by decide) ⟨_, rfl, rfl⟩ rfl rfl (Nat.le_of_ble_eq_true rfl) (Nat.zero_le _) (Nat.zero_le _) dX12_errors_56 ?_
    refine z_istore [(4, .int (zI r10.1)), (0, .ref (a 168)), (2, .int (zI v2)), (3, .int (zI v3))] hc dX12_errors_59 (by decide) rfl ?_
    refine z_iconst hc dX12_errors_61 ?_
    refine z_istore [(5, .int (zI 0)), (4, .int (zI r10.1)), (0, .ref (a 168)), (2, .int (zI v2)), (3, .int (zI v3))] hc dX12_errors_62 (by decide) rfl ?_
    obtain ⟨lx21, hlx21, h⟩ := z_b_some h
    refine z_sub [(0, .ref (a 168)), (2, .int (zI v2)), (4, .int (zI r10.1)), (5, .int (zI 0))] [2, 3, 1, 0] rfl ?_
    refine z_loop (fun q9 : (Int × z_St) => J_X12_errors_b64 v2 r10.1 q9.1 q9.2) (fun q9 : (Int × z_St) => z_V κ z_T z_N a 0 0 64 [(0, .ref (a 168)), (2, .int (zI v2)), (4, .int (zI r10.1)), (5, .int (zI q9.1))] [] q9.2) (fun x9 : z_St => z_V κ z_T z_N a 0 0 263 [(0, .ref (a 168)), (2, .int (zI v2)), (4, .int (zI r10.1))] [] x9) (fun q9 o9 hb k1 k2 => ?_) _ _ _ hlx21 ?_
    · exact w_X12_errors_b64 hc hap k1 k2 hb
    · show z_V κ z_T z_N a 0 0 263 [(0, .ref (a 168)), (2, .int (zI v2)), (4, .int (zI r10.1))] [] lx21
      refine z_aload_n (i := 0) 0 hc dX12_errors_263 rfl rfl ?_
      refine z_getA (k' := 198) hc fl_RX12_106 tT_168 (by decide) rfl rfl dX12_errors_264 ?_
      refine z_iconst hc dX12_errors_267 ?_
      refine z_iload 2 hc dX12_errors_268 rfl ?_
      refine z_imul hc dX12_errors_270 ?_
      refine z_iload_n (i := 2) 1 hc dX12_errors_271 rfl rfl ?_
      refine z_iadd hc dX12_errors_272 ?_
      refine z_iald (kI := 198) (nI9 := 25) hc tT_198 (by decide) rfl rfl (by decide) dX12_errors_273 h (fun g22 h => ?_)
      have h := Option.some.inj h
      subst h
      exact z_retI hc he dX12_errors_274
  · refine z_iconst hc dX12_errors_43 ?_
    have h := Option.some.inj h
    subst h
    exact z_retI hc he dX12_errors_44
def J_X12_errors (x1 : Int) (st : z_St) : Option (Int × z_St) :=
  z_b (J_X12_apart x1 187 st) fun r1 =>
  z_g (z32 r1.1) (if r1.1 = 0 then
    z_b (J_X12_holds 1 r1.2) fun r3 =>
    some ((-1), r3.2)
  else
    z_b (J_X12_laysRows r1.2) fun r5 =>
    z_g (z32 r5.1) (if r5.1 < 0 then
      J_X12_errors_37 r1.1 r5.1 2 r5.2
    else
      J_X12_errors_37 r1.1 r5.1 0 r5.2))
set_option maxRecDepth 100000 in
set_option maxHeartbeats 4000000 in
theorem w_X12_errors {κ : zK} {a : Nat → Nat} {x1 : Int} {st : z_St} {o : Int × z_St} (hc : z_C κ RX12 cX12_errors 8 13 0 0) (hap : z_AP κ a z_N) (he : z_E 0 κ (some .int) z_T z_N a o.1 o.2) (h : J_X12_errors x1 st = some o) : z_V κ z_T z_N a 0 0 0 [(0, .ref (a 168)), (1, .int (zI x1))] [] st := by
  unfold J_X12_errors at h
  refine z_aload_n (i := 0) 0 hc dX12_errors_0 rfl rfl ?_
  refine z_iload_n (i := 1) 1 hc dX12_errors_1 rfl rfl ?_
  refine z_aload_n (i := 0) 0 hc dX12_errors_2 rfl rfl ?_
  refine z_getA (k' := 187) hc fl_RX12_72 tT_168 (by decide) rfl rfl dX12_errors_3 ?_
  obtain ⟨r1, hr1, h⟩ := z_b_some h
  refine z_callVI [.int (zI x1), .ref (a 187)] hc hap o_X12_apart ml_RX12_231 (fun l hl => c_X12_apart hl (z_isArr_lit (by decide) tT_187) hr1) (by decide) tT_168 (by decide) ⟨_, rfl, rfl⟩ rfl rfl (Nat.le_of_ble_eq_true rfl) (Nat.zero_le _) (Nat.zero_le _) dX12_errors_6 ?_
  refine z_istore_n (i := 2) [(2, .int (zI r1.1)), (0, .ref (a 168)), (1, .int (zI x1))] hc dX12_errors_9 rfl (by decide) rfl ?_
  refine z_iload_n (i := 2) 0 hc dX12_errors_10 rfl rfl ?_
  refine z_if_ne (tgt := 22) hc dX12_errors_11 (by decide) h (fun c11 h => ?_) (fun c11 h => ?_)
  · refine z_aload_n (i := 0) 1 hc dX12_errors_14 rfl rfl ?_
    refine z_iconst hc dX12_errors_15 ?_
    obtain ⟨r3, hr3, h⟩ := z_b_some h
    refine z_callVI [.int (zI 1)] hc hap o_X12_holds ml_RX12_131 (fun l hl => c_X12_holds hl  hr3) (by decide) tT_168 (by decide) ⟨_, rfl, rfl⟩ rfl rfl (Nat.le_of_ble_eq_true rfl) (Nat.zero_le _) (Nat.zero_le _) dX12_errors_16 ?_
    refine z_pop hc dX12_errors_19 rfl ?_
    refine z_iconst hc dX12_errors_20 ?_
    have h := Option.some.inj h
    subst h
    exact z_retI hc he dX12_errors_21
  · refine z_aload_n (i := 0) 1 hc dX12_errors_22 rfl rfl ?_
    obtain ⟨r5, hr5, h⟩ := z_b_some h
    refine z_callVI [] hc hap o_X12_laysRows ml_RX12_159 (fun l hl => c_X12_laysRows hl  hr5) (by decide) tT_168 (by decide) ⟨_, rfl, rfl⟩ rfl rfl (Nat.le_of_ble_eq_true rfl) (Nat.zero_le _) (Nat.zero_le _) dX12_errors_23 ?_
    refine z_istore_n (i := 3) [(3, .int (zI r5.1)), (2, .int (zI r1.1)), (0, .ref (a 168)), (1, .int (zI x1))] hc dX12_errors_26 rfl (by decide) rfl ?_
    refine z_aload_n (i := 0) 2 hc dX12_errors_27 rfl rfl ?_
    refine z_iload_n (i := 3) 0 hc dX12_errors_28 rfl rfl ?_
    refine z_if_ge (tgt := 36) hc dX12_errors_29 (by decide) h (fun c29 h => ?_) (fun c29 h => ?_)
    · refine z_iconst hc dX12_errors_32 ?_
      refine z_goto (tgt := 37) hc dX12_errors_33 (by decide) ?_
      refine z_sub [(0, .ref (a 168)), (2, .int (zI r1.1)), (3, .int (zI r5.1))] [2, 1, 0] rfl ?_
      exact w_X12_errors_37 hc hap he h
    · refine z_iconst hc dX12_errors_36 ?_
      refine z_sub [(0, .ref (a 168)), (2, .int (zI r1.1)), (3, .int (zI r5.1))] [2, 1, 0] rfl ?_
      exact w_X12_errors_37 hc hap he h
set_option maxRecDepth 100000 in
set_option maxHeartbeats 4000000 in
theorem c_X12_errors {l : Launch} (hl : l.stackTraces = false) {a : Nat → Nat} {x1 : Int} {st : z_St} {o : Int × z_St} (h : J_X12_errors x1 st = some o) : z_M 0 l yX12_errors cX12_errors 8 (some .int) 13 z_T z_N a [.ref (a 168), .int (zI x1)] st o.1 o.2 := z_of hl (by decide +kernel) (Nat.le_of_ble_eq_true rfl) (fun κ hc hap he => w_X12_errors hc hap he h)
theorem dX12_sum_0 : decode cX12_sum 0 = .ok (.aload_n 0, 1) := by decide +kernel
theorem dX12_sum_1 : decode cX12_sum 1 = .ok (.aload_n 0, 1) := by decide +kernel
theorem dX12_sum_2 : decode cX12_sum 2 = .ok (.iload_n 1, 1) := by decide +kernel
theorem dX12_sum_3 : decode cX12_sum 3 = .ok (.i2l, 1) := by decide +kernel
theorem dX12_sum_4 : decode cX12_sum 4 = .ok (.lconst 0, 1) := by decide +kernel
theorem dX12_sum_5 : decode cX12_sum 5 = .ok (.ldc2_w 329, 3) := by decide +kernel
theorem dX12_sum_8 : decode cX12_sum 8 = .ok (.invokevirtual 116, 3) := by decide +kernel
theorem dX12_sum_11 : decode cX12_sum 11 = .ok (.ifCond .eq 7, 3) := by decide +kernel
theorem dX12_sum_14 : decode cX12_sum 14 = .ok (.iconst 0, 1) := by decide +kernel
theorem dX12_sum_15 : decode cX12_sum 15 = .ok (.goto 4, 3) := by decide +kernel
theorem dX12_sum_18 : decode cX12_sum 18 = .ok (.iconst 1, 1) := by decide +kernel
theorem dX12_sum_19 : decode cX12_sum 19 = .ok (.invokevirtual 131, 3) := by decide +kernel
theorem dX12_sum_22 : decode cX12_sum 22 = .ok (.ifCond .eq 5, 3) := by decide +kernel
theorem dX12_sum_25 : decode cX12_sum 25 = .ok (.iconst (-1), 1) := by decide +kernel
theorem dX12_sum_26 : decode cX12_sum 26 = .ok (.ireturn, 1) := by decide +kernel
theorem dX12_sum_27 : decode cX12_sum 27 = .ok (.iconst 0, 1) := by decide +kernel
theorem dX12_sum_28 : decode cX12_sum 28 = .ok (.istore_n 2, 1) := by decide +kernel
theorem dX12_sum_29 : decode cX12_sum 29 = .ok (.iload_n 1, 1) := by decide +kernel
theorem dX12_sum_30 : decode cX12_sum 30 = .ok (.bipush 8, 2) := by decide +kernel
theorem dX12_sum_32 : decode cX12_sum 32 = .ok (.if_icmp .ne 47, 3) := by decide +kernel
theorem dX12_sum_35 : decode cX12_sum 35 = .ok (.aload_n 0, 1) := by decide +kernel
theorem dX12_sum_36 : decode cX12_sum 36 = .ok (.invokevirtual 159, 3) := by decide +kernel
theorem dX12_sum_39 : decode cX12_sum 39 = .ok (.pop, 1) := by decide +kernel
theorem dX12_sum_40 : decode cX12_sum 40 = .ok (.iconst 0, 1) := by decide +kernel
theorem dX12_sum_41 : decode cX12_sum 41 = .ok (.istore_n 3, 1) := by decide +kernel
theorem dX12_sum_42 : decode cX12_sum 42 = .ok (.iload_n 3, 1) := by decide +kernel
theorem dX12_sum_43 : decode cX12_sum 43 = .ok (.aload_n 0, 1) := by decide +kernel
theorem dX12_sum_44 : decode cX12_sum 44 = .ok (.getfield 256, 3) := by decide +kernel
theorem dX12_sum_47 : decode cX12_sum 47 = .ok (.if_icmp .ge 30, 3) := by decide +kernel
theorem dX12_sum_50 : decode cX12_sum 50 = .ok (.iload_n 2, 1) := by decide +kernel
theorem dX12_sum_51 : decode cX12_sum 51 = .ok (.aload_n 0, 1) := by decide +kernel
theorem dX12_sum_52 : decode cX12_sum 52 = .ok (.getfield 78, 3) := by decide +kernel
theorem dX12_sum_55 : decode cX12_sum 55 = .ok (.iload_n 3, 1) := by decide +kernel
theorem dX12_sum_56 : decode cX12_sum 56 = .ok (.laload, 1) := by decide +kernel
theorem dX12_sum_57 : decode cX12_sum 57 = .ok (.ldc2_w 205, 3) := by decide +kernel
theorem dX12_sum_60 : decode cX12_sum 60 = .ok (.lcmp, 1) := by decide +kernel
theorem dX12_sum_61 : decode cX12_sum 61 = .ok (.ifCond .ge 7, 3) := by decide +kernel
theorem dX12_sum_64 : decode cX12_sum 64 = .ok (.iconst 1, 1) := by decide +kernel
theorem dX12_sum_65 : decode cX12_sum 65 = .ok (.goto 4, 3) := by decide +kernel
theorem dX12_sum_68 : decode cX12_sum 68 = .ok (.iconst 0, 1) := by decide +kernel
theorem dX12_sum_69 : decode cX12_sum 69 = .ok (.iadd, 1) := by decide +kernel
theorem dX12_sum_70 : decode cX12_sum 70 = .ok (.istore_n 2, 1) := by decide +kernel
theorem dX12_sum_71 : decode cX12_sum 71 = .ok (.iinc 3 1, 3) := by decide +kernel
theorem dX12_sum_74 : decode cX12_sum 74 = .ok (.goto (-32), 3) := by decide +kernel
theorem dX12_sum_77 : decode cX12_sum 77 = .ok (.iload_n 2, 1) := by decide +kernel
theorem dX12_sum_78 : decode cX12_sum 78 = .ok (.ireturn, 1) := by decide +kernel
theorem dX12_sum_79 : decode cX12_sum 79 = .ok (.iload_n 1, 1) := by decide +kernel
theorem dX12_sum_80 : decode cX12_sum 80 = .ok (.ifCond .ne 10, 3) := by decide +kernel
theorem dX12_sum_83 : decode cX12_sum 83 = .ok (.aload_n 0, 1) := by decide +kernel
theorem dX12_sum_84 : decode cX12_sum 84 = .ok (.getfield 128, 3) := by decide +kernel
theorem dX12_sum_87 : decode cX12_sum 87 = .ok (.goto 80, 3) := by decide +kernel
theorem dX12_sum_90 : decode cX12_sum 90 = .ok (.iload_n 1, 1) := by decide +kernel
theorem dX12_sum_91 : decode cX12_sum 91 = .ok (.iconst 1, 1) := by decide +kernel
theorem dX12_sum_92 : decode cX12_sum 92 = .ok (.if_icmp .ne 10, 3) := by decide +kernel
theorem dX12_sum_95 : decode cX12_sum 95 = .ok (.aload_n 0, 1) := by decide +kernel
theorem dX12_sum_96 : decode cX12_sum 96 = .ok (.getfield 164, 3) := by decide +kernel
theorem dX12_sum_99 : decode cX12_sum 99 = .ok (.goto 68, 3) := by decide +kernel
theorem dX12_sum_102 : decode cX12_sum 102 = .ok (.iload_n 1, 1) := by decide +kernel
theorem dX12_sum_103 : decode cX12_sum 103 = .ok (.iconst 2, 1) := by decide +kernel
theorem dX12_sum_104 : decode cX12_sum 104 = .ok (.if_icmp .ne 10, 3) := by decide +kernel
theorem dX12_sum_107 : decode cX12_sum 107 = .ok (.aload_n 0, 1) := by decide +kernel
theorem dX12_sum_108 : decode cX12_sum 108 = .ok (.getfield 189, 3) := by decide +kernel
theorem dX12_sum_111 : decode cX12_sum 111 = .ok (.goto 56, 3) := by decide +kernel
theorem dX12_sum_114 : decode cX12_sum 114 = .ok (.iload_n 1, 1) := by decide +kernel
theorem dX12_sum_115 : decode cX12_sum 115 = .ok (.iconst 3, 1) := by decide +kernel
theorem dX12_sum_116 : decode cX12_sum 116 = .ok (.if_icmp .ne 10, 3) := by decide +kernel
theorem dX12_sum_119 : decode cX12_sum 119 = .ok (.aload_n 0, 1) := by decide +kernel
theorem dX12_sum_120 : decode cX12_sum 120 = .ok (.getfield 228, 3) := by decide +kernel
theorem dX12_sum_123 : decode cX12_sum 123 = .ok (.goto 44, 3) := by decide +kernel
theorem dX12_sum_126 : decode cX12_sum 126 = .ok (.iload_n 1, 1) := by decide +kernel
theorem dX12_sum_127 : decode cX12_sum 127 = .ok (.iconst 4, 1) := by decide +kernel
theorem dX12_sum_128 : decode cX12_sum 128 = .ok (.if_icmp .ne 10, 3) := by decide +kernel
theorem dX12_sum_131 : decode cX12_sum 131 = .ok (.aload_n 0, 1) := by decide +kernel
theorem dX12_sum_132 : decode cX12_sum 132 = .ok (.getfield 180, 3) := by decide +kernel
theorem dX12_sum_135 : decode cX12_sum 135 = .ok (.goto 32, 3) := by decide +kernel
theorem dX12_sum_138 : decode cX12_sum 138 = .ok (.iload_n 1, 1) := by decide +kernel
theorem dX12_sum_139 : decode cX12_sum 139 = .ok (.iconst 5, 1) := by decide +kernel
theorem dX12_sum_140 : decode cX12_sum 140 = .ok (.if_icmp .ne 10, 3) := by decide +kernel
theorem dX12_sum_143 : decode cX12_sum 143 = .ok (.aload_n 0, 1) := by decide +kernel
theorem dX12_sum_144 : decode cX12_sum 144 = .ok (.getfield 136, 3) := by decide +kernel
theorem dX12_sum_147 : decode cX12_sum 147 = .ok (.goto 20, 3) := by decide +kernel
theorem dX12_sum_150 : decode cX12_sum 150 = .ok (.iload_n 1, 1) := by decide +kernel
theorem dX12_sum_151 : decode cX12_sum 151 = .ok (.bipush 6, 2) := by decide +kernel
theorem dX12_sum_153 : decode cX12_sum 153 = .ok (.if_icmp .ne 10, 3) := by decide +kernel
theorem dX12_sum_156 : decode cX12_sum 156 = .ok (.aload_n 0, 1) := by decide +kernel
theorem dX12_sum_157 : decode cX12_sum 157 = .ok (.getfield 52, 3) := by decide +kernel
theorem dX12_sum_160 : decode cX12_sum 160 = .ok (.goto 7, 3) := by decide +kernel
theorem dX12_sum_163 : decode cX12_sum 163 = .ok (.aload_n 0, 1) := by decide +kernel
theorem dX12_sum_164 : decode cX12_sum 164 = .ok (.getfield 56, 3) := by decide +kernel
theorem dX12_sum_167 : decode cX12_sum 167 = .ok (.ireturn, 1) := by decide +kernel
def J_X12_sum_69 (v3 s0 s1 : Int) (st : z_St) : Option ((Int × Int) ⊕ Int) :=
  some (.inl (s1 + s0, v3 + 1))
set_option maxRecDepth 100000 in
set_option maxHeartbeats 4000000 in
theorem w_X12_sum_69 {κ : zK} {a : Nat → Nat} {v3 s0 s1 : Int} {st : z_St} {mc9 ms9 : Nat} {o : (Int × Int) ⊕ Int} (hc : z_C κ RX12 cX12_sum 4 13 mc9 ms9) (hap : z_AP κ a z_N) (k1 : ∀ s9 : (Int × Int), o = .inl s9 → z_V κ z_T z_N a 0 0 42 [(0, .ref (a 168)), (2, .int (zI s9.1)), (3, .int (zI s9.2))] [] st) (k2 : ∀ x9 : Int, o = .inr x9 → z_V κ z_T z_N a 0 0 77 [(2, .int (zI x9))] [] st) (h : J_X12_sum_69 v3 s0 s1 st = some o) : z_V κ z_T z_N a 0 0 69 [(0, .ref (a 168)), (3, .int (zI v3))] [.int (zI s0), .int (zI s1)] st := by
  unfold J_X12_sum_69 at h
  refine z_iadd hc dX12_sum_69 ?_
  refine z_istore_n (i := 2) [(2, .int (zI (s1 + s0))), (0, .ref (a 168)), (3, .int (zI v3))] hc dX12_sum_70 rfl (by decide) rfl ?_
  refine z_iinc [(3, .int (zI (v3 + 1))), (2, .int (zI (s1 + s0))), (0, .ref (a 168))] 2 hc dX12_sum_71 rfl (by decide) rfl ?_
  refine z_goto (tgt := 42) hc dX12_sum_74 (by decide) ?_
  refine z_sub [(0, .ref (a 168)), (2, .int (zI (s1 + s0))), (3, .int (zI (v3 + 1)))] [2, 1, 0] rfl ?_
  exact k1 _ (Option.some.inj h).symm
def J_X12_sum_b42 (v2 v3 : Int) (st : z_St) : Option ((Int × Int) ⊕ Int) :=
  z_g (z32 v3 ∧ z32 (st 168 31)) (if v3 < st 168 31 then
    z_g (0 ≤ v3 ∧ v3 < 780) <|
    z_g (z64 (st 189 v3) ∧ z64 1000000000000000000) (if st 189 v3 < 1000000000000000000 then
      J_X12_sum_69 v3 1 v2 st
    else
      J_X12_sum_69 v3 0 v2 st)
  else
    some (.inr v2))
set_option maxRecDepth 100000 in
set_option maxHeartbeats 4000000 in
theorem w_X12_sum_b42 {κ : zK} {a : Nat → Nat} {v2 v3 : Int} {st : z_St} {mc9 ms9 : Nat} {o : (Int × Int) ⊕ Int} (hc : z_C κ RX12 cX12_sum 4 13 mc9 ms9) (hap : z_AP κ a z_N) (k1 : ∀ s9 : (Int × Int), o = .inl s9 → z_V κ z_T z_N a 0 0 42 [(0, .ref (a 168)), (2, .int (zI s9.1)), (3, .int (zI s9.2))] [] st) (k2 : ∀ x9 : Int, o = .inr x9 → z_V κ z_T z_N a 0 0 77 [(2, .int (zI x9))] [] st) (h : J_X12_sum_b42 v2 v3 st = some o) : z_V κ z_T z_N a 0 0 42 [(0, .ref (a 168)), (2, .int (zI v2)), (3, .int (zI v3))] [] st := by
  unfold J_X12_sum_b42 at h
  refine z_iload_n (i := 3) 2 hc dX12_sum_42 rfl rfl ?_
  refine z_aload_n (i := 0) 0 hc dX12_sum_43 rfl rfl ?_
  refine z_getI (kI := 168) (jI := 31) hc fl_RX12_256 tT_168 (by decide) rfl rfl rfl dX12_sum_44 ?_
  refine z_icmp_ge (tgt := 77) hc dX12_sum_47 (by decide) h (fun c47 h => ?_) (fun c47 h => ?_)
  · refine z_iload_n (i := 2) 1 hc dX12_sum_50 rfl rfl ?_
    refine z_aload_n (i := 0) 0 hc dX12_sum_51 rfl rfl ?_
    refine z_getA (k' := 189) hc fl_RX12_78 tT_168 (by decide) rfl rfl dX12_sum_52 ?_
    refine z_iload_n (i := 3) 2 hc dX12_sum_55 rfl rfl ?_
    refine z_lald (kI := 189) (nI9 := 780) hc tT_189 (by decide) rfl rfl (by decide) dX12_sum_56 h (fun g7 h => ?_)
    refine z_ldc2 1000000000000000000 hc kc_RX12_205 dX12_sum_57 rfl ?_
    refine z_lcmp_ge (tgt := 68) hc dX12_sum_60 dX12_sum_61 (by decide) h (fun c60 h => ?_) (fun c60 h => ?_)
    · refine z_iconst hc dX12_sum_64 ?_
      refine z_goto (tgt := 69) hc dX12_sum_65 (by decide) ?_
      refine z_sub [(0, .ref (a 168)), (3, .int (zI v3))] [0, 2] rfl ?_
      exact w_X12_sum_69 hc hap k1 k2 h
    · refine z_iconst hc dX12_sum_68 ?_
      refine z_sub [(0, .ref (a 168)), (3, .int (zI v3))] [0, 2] rfl ?_
      exact w_X12_sum_69 hc hap k1 k2 h
  · refine z_sub [(2, .int (zI v2))] [1] rfl ?_
    exact k2 v2 (Option.some.inj h).symm
def J_X12_sum_167 (s0 : Int) (st : z_St) : Option (Int × z_St) :=
  some (s0, st)
set_option maxRecDepth 100000 in
set_option maxHeartbeats 4000000 in
theorem w_X12_sum_167 {κ : zK} {a : Nat → Nat} {s0 : Int} {st : z_St} {o : Int × z_St} (hc : z_C κ RX12 cX12_sum 4 13 0 0) (hap : z_AP κ a z_N) (he : z_E 0 κ (some .int) z_T z_N a o.1 o.2) (h : J_X12_sum_167 s0 st = some o) : z_V κ z_T z_N a 0 0 167 [] [.int (zI s0)] st := by
  unfold J_X12_sum_167 at h
  have h := Option.some.inj h
  subst h
  exact z_retI hc he dX12_sum_167
def J_X12_sum_19 (v1 s0 : Int) (st : z_St) : Option (Int × z_St) :=
  z_b (J_X12_holds s0 st) fun r3 =>
  z_g (z32 r3.1) (if r3.1 = 0 then
    z_g (z32 v1 ∧ z32 8) (if v1 = 8 then
      z_b (J_X12_laysRows r3.2) fun r5 =>
      z_b (z_iter z_F (fun q9 : (Int × Int) => J_X12_sum_b42 q9.1 q9.2 r5.2) (0, 0)) fun lx8 =>
        some (lx8, r5.2)
    else
      z_g (z32 v1) (if v1 = 0 then
        J_X12_sum_167 (r3.2 168 2) r3.2
      else
        z_g (z32 v1 ∧ z32 1) (if v1 = 1 then
          J_X12_sum_167 (r3.2 168 11) r3.2
        else
          z_g (z32 v1 ∧ z32 2) (if v1 = 2 then
            J_X12_sum_167 (r3.2 168 18) r3.2
          else
            z_g (z32 v1 ∧ z32 3) (if v1 = 3 then
              J_X12_sum_167 (r3.2 168 20) r3.2
            else
              z_g (z32 v1 ∧ z32 4) (if v1 = 4 then
                J_X12_sum_167 (r3.2 168 13) r3.2
              else
                z_g (z32 v1 ∧ z32 5) (if v1 = 5 then
                  J_X12_sum_167 (r3.2 168 4) r3.2
                else
                  z_g (z32 v1 ∧ z32 6) (if v1 = 6 then
                    J_X12_sum_167 (r3.2 168 21) r3.2
                  else
                    J_X12_sum_167 (r3.2 168 22) r3.2))))))))
  else
    some ((-1), r3.2))
set_option maxRecDepth 100000 in
set_option maxHeartbeats 4000000 in
theorem w_X12_sum_19 {κ : zK} {a : Nat → Nat} {v1 s0 : Int} {st : z_St} {o : Int × z_St} (hc : z_C κ RX12 cX12_sum 4 13 0 0) (hap : z_AP κ a z_N) (he : z_E 0 κ (some .int) z_T z_N a o.1 o.2) (h : J_X12_sum_19 v1 s0 st = some o) : z_V κ z_T z_N a 0 0 19 [(0, .ref (a 168)), (1, .int (zI v1))] [.int (zI s0), .ref (a 168)] st := by
  unfold J_X12_sum_19 at h
  obtain ⟨r3, hr3, h⟩ := z_b_some h
  refine z_callVI [.int (zI s0)] hc hap o_X12_holds ml_RX12_131 (fun l hl => c_X12_holds hl  hr3) (by decide) tT_168 (by decide) ⟨_, rfl, rfl⟩ rfl rfl (Nat.le_of_ble_eq_true rfl) (Nat.zero_le _) (Nat.zero_le _) dX12_sum_19 ?_
  refine z_if_eq (tgt := 27) hc dX12_sum_22 (by decide) h (fun c22 h => ?_) (fun c22 h => ?_)
  · refine z_iconst hc dX12_sum_27 ?_
    refine z_istore_n (i := 2) [(2, .int (zI 0)), (0, .ref (a 168)), (1, .int (zI v1))] hc dX12_sum_28 rfl (by decide) rfl ?_
    refine z_iload_n (i := 1) 2 hc dX12_sum_29 rfl rfl ?_
    refine z_bipush hc dX12_sum_30 rfl ?_
    refine z_icmp_ne (tgt := 79) hc dX12_sum_32 (by decide) h (fun c32 h => ?_) (fun c32 h => ?_)
    · refine z_aload_n (i := 0) 1 hc dX12_sum_35 rfl rfl ?_
      obtain ⟨r5, hr5, h⟩ := z_b_some h
      refine z_callVI [] hc hap o_X12_laysRows ml_RX12_159 (fun l hl => c_X12_laysRows hl  hr5) (by decide) tT_168 (by decide) ⟨_, rfl, rfl⟩ rfl rfl (Nat.le_of_ble_eq_true rfl) (Nat.zero_le _) (Nat.zero_le _) dX12_sum_36 ?_
      refine z_pop hc dX12_sum_39 rfl ?_
      refine z_iconst hc dX12_sum_40 ?_
      refine z_istore_n (i := 3) [(3, .int (zI 0)), (2, .int (zI 0)), (0, .ref (a 168)), (1, .int (zI v1))] hc dX12_sum_41 rfl (by decide) rfl ?_
      obtain ⟨lx8, hlx8, h⟩ := z_b_some h
      refine z_sub [(0, .ref (a 168)), (2, .int (zI 0)), (3, .int (zI 0))] [2, 1, 0] rfl ?_
      refine z_loop (fun q9 : (Int × Int) => J_X12_sum_b42 q9.1 q9.2 r5.2) (fun q9 : (Int × Int) => z_V κ z_T z_N a 0 0 42 [(0, .ref (a 168)), (2, .int (zI q9.1)), (3, .int (zI q9.2))] [] r5.2) (fun x9 : Int => z_V κ z_T z_N a 0 0 77 [(2, .int (zI x9))] [] r5.2) (fun q9 o9 hb k1 k2 => ?_) _ _ _ hlx8 ?_
      · exact w_X12_sum_b42 hc hap k1 k2 hb
      · show z_V κ z_T z_N a 0 0 77 [(2, .int (zI lx8))] [] r5.2
        refine z_iload_n (i := 2) 0 hc dX12_sum_77 rfl rfl ?_
        have h := Option.some.inj h
        subst h
        exact z_retI hc he dX12_sum_78
    · refine z_iload_n (i := 1) 2 hc dX12_sum_79 rfl rfl ?_
      refine z_if_ne (tgt := 90) hc dX12_sum_80 (by decide) h (fun c80 h => ?_) (fun c80 h => ?_)
      · refine z_aload_n (i := 0) 1 hc dX12_sum_83 rfl rfl ?_
        refine z_getI (kI := 168) (jI := 2) hc fl_RX12_128 tT_168 (by decide) rfl rfl rfl dX12_sum_84 ?_
        refine z_goto (tgt := 167) hc dX12_sum_87 (by decide) ?_
        refine z_sub [] [] rfl ?_
        exact w_X12_sum_167 hc hap he h
      · refine z_iload_n (i := 1) 2 hc dX12_sum_90 rfl rfl ?_
        refine z_iconst hc dX12_sum_91 ?_
        refine z_icmp_ne (tgt := 102) hc dX12_sum_92 (by decide) h (fun c92 h => ?_) (fun c92 h => ?_)
        · refine z_aload_n (i := 0) 1 hc dX12_sum_95 rfl rfl ?_
          refine z_getI (kI := 168) (jI := 11) hc fl_RX12_164 tT_168 (by decide) rfl rfl rfl dX12_sum_96 ?_
          refine z_goto (tgt := 167) hc dX12_sum_99 (by decide) ?_
          refine z_sub [] [] rfl ?_
          exact w_X12_sum_167 hc hap he h
        · refine z_iload_n (i := 1) 2 hc dX12_sum_102 rfl rfl ?_
          refine z_iconst hc dX12_sum_103 ?_
          refine z_icmp_ne (tgt := 114) hc dX12_sum_104 (by decide) h (fun c104 h => ?_) (fun c104 h => ?_)
          · refine z_aload_n (i := 0) 1 hc dX12_sum_107 rfl rfl ?_
            refine z_getI (kI := 168) (jI := 18) hc fl_RX12_189 tT_168 (by decide) rfl rfl rfl dX12_sum_108 ?_
            refine z_goto (tgt := 167) hc dX12_sum_111 (by decide) ?_
            refine z_sub [] [] rfl ?_
            exact w_X12_sum_167 hc hap he h
          · refine z_iload_n (i := 1) 2 hc dX12_sum_114 rfl rfl ?_
            refine z_iconst hc dX12_sum_115 ?_
            refine z_icmp_ne (tgt := 126) hc dX12_sum_116 (by decide) h (fun c116 h => ?_) (fun c116 h => ?_)
            · refine z_aload_n (i := 0) 1 hc dX12_sum_119 rfl rfl ?_
              refine z_getI (kI := 168) (jI := 20) hc fl_RX12_228 tT_168 (by decide) rfl rfl rfl dX12_sum_120 ?_
              refine z_goto (tgt := 167) hc dX12_sum_123 (by decide) ?_
              refine z_sub [] [] rfl ?_
              exact w_X12_sum_167 hc hap he h
            · refine z_iload_n (i := 1) 2 hc dX12_sum_126 rfl rfl ?_
              refine z_iconst hc dX12_sum_127 ?_
              refine z_icmp_ne (tgt := 138) hc dX12_sum_128 (by decide) h (fun c128 h => ?_) (fun c128 h => ?_)
              · refine z_aload_n (i := 0) 1 hc dX12_sum_131 rfl rfl ?_
                refine z_getI (kI := 168) (jI := 13) hc fl_RX12_180 tT_168 (by decide) rfl rfl rfl dX12_sum_132 ?_
                refine z_goto (tgt := 167) hc dX12_sum_135 (by decide) ?_
                refine z_sub [] [] rfl ?_
                exact w_X12_sum_167 hc hap he h
              · refine z_iload_n (i := 1) 2 hc dX12_sum_138 rfl rfl ?_
                refine z_iconst hc dX12_sum_139 ?_
                refine z_icmp_ne (tgt := 150) hc dX12_sum_140 (by decide) h (fun c140 h => ?_) (fun c140 h => ?_)
                · refine z_aload_n (i := 0) 1 hc dX12_sum_143 rfl rfl ?_
                  refine z_getI (kI := 168) (jI := 4) hc fl_RX12_136 tT_168 (by decide) rfl rfl rfl dX12_sum_144 ?_
                  refine z_goto (tgt := 167) hc dX12_sum_147 (by decide) ?_
                  refine z_sub [] [] rfl ?_
                  exact w_X12_sum_167 hc hap he h
                · refine z_iload_n (i := 1) 2 hc dX12_sum_150 rfl rfl ?_
                  refine z_bipush hc dX12_sum_151 rfl ?_
                  refine z_icmp_ne (tgt := 163) hc dX12_sum_153 (by decide) h (fun c153 h => ?_) (fun c153 h => ?_)
                  · refine z_aload_n (i := 0) 1 hc dX12_sum_156 rfl rfl ?_
                    refine z_getI (kI := 168) (jI := 21) hc fl_RX12_52 tT_168 (by decide) rfl rfl rfl dX12_sum_157 ?_
                    refine z_goto (tgt := 167) hc dX12_sum_160 (by decide) ?_
                    refine z_sub [] [] rfl ?_
                    exact w_X12_sum_167 hc hap he h
                  · refine z_aload_n (i := 0) 1 hc dX12_sum_163 rfl rfl ?_
                    refine z_getI (kI := 168) (jI := 22) hc fl_RX12_56 tT_168 (by decide) rfl rfl rfl dX12_sum_164 ?_
                    refine z_sub [] [] rfl ?_
                    exact w_X12_sum_167 hc hap he h
  · refine z_iconst hc dX12_sum_25 ?_
    have h := Option.some.inj h
    subst h
    exact z_retI hc he dX12_sum_26
def J_X12_sum (x1 : Int) (st : z_St) : Option (Int × z_St) :=
  z_g (z32 x1) <|
  z_b (J_X12_in x1 0 8 st) fun r1 =>
  z_g (z32 r1) (if r1 = 0 then
    J_X12_sum_19 x1 1 st
  else
    J_X12_sum_19 x1 0 st)
set_option maxRecDepth 100000 in
set_option maxHeartbeats 4000000 in
theorem w_X12_sum {κ : zK} {a : Nat → Nat} {x1 : Int} {st : z_St} {o : Int × z_St} (hc : z_C κ RX12 cX12_sum 4 13 0 0) (hap : z_AP κ a z_N) (he : z_E 0 κ (some .int) z_T z_N a o.1 o.2) (h : J_X12_sum x1 st = some o) : z_V κ z_T z_N a 0 0 0 [(0, .ref (a 168)), (1, .int (zI x1))] [] st := by
  unfold J_X12_sum at h
  refine z_aload_n (i := 0) 0 hc dX12_sum_0 rfl rfl ?_
  refine z_aload_n (i := 0) 0 hc dX12_sum_1 rfl rfl ?_
  refine z_iload_n (i := 1) 1 hc dX12_sum_2 rfl rfl ?_
  refine z_i2l hc dX12_sum_3 h (fun h => ?_)
  refine z_lconst 0 hc dX12_sum_4 rfl ?_
  refine z_ldc2 8 hc kc_RX12_329 dX12_sum_5 rfl ?_
  obtain ⟨r1, hr1, h⟩ := z_b_some h
  refine z_callVI [.long (zJ x1), .long (zJ 0), .long (zJ 8)] hc hap o_X12_in ml_RX12_116 (fun l hl => c_X12_in hl  hr1) (by decide) tT_168 (by decide) ⟨_, rfl, rfl⟩ rfl rfl (Nat.le_of_ble_eq_true rfl) (Nat.zero_le _) (Nat.zero_le _) dX12_sum_8 ?_
  refine z_if_eq (tgt := 18) hc dX12_sum_11 (by decide) h (fun c11 h => ?_) (fun c11 h => ?_)
  · refine z_iconst hc dX12_sum_18 ?_
    refine z_sub [(0, .ref (a 168)), (1, .int (zI x1))] [0, 1] rfl ?_
    exact w_X12_sum_19 hc hap he h
  · refine z_iconst hc dX12_sum_14 ?_
    refine z_goto (tgt := 19) hc dX12_sum_15 (by decide) ?_
    refine z_sub [(0, .ref (a 168)), (1, .int (zI x1))] [0, 1] rfl ?_
    exact w_X12_sum_19 hc hap he h
set_option maxRecDepth 100000 in
set_option maxHeartbeats 4000000 in
theorem c_X12_sum {l : Launch} (hl : l.stackTraces = false) {a : Nat → Nat} {x1 : Int} {st : z_St} {o : Int × z_St} (h : J_X12_sum x1 st = some o) : z_M 0 l yX12_sum cX12_sum 4 (some .int) 13 z_T z_N a [.ref (a 168), .int (zI x1)] st o.1 o.2 := z_of hl (by decide +kernel) (Nat.le_of_ble_eq_true rfl) (fun κ hc hap he => w_X12_sum hc hap he h)
