theorem dL_tell_0 : decode cL_tell 0 = .ok (.bipush 44, 2) := by decide +kernel
theorem dL_tell_2 : decode cL_tell 2 = .ok (.newarray .long, 2) := by decide +kernel
theorem dL_tell_4 : decode cL_tell 4 = .ok (.astore_n 1, 1) := by decide +kernel
theorem dL_tell_5 : decode cL_tell 5 = .ok (.iconst 0, 1) := by decide +kernel
theorem dL_tell_6 : decode cL_tell 6 = .ok (.istore_n 2, 1) := by decide +kernel
theorem dL_tell_7 : decode cL_tell 7 = .ok (.iload_n 2, 1) := by decide +kernel
theorem dL_tell_8 : decode cL_tell 8 = .ok (.bipush 8, 2) := by decide +kernel
theorem dL_tell_10 : decode cL_tell 10 = .ok (.if_icmp .ge 21, 3) := by decide +kernel
theorem dL_tell_13 : decode cL_tell 13 = .ok (.aload_n 1, 1) := by decide +kernel
theorem dL_tell_14 : decode cL_tell 14 = .ok (.iload_n 2, 1) := by decide +kernel
theorem dL_tell_15 : decode cL_tell 15 = .ok (.aload_n 0, 1) := by decide +kernel
theorem dL_tell_16 : decode cL_tell 16 = .ok (.bipush 27, 2) := by decide +kernel
theorem dL_tell_18 : decode cL_tell 18 = .ok (.iload_n 2, 1) := by decide +kernel
theorem dL_tell_19 : decode cL_tell 19 = .ok (.i2l, 1) := by decide +kernel
theorem dL_tell_20 : decode cL_tell 20 = .ok (.iconst 0, 1) := by decide +kernel
theorem dL_tell_21 : decode cL_tell 21 = .ok (.invokestatic 125, 3) := by decide +kernel
theorem dL_tell_24 : decode cL_tell 24 = .ok (.lastore, 1) := by decide +kernel
theorem dL_tell_25 : decode cL_tell 25 = .ok (.iinc 2 1, 3) := by decide +kernel
theorem dL_tell_28 : decode cL_tell 28 = .ok (.goto (-21), 3) := by decide +kernel
theorem dL_tell_31 : decode cL_tell 31 = .ok (.iconst 0, 1) := by decide +kernel
theorem dL_tell_32 : decode cL_tell 32 = .ok (.istore_n 2, 1) := by decide +kernel
theorem dL_tell_33 : decode cL_tell 33 = .ok (.iload_n 2, 1) := by decide +kernel
theorem dL_tell_34 : decode cL_tell 34 = .ok (.bipush 12, 2) := by decide +kernel
theorem dL_tell_36 : decode cL_tell 36 = .ok (.if_icmp .ge 28, 3) := by decide +kernel
theorem dL_tell_39 : decode cL_tell 39 = .ok (.aload_n 1, 1) := by decide +kernel
theorem dL_tell_40 : decode cL_tell 40 = .ok (.bipush 8, 2) := by decide +kernel
theorem dL_tell_42 : decode cL_tell 42 = .ok (.iload_n 2, 1) := by decide +kernel
theorem dL_tell_43 : decode cL_tell 43 = .ok (.iadd, 1) := by decide +kernel
theorem dL_tell_44 : decode cL_tell 44 = .ok (.aload_n 0, 1) := by decide +kernel
theorem dL_tell_45 : decode cL_tell 45 = .ok (.bipush 26, 2) := by decide +kernel
theorem dL_tell_47 : decode cL_tell 47 = .ok (.iload_n 2, 1) := by decide +kernel
theorem dL_tell_48 : decode cL_tell 48 = .ok (.iconst 3, 1) := by decide +kernel
theorem dL_tell_49 : decode cL_tell 49 = .ok (.idiv, 1) := by decide +kernel
theorem dL_tell_50 : decode cL_tell 50 = .ok (.i2l, 1) := by decide +kernel
theorem dL_tell_51 : decode cL_tell 51 = .ok (.iload_n 2, 1) := by decide +kernel
theorem dL_tell_52 : decode cL_tell 52 = .ok (.iconst 3, 1) := by decide +kernel
theorem dL_tell_53 : decode cL_tell 53 = .ok (.irem, 1) := by decide +kernel
theorem dL_tell_54 : decode cL_tell 54 = .ok (.invokestatic 125, 3) := by decide +kernel
theorem dL_tell_57 : decode cL_tell 57 = .ok (.lastore, 1) := by decide +kernel
theorem dL_tell_58 : decode cL_tell 58 = .ok (.iinc 2 1, 3) := by decide +kernel
theorem dL_tell_61 : decode cL_tell 61 = .ok (.goto (-28), 3) := by decide +kernel
theorem dL_tell_64 : decode cL_tell 64 = .ok (.iconst 0, 1) := by decide +kernel
theorem dL_tell_65 : decode cL_tell 65 = .ok (.istore_n 2, 1) := by decide +kernel
theorem dL_tell_66 : decode cL_tell 66 = .ok (.iload_n 2, 1) := by decide +kernel
theorem dL_tell_67 : decode cL_tell 67 = .ok (.bipush 9, 2) := by decide +kernel
theorem dL_tell_69 : decode cL_tell 69 = .ok (.if_icmp .ge 32, 3) := by decide +kernel
theorem dL_tell_72 : decode cL_tell 72 = .ok (.aload_n 1, 1) := by decide +kernel
theorem dL_tell_73 : decode cL_tell 73 = .ok (.bipush 20, 2) := by decide +kernel
theorem dL_tell_75 : decode cL_tell 75 = .ok (.iload_n 2, 1) := by decide +kernel
theorem dL_tell_76 : decode cL_tell 76 = .ok (.iadd, 1) := by decide +kernel
theorem dL_tell_77 : decode cL_tell 77 = .ok (.aload_n 0, 1) := by decide +kernel
theorem dL_tell_78 : decode cL_tell 78 = .ok (.bipush 14, 2) := by decide +kernel
theorem dL_tell_80 : decode cL_tell 80 = .ok (.iload_n 2, 1) := by decide +kernel
theorem dL_tell_81 : decode cL_tell 81 = .ok (.iconst 3, 1) := by decide +kernel
theorem dL_tell_82 : decode cL_tell 82 = .ok (.idiv, 1) := by decide +kernel
theorem dL_tell_83 : decode cL_tell 83 = .ok (.iconst 1, 1) := by decide +kernel
theorem dL_tell_84 : decode cL_tell 84 = .ok (.isub, 1) := by decide +kernel
theorem dL_tell_85 : decode cL_tell 85 = .ok (.i2l, 1) := by decide +kernel
theorem dL_tell_86 : decode cL_tell 86 = .ok (.iload_n 2, 1) := by decide +kernel
theorem dL_tell_87 : decode cL_tell 87 = .ok (.iconst 3, 1) := by decide +kernel
theorem dL_tell_88 : decode cL_tell 88 = .ok (.irem, 1) := by decide +kernel
theorem dL_tell_89 : decode cL_tell 89 = .ok (.iconst 1, 1) := by decide +kernel
theorem dL_tell_90 : decode cL_tell 90 = .ok (.isub, 1) := by decide +kernel
theorem dL_tell_91 : decode cL_tell 91 = .ok (.invokestatic 125, 3) := by decide +kernel
theorem dL_tell_94 : decode cL_tell 94 = .ok (.lastore, 1) := by decide +kernel
theorem dL_tell_95 : decode cL_tell 95 = .ok (.iinc 2 1, 3) := by decide +kernel
theorem dL_tell_98 : decode cL_tell 98 = .ok (.goto (-32), 3) := by decide +kernel
theorem dL_tell_101 : decode cL_tell 101 = .ok (.iconst 0, 1) := by decide +kernel
theorem dL_tell_102 : decode cL_tell 102 = .ok (.istore_n 2, 1) := by decide +kernel
theorem dL_tell_103 : decode cL_tell 103 = .ok (.iload_n 2, 1) := by decide +kernel
theorem dL_tell_104 : decode cL_tell 104 = .ok (.bipush 6, 2) := by decide +kernel
theorem dL_tell_106 : decode cL_tell 106 = .ok (.if_icmp .ge 51, 3) := by decide +kernel
theorem dL_tell_109 : decode cL_tell 109 = .ok (.aload_n 1, 1) := by decide +kernel
theorem dL_tell_110 : decode cL_tell 110 = .ok (.bipush 29, 2) := by decide +kernel
theorem dL_tell_112 : decode cL_tell 112 = .ok (.iload_n 2, 1) := by decide +kernel
theorem dL_tell_113 : decode cL_tell 113 = .ok (.iadd, 1) := by decide +kernel
theorem dL_tell_114 : decode cL_tell 114 = .ok (.aload_n 0, 1) := by decide +kernel
theorem dL_tell_115 : decode cL_tell 115 = .ok (.bipush 9, 2) := by decide +kernel
theorem dL_tell_117 : decode cL_tell 117 = .ok (.iload_n 2, 1) := by decide +kernel
theorem dL_tell_118 : decode cL_tell 118 = .ok (.iconst 2, 1) := by decide +kernel
theorem dL_tell_119 : decode cL_tell 119 = .ok (.idiv, 1) := by decide +kernel
theorem dL_tell_120 : decode cL_tell 120 = .ok (.i2l, 1) := by decide +kernel
theorem dL_tell_121 : decode cL_tell 121 = .ok (.iload_n 2, 1) := by decide +kernel
theorem dL_tell_122 : decode cL_tell 122 = .ok (.iconst 2, 1) := by decide +kernel
theorem dL_tell_123 : decode cL_tell 123 = .ok (.irem, 1) := by decide +kernel
theorem dL_tell_124 : decode cL_tell 124 = .ok (.iconst 0, 1) := by decide +kernel
theorem dL_tell_125 : decode cL_tell 125 = .ok (.iconst 0, 1) := by decide +kernel
theorem dL_tell_126 : decode cL_tell 126 = .ok (.invokestatic 119, 3) := by decide +kernel
theorem dL_tell_129 : decode cL_tell 129 = .ok (.lastore, 1) := by decide +kernel
theorem dL_tell_130 : decode cL_tell 130 = .ok (.aload_n 1, 1) := by decide +kernel
theorem dL_tell_131 : decode cL_tell 131 = .ok (.bipush 35, 2) := by decide +kernel
theorem dL_tell_133 : decode cL_tell 133 = .ok (.iload_n 2, 1) := by decide +kernel
theorem dL_tell_134 : decode cL_tell 134 = .ok (.iadd, 1) := by decide +kernel
theorem dL_tell_135 : decode cL_tell 135 = .ok (.aload_n 0, 1) := by decide +kernel
theorem dL_tell_136 : decode cL_tell 136 = .ok (.bipush 8, 2) := by decide +kernel
theorem dL_tell_138 : decode cL_tell 138 = .ok (.iload_n 2, 1) := by decide +kernel
theorem dL_tell_139 : decode cL_tell 139 = .ok (.iconst 2, 1) := by decide +kernel
theorem dL_tell_140 : decode cL_tell 140 = .ok (.idiv, 1) := by decide +kernel
theorem dL_tell_141 : decode cL_tell 141 = .ok (.i2l, 1) := by decide +kernel
theorem dL_tell_142 : decode cL_tell 142 = .ok (.iconst 0, 1) := by decide +kernel
theorem dL_tell_143 : decode cL_tell 143 = .ok (.iload_n 2, 1) := by decide +kernel
theorem dL_tell_144 : decode cL_tell 144 = .ok (.iconst 2, 1) := by decide +kernel
theorem dL_tell_145 : decode cL_tell 145 = .ok (.irem, 1) := by decide +kernel
theorem dL_tell_146 : decode cL_tell 146 = .ok (.iconst 0, 1) := by decide +kernel
theorem dL_tell_147 : decode cL_tell 147 = .ok (.invokestatic 119, 3) := by decide +kernel
theorem dL_tell_150 : decode cL_tell 150 = .ok (.lastore, 1) := by decide +kernel
theorem dL_tell_151 : decode cL_tell 151 = .ok (.iinc 2 1, 3) := by decide +kernel
theorem dL_tell_154 : decode cL_tell 154 = .ok (.goto (-51), 3) := by decide +kernel
theorem dL_tell_157 : decode cL_tell 157 = .ok (.aload_n 1, 1) := by decide +kernel
theorem dL_tell_158 : decode cL_tell 158 = .ok (.bipush 41, 2) := by decide +kernel
theorem dL_tell_160 : decode cL_tell 160 = .ok (.aload_n 0, 1) := by decide +kernel
theorem dL_tell_161 : decode cL_tell 161 = .ok (.bipush 10, 2) := by decide +kernel
theorem dL_tell_163 : decode cL_tell 163 = .ok (.lconst 0, 1) := by decide +kernel
theorem dL_tell_164 : decode cL_tell 164 = .ok (.iconst 0, 1) := by decide +kernel
theorem dL_tell_165 : decode cL_tell 165 = .ok (.iconst 2, 1) := by decide +kernel
theorem dL_tell_166 : decode cL_tell 166 = .ok (.iconst 0, 1) := by decide +kernel
theorem dL_tell_167 : decode cL_tell 167 = .ok (.invokestatic 119, 3) := by decide +kernel
theorem dL_tell_170 : decode cL_tell 170 = .ok (.lastore, 1) := by decide +kernel
theorem dL_tell_171 : decode cL_tell 171 = .ok (.aload_n 1, 1) := by decide +kernel
theorem dL_tell_172 : decode cL_tell 172 = .ok (.bipush 42, 2) := by decide +kernel
theorem dL_tell_174 : decode cL_tell 174 = .ok (.aload_n 0, 1) := by decide +kernel
theorem dL_tell_175 : decode cL_tell 175 = .ok (.bipush 10, 2) := by decide +kernel
theorem dL_tell_177 : decode cL_tell 177 = .ok (.lconst 1, 1) := by decide +kernel
theorem dL_tell_178 : decode cL_tell 178 = .ok (.iconst 0, 1) := by decide +kernel
theorem dL_tell_179 : decode cL_tell 179 = .ok (.iconst 1, 1) := by decide +kernel
theorem dL_tell_180 : decode cL_tell 180 = .ok (.iconst 0, 1) := by decide +kernel
theorem dL_tell_181 : decode cL_tell 181 = .ok (.invokestatic 119, 3) := by decide +kernel
theorem dL_tell_184 : decode cL_tell 184 = .ok (.lastore, 1) := by decide +kernel
theorem dL_tell_185 : decode cL_tell 185 = .ok (.aload_n 1, 1) := by decide +kernel
theorem dL_tell_186 : decode cL_tell 186 = .ok (.bipush 43, 2) := by decide +kernel
theorem dL_tell_188 : decode cL_tell 188 = .ok (.aload_n 0, 1) := by decide +kernel
theorem dL_tell_189 : decode cL_tell 189 = .ok (.bipush 10, 2) := by decide +kernel
theorem dL_tell_191 : decode cL_tell 191 = .ok (.lconst 1, 1) := by decide +kernel
theorem dL_tell_192 : decode cL_tell 192 = .ok (.iconst 0, 1) := by decide +kernel
theorem dL_tell_193 : decode cL_tell 193 = .ok (.iconst 2, 1) := by decide +kernel
theorem dL_tell_194 : decode cL_tell 194 = .ok (.iconst 0, 1) := by decide +kernel
theorem dL_tell_195 : decode cL_tell 195 = .ok (.invokestatic 119, 3) := by decide +kernel
theorem dL_tell_198 : decode cL_tell 198 = .ok (.lastore, 1) := by decide +kernel
theorem dL_tell_199 : decode cL_tell 199 = .ok (.aload_n 1, 1) := by decide +kernel
theorem dL_tell_200 : decode cL_tell 200 = .ok (.areturn, 1) := by decide +kernel
noncomputable def J_L_tell_b7 (v2 : Int) (st : z_St) : Option ((Int × z_St) ⊕ z_St) :=
  z_g (0 ≤ v2 ∧ v2 ≤ 8) <|
  z_g (z32 v2 ∧ z32 8) (if v2 < 8 then
    z_g (z32 v2) <|
    z_b (J_L_ask 27 v2 0 st) fun r1 =>
    z_let (z_kp st r1.2) fun st2 =>
    z_g (0 ≤ v2 ∧ v2 < 44) <|
    z_let (z_up st2 300 v2 r1.1) fun st3 =>
    some (.inl (v2 + 1, st3))
  else
    some (.inr st))
set_option maxRecDepth 100000 in
set_option maxHeartbeats 4000000 in
theorem w_L_tell_b7 {κ : zK} {a : Nat → Nat} {v2 : Int} {st : z_St} {o : (Int × z_St) ⊕ z_St} (hc : z_C κ RL cL_tell 3 28 57 (6 * 57)) (hap : z_AP κ a 169) (k1 : ∀ s9 : (Int × z_St), o = .inl s9 → z_V κ z_T3 169 a (8 + 1 * (s9.1 : Int).toNat) (6 * (8 + 1 * (s9.1 : Int).toNat)) 7 [(0, .ref (a 0)), (1, .ref (a 168)), (2, .int (zI s9.1))] [] (z_wr s9.2)) (k2 : ∀ x9 : z_St, o = .inr x9 → z_V κ z_T3 169 a 17 (6 * 17) 31 [(0, .ref (a 0)), (1, .ref (a 168))] [] (z_wr x9)) (h : J_L_tell_b7 v2 st = some o) : z_V κ z_T3 169 a (8 + 1 * (v2 : Int).toNat) (6 * (8 + 1 * (v2 : Int).toNat)) 7 [(0, .ref (a 0)), (1, .ref (a 168)), (2, .int (zI v2))] [] (z_wr st) := by
  unfold J_L_tell_b7 at h
  obtain ⟨hv9, h⟩ := z_g_some h
  refine z_iload_n (i := 2) 2 hc dL_tell_7 rfl rfl ?_
  refine z_bipush hc dL_tell_8 rfl ?_
  refine z_icmp_ge (tgt := 31) hc dL_tell_10 (by decide) h (fun c10 h => ?_) (fun c10 h => ?_)
  · refine z_aload_n (i := 1) 1 hc dL_tell_13 rfl rfl ?_
    refine z_iload_n (i := 2) 2 hc dL_tell_14 rfl rfl ?_
    refine z_aload_n (i := 0) 0 hc dL_tell_15 rfl rfl ?_
    refine z_bipush hc dL_tell_16 rfl ?_
    refine z_iload_n (i := 2) 2 hc dL_tell_18 rfl rfl ?_
    refine z_i2l hc dL_tell_19 h (fun h => ?_)
    refine z_iconst hc dL_tell_20 ?_
    obtain ⟨r1, hr1, h⟩ := z_b_some h
    refine z_callUJ ((8 + 1 * (v2 : Int).toNat) + 1) (6 * ((8 + 1 * (v2 : Int).toNat) + 1)) (mu := 1) [.ref (a 0), .int (zI 27), .long (zJ v2), .int (zI 0)] hc hap o_L_ask ml_RL_125 (fun l hl => z_lift3 (by decide) (c_L_ask hl hr1)) (by decide) rfl rfl (Nat.le_of_ble_eq_true rfl) (by omega) (by omega) (by omega) (by omega) dL_tell_21 ?_
    refine z_letV h (fun st2 h => ?_)
    refine z_lastR hc hap dL_tell_24 h (fun st3 h => ?_)
    refine z_iinc [(2, .int (zI (v2 + 1))), (0, .ref (a 0)), (1, .ref (a 168))] 2 hc dL_tell_25 rfl (by decide) rfl ?_
    refine z_goto (tgt := 7) hc dL_tell_28 (by decide) ?_
    refine z_sub [(0, .ref (a 0)), (1, .ref (a 168)), (2, .int (zI (v2 + 1)))] [1, 2, 0] rfl ?_
    refine z_wide (cells' := (8 + 1 * (v2 + 1 : Int).toNat)) (slots' := 6 * (8 + 1 * (v2 + 1 : Int).toNat)) (by omega) (by omega) ?_
    exact k1 _ (Option.some.inj h).symm
  · refine z_sub [(0, .ref (a 0)), (1, .ref (a 168))] [0, 1] rfl ?_
    refine z_wide (cells' := 17) (slots' := 6 * 17) (by omega) (by omega) ?_
    exact k2 st (Option.some.inj h).symm
noncomputable def J_L_tell_b33 (v2 : Int) (st : z_St) : Option ((Int × z_St) ⊕ z_St) :=
  z_g (0 ≤ v2 ∧ v2 ≤ 12) <|
  z_g (z32 v2 ∧ z32 12) (if v2 < 12 then
    z_g (z32 v2 ∧ z32 3 ∧ (3 : Int) ≠ 0) <|
    z_g (z32 (v2.tdiv 3)) <|
    z_g (z32 v2 ∧ z32 3 ∧ (3 : Int) ≠ 0) <|
    z_b (J_L_ask 26 (v2.tdiv 3) (v2.tmod 3) st) fun r5 =>
    z_let (z_kp st r5.2) fun st6 =>
    z_g (0 ≤ 8 + v2 ∧ 8 + v2 < 44) <|
    z_let (z_up st6 300 (8 + v2) r5.1) fun st7 =>
    some (.inl (v2 + 1, st7))
  else
    some (.inr st))
set_option maxRecDepth 100000 in
set_option maxHeartbeats 4000000 in
theorem w_L_tell_b33 {κ : zK} {a : Nat → Nat} {v2 : Int} {st : z_St} {o : (Int × z_St) ⊕ z_St} (hc : z_C κ RL cL_tell 3 28 57 (6 * 57)) (hap : z_AP κ a 169) (k1 : ∀ s9 : (Int × z_St), o = .inl s9 → z_V κ z_T3 169 a (17 + 1 * (s9.1 : Int).toNat) (6 * (17 + 1 * (s9.1 : Int).toNat)) 33 [(0, .ref (a 0)), (1, .ref (a 168)), (2, .int (zI s9.1))] [] (z_wr s9.2)) (k2 : ∀ x9 : z_St, o = .inr x9 → z_V κ z_T3 169 a 30 (6 * 30) 64 [(0, .ref (a 0)), (1, .ref (a 168))] [] (z_wr x9)) (h : J_L_tell_b33 v2 st = some o) : z_V κ z_T3 169 a (17 + 1 * (v2 : Int).toNat) (6 * (17 + 1 * (v2 : Int).toNat)) 33 [(0, .ref (a 0)), (1, .ref (a 168)), (2, .int (zI v2))] [] (z_wr st) := by
  unfold J_L_tell_b33 at h
  obtain ⟨hv9, h⟩ := z_g_some h
  refine z_iload_n (i := 2) 2 hc dL_tell_33 rfl rfl ?_
  refine z_bipush hc dL_tell_34 rfl ?_
  refine z_icmp_ge (tgt := 64) hc dL_tell_36 (by decide) h (fun c36 h => ?_) (fun c36 h => ?_)
  · refine z_aload_n (i := 1) 1 hc dL_tell_39 rfl rfl ?_
    refine z_bipush hc dL_tell_40 rfl ?_
    refine z_iload_n (i := 2) 2 hc dL_tell_42 rfl rfl ?_
    refine z_iadd hc dL_tell_43 ?_
    refine z_aload_n (i := 0) 0 hc dL_tell_44 rfl rfl ?_
    refine z_bipush hc dL_tell_45 rfl ?_
    refine z_iload_n (i := 2) 2 hc dL_tell_47 rfl rfl ?_
    refine z_iconst hc dL_tell_48 ?_
    refine z_idiv hc dL_tell_49 h (fun h => ?_)
    refine z_i2l hc dL_tell_50 h (fun h => ?_)
    refine z_iload_n (i := 2) 2 hc dL_tell_51 rfl rfl ?_
    refine z_iconst hc dL_tell_52 ?_
    refine z_irem hc dL_tell_53 h (fun h => ?_)
    obtain ⟨r5, hr5, h⟩ := z_b_some h
    refine z_callUJ ((17 + 1 * (v2 : Int).toNat) + 1) (6 * ((17 + 1 * (v2 : Int).toNat) + 1)) (mu := 1) [.ref (a 0), .int (zI 26), .long (zJ (v2.tdiv 3)), .int (zI (v2.tmod 3))] hc hap o_L_ask ml_RL_125 (fun l hl => z_lift3 (by decide) (c_L_ask hl hr5)) (by decide) rfl rfl (Nat.le_of_ble_eq_true rfl) (by omega) (by omega) (by omega) (by omega) dL_tell_54 ?_
    refine z_letV h (fun st6 h => ?_)
    refine z_lastR hc hap dL_tell_57 h (fun st7 h => ?_)
    refine z_iinc [(2, .int (zI (v2 + 1))), (0, .ref (a 0)), (1, .ref (a 168))] 2 hc dL_tell_58 rfl (by decide) rfl ?_
    refine z_goto (tgt := 33) hc dL_tell_61 (by decide) ?_
    refine z_sub [(0, .ref (a 0)), (1, .ref (a 168)), (2, .int (zI (v2 + 1)))] [1, 2, 0] rfl ?_
    refine z_wide (cells' := (17 + 1 * (v2 + 1 : Int).toNat)) (slots' := 6 * (17 + 1 * (v2 + 1 : Int).toNat)) (by omega) (by omega) ?_
    exact k1 _ (Option.some.inj h).symm
  · refine z_sub [(0, .ref (a 0)), (1, .ref (a 168))] [0, 1] rfl ?_
    refine z_wide (cells' := 30) (slots' := 6 * 30) (by omega) (by omega) ?_
    exact k2 st (Option.some.inj h).symm
noncomputable def J_L_tell_b66 (v2 : Int) (st : z_St) : Option ((Int × z_St) ⊕ z_St) :=
  z_g (0 ≤ v2 ∧ v2 ≤ 9) <|
  z_g (z32 v2 ∧ z32 9) (if v2 < 9 then
    z_g (z32 v2 ∧ z32 3 ∧ (3 : Int) ≠ 0) <|
    z_g (z32 ((v2.tdiv 3) - 1)) <|
    z_g (z32 v2 ∧ z32 3 ∧ (3 : Int) ≠ 0) <|
    z_b (J_L_ask 14 ((v2.tdiv 3) - 1) ((v2.tmod 3) - 1) st) fun r9 =>
    z_let (z_kp st r9.2) fun st10 =>
    z_g (0 ≤ 20 + v2 ∧ 20 + v2 < 44) <|
    z_let (z_up st10 300 (20 + v2) r9.1) fun st11 =>
    some (.inl (v2 + 1, st11))
  else
    some (.inr st))
set_option maxRecDepth 100000 in
set_option maxHeartbeats 4000000 in
theorem w_L_tell_b66 {κ : zK} {a : Nat → Nat} {v2 : Int} {st : z_St} {o : (Int × z_St) ⊕ z_St} (hc : z_C κ RL cL_tell 3 28 57 (6 * 57)) (hap : z_AP κ a 169) (k1 : ∀ s9 : (Int × z_St), o = .inl s9 → z_V κ z_T3 169 a (30 + 1 * (s9.1 : Int).toNat) (6 * (30 + 1 * (s9.1 : Int).toNat)) 66 [(0, .ref (a 0)), (1, .ref (a 168)), (2, .int (zI s9.1))] [] (z_wr s9.2)) (k2 : ∀ x9 : z_St, o = .inr x9 → z_V κ z_T3 169 a 40 (6 * 40) 101 [(0, .ref (a 0)), (1, .ref (a 168))] [] (z_wr x9)) (h : J_L_tell_b66 v2 st = some o) : z_V κ z_T3 169 a (30 + 1 * (v2 : Int).toNat) (6 * (30 + 1 * (v2 : Int).toNat)) 66 [(0, .ref (a 0)), (1, .ref (a 168)), (2, .int (zI v2))] [] (z_wr st) := by
  unfold J_L_tell_b66 at h
  obtain ⟨hv9, h⟩ := z_g_some h
  refine z_iload_n (i := 2) 2 hc dL_tell_66 rfl rfl ?_
  refine z_bipush hc dL_tell_67 rfl ?_
  refine z_icmp_ge (tgt := 101) hc dL_tell_69 (by decide) h (fun c69 h => ?_) (fun c69 h => ?_)
  · refine z_aload_n (i := 1) 1 hc dL_tell_72 rfl rfl ?_
    refine z_bipush hc dL_tell_73 rfl ?_
    refine z_iload_n (i := 2) 2 hc dL_tell_75 rfl rfl ?_
    refine z_iadd hc dL_tell_76 ?_
    refine z_aload_n (i := 0) 0 hc dL_tell_77 rfl rfl ?_
    refine z_bipush hc dL_tell_78 rfl ?_
    refine z_iload_n (i := 2) 2 hc dL_tell_80 rfl rfl ?_
    refine z_iconst hc dL_tell_81 ?_
    refine z_idiv hc dL_tell_82 h (fun h => ?_)
    refine z_iconst hc dL_tell_83 ?_
    refine z_isub hc dL_tell_84 ?_
    refine z_i2l hc dL_tell_85 h (fun h => ?_)
    refine z_iload_n (i := 2) 2 hc dL_tell_86 rfl rfl ?_
    refine z_iconst hc dL_tell_87 ?_
    refine z_irem hc dL_tell_88 h (fun h => ?_)
    refine z_iconst hc dL_tell_89 ?_
    refine z_isub hc dL_tell_90 ?_
    obtain ⟨r9, hr9, h⟩ := z_b_some h
    refine z_callUJ ((30 + 1 * (v2 : Int).toNat) + 1) (6 * ((30 + 1 * (v2 : Int).toNat) + 1)) (mu := 1) [.ref (a 0), .int (zI 14), .long (zJ ((v2.tdiv 3) - 1)), .int (zI ((v2.tmod 3) - 1))] hc hap o_L_ask ml_RL_125 (fun l hl => z_lift3 (by decide) (c_L_ask hl hr9)) (by decide) rfl rfl (Nat.le_of_ble_eq_true rfl) (by omega) (by omega) (by omega) (by omega) dL_tell_91 ?_
    refine z_letV h (fun st10 h => ?_)
    refine z_lastR hc hap dL_tell_94 h (fun st11 h => ?_)
    refine z_iinc [(2, .int (zI (v2 + 1))), (0, .ref (a 0)), (1, .ref (a 168))] 2 hc dL_tell_95 rfl (by decide) rfl ?_
    refine z_goto (tgt := 66) hc dL_tell_98 (by decide) ?_
    refine z_sub [(0, .ref (a 0)), (1, .ref (a 168)), (2, .int (zI (v2 + 1)))] [1, 2, 0] rfl ?_
    refine z_wide (cells' := (30 + 1 * (v2 + 1 : Int).toNat)) (slots' := 6 * (30 + 1 * (v2 + 1 : Int).toNat)) (by omega) (by omega) ?_
    exact k1 _ (Option.some.inj h).symm
  · refine z_sub [(0, .ref (a 0)), (1, .ref (a 168))] [0, 1] rfl ?_
    refine z_wide (cells' := 40) (slots' := 6 * 40) (by omega) (by omega) ?_
    exact k2 st (Option.some.inj h).symm
noncomputable def J_L_tell_b103 (v2 : Int) (st : z_St) : Option ((Int × z_St) ⊕ z_St) :=
  z_g (0 ≤ v2 ∧ v2 ≤ 6) <|
  z_g (z32 v2 ∧ z32 6) (if v2 < 6 then
    z_g (z32 v2 ∧ z32 2 ∧ (2 : Int) ≠ 0) <|
    z_g (z32 (v2.tdiv 2)) <|
    z_g (z32 v2 ∧ z32 2 ∧ (2 : Int) ≠ 0) <|
    z_b (J_L_does 9 (v2.tdiv 2) (v2.tmod 2) 0 0 st) fun r13 =>
    z_let (z_kp st r13.2) fun st14 =>
    z_g (0 ≤ 29 + v2 ∧ 29 + v2 < 44) <|
    z_let (z_up st14 300 (29 + v2) r13.1) fun st15 =>
    z_g (z32 v2 ∧ z32 2 ∧ (2 : Int) ≠ 0) <|
    z_g (z32 (v2.tdiv 2)) <|
    z_g (z32 v2 ∧ z32 2 ∧ (2 : Int) ≠ 0) <|
    z_b (J_L_does 8 (v2.tdiv 2) 0 (v2.tmod 2) 0 st15) fun r16 =>
    z_let (z_kp st15 r16.2) fun st17 =>
    z_g (0 ≤ 35 + v2 ∧ 35 + v2 < 44) <|
    z_let (z_up st17 300 (35 + v2) r16.1) fun st18 =>
    some (.inl (v2 + 1, st18))
  else
    some (.inr st))
set_option maxRecDepth 100000 in
set_option maxHeartbeats 4000000 in
theorem w_L_tell_b103 {κ : zK} {a : Nat → Nat} {v2 : Int} {st : z_St} {o : (Int × z_St) ⊕ z_St} (hc : z_C κ RL cL_tell 3 28 57 (6 * 57)) (hap : z_AP κ a 169) (k1 : ∀ s9 : (Int × z_St), o = .inl s9 → z_V κ z_T3 169 a (40 + 2 * (s9.1 : Int).toNat) (6 * (40 + 2 * (s9.1 : Int).toNat)) 103 [(0, .ref (a 0)), (1, .ref (a 168)), (2, .int (zI s9.1))] [] (z_wr s9.2)) (k2 : ∀ x9 : z_St, o = .inr x9 → z_V κ z_T3 169 a 54 (6 * 54) 157 [(0, .ref (a 0)), (1, .ref (a 168))] [] (z_wr x9)) (h : J_L_tell_b103 v2 st = some o) : z_V κ z_T3 169 a (40 + 2 * (v2 : Int).toNat) (6 * (40 + 2 * (v2 : Int).toNat)) 103 [(0, .ref (a 0)), (1, .ref (a 168)), (2, .int (zI v2))] [] (z_wr st) := by
  unfold J_L_tell_b103 at h
  obtain ⟨hv9, h⟩ := z_g_some h
  refine z_iload_n (i := 2) 2 hc dL_tell_103 rfl rfl ?_
  refine z_bipush hc dL_tell_104 rfl ?_
  refine z_icmp_ge (tgt := 157) hc dL_tell_106 (by decide) h (fun c106 h => ?_) (fun c106 h => ?_)
  · refine z_aload_n (i := 1) 1 hc dL_tell_109 rfl rfl ?_
    refine z_bipush hc dL_tell_110 rfl ?_
    refine z_iload_n (i := 2) 2 hc dL_tell_112 rfl rfl ?_
    refine z_iadd hc dL_tell_113 ?_
    refine z_aload_n (i := 0) 0 hc dL_tell_114 rfl rfl ?_
    refine z_bipush hc dL_tell_115 rfl ?_
    refine z_iload_n (i := 2) 2 hc dL_tell_117 rfl rfl ?_
    refine z_iconst hc dL_tell_118 ?_
    refine z_idiv hc dL_tell_119 h (fun h => ?_)
    refine z_i2l hc dL_tell_120 h (fun h => ?_)
    refine z_iload_n (i := 2) 2 hc dL_tell_121 rfl rfl ?_
    refine z_iconst hc dL_tell_122 ?_
    refine z_irem hc dL_tell_123 h (fun h => ?_)
    refine z_iconst hc dL_tell_124 ?_
    refine z_iconst hc dL_tell_125 ?_
    obtain ⟨r13, hr13, h⟩ := z_b_some h
    refine z_callHJ ((40 + 2 * (v2 : Int).toNat) + 1) (6 * ((40 + 2 * (v2 : Int).toNat) + 1)) (mu := 1) (np := 6) [.ref (a 0), .int (zI 9), .long (zJ (v2.tdiv 2)), .int (zI (v2.tmod 2)), .int (zI 0), .int (zI 0)] hc hap kL_does ml_RL_119 (z_t2 168 rfl rfl) (z_t1 0 rfl rfl) (by decide +kernel) (by decide) (fun l hl => z_lift3 (by decide) (c_L_does hl hr13)) (by decide) rfl rfl (Nat.le_of_ble_eq_true rfl) (by omega) (by omega) (by omega) (by omega) dL_tell_126 ?_
    refine z_letV h (fun st14 h => ?_)
    refine z_lastR hc hap dL_tell_129 h (fun st15 h => ?_)
    refine z_aload_n (i := 1) 1 hc dL_tell_130 rfl rfl ?_
    refine z_bipush hc dL_tell_131 rfl ?_
    refine z_iload_n (i := 2) 2 hc dL_tell_133 rfl rfl ?_
    refine z_iadd hc dL_tell_134 ?_
    refine z_aload_n (i := 0) 0 hc dL_tell_135 rfl rfl ?_
    refine z_bipush hc dL_tell_136 rfl ?_
    refine z_iload_n (i := 2) 2 hc dL_tell_138 rfl rfl ?_
    refine z_iconst hc dL_tell_139 ?_
    refine z_idiv hc dL_tell_140 h (fun h => ?_)
    refine z_i2l hc dL_tell_141 h (fun h => ?_)
    refine z_iconst hc dL_tell_142 ?_
    refine z_iload_n (i := 2) 2 hc dL_tell_143 rfl rfl ?_
    refine z_iconst hc dL_tell_144 ?_
    refine z_irem hc dL_tell_145 h (fun h => ?_)
    refine z_iconst hc dL_tell_146 ?_
    obtain ⟨r16, hr16, h⟩ := z_b_some h
    refine z_callHJ ((40 + 2 * (v2 : Int).toNat) + 2) (6 * ((40 + 2 * (v2 : Int).toNat) + 2)) (mu := 1) (np := 6) [.ref (a 0), .int (zI 8), .long (zJ (v2.tdiv 2)), .int (zI 0), .int (zI (v2.tmod 2)), .int (zI 0)] hc hap kL_does ml_RL_119 (z_t2 168 rfl rfl) (z_t1 0 rfl rfl) (by decide +kernel) (by decide) (fun l hl => z_lift3 (by decide) (c_L_does hl hr16)) (by decide) rfl rfl (Nat.le_of_ble_eq_true rfl) (by omega) (by omega) (by omega) (by omega) dL_tell_147 ?_
    refine z_letV h (fun st17 h => ?_)
    refine z_lastR hc hap dL_tell_150 h (fun st18 h => ?_)
    refine z_iinc [(2, .int (zI (v2 + 1))), (0, .ref (a 0)), (1, .ref (a 168))] 2 hc dL_tell_151 rfl (by decide) rfl ?_
    refine z_goto (tgt := 103) hc dL_tell_154 (by decide) ?_
    refine z_sub [(0, .ref (a 0)), (1, .ref (a 168)), (2, .int (zI (v2 + 1)))] [1, 2, 0] rfl ?_
    refine z_wide (cells' := (40 + 2 * (v2 + 1 : Int).toNat)) (slots' := 6 * (40 + 2 * (v2 + 1 : Int).toNat)) (by omega) (by omega) ?_
    exact k1 _ (Option.some.inj h).symm
  · refine z_sub [(0, .ref (a 0)), (1, .ref (a 168))] [0, 1] rfl ?_
    refine z_wide (cells' := 54) (slots' := 6 * 54) (by omega) (by omega) ?_
    exact k2 st (Option.some.inj h).symm
noncomputable def J_L_tell_5 (st : z_St) : Option (z_St) :=
  z_b (z_iter z_F (fun q9 : (Int × z_St) => J_L_tell_b7 q9.1 q9.2) (0, st)) fun lx4 =>
    z_b (z_iter z_F (fun q9 : (Int × z_St) => J_L_tell_b33 q9.1 q9.2) (0, lx4)) fun lx8 =>
      z_b (z_iter z_F (fun q9 : (Int × z_St) => J_L_tell_b66 q9.1 q9.2) (0, lx8)) fun lx12 =>
        z_b (z_iter z_F (fun q9 : (Int × z_St) => J_L_tell_b103 q9.1 q9.2) (0, lx12)) fun lx19 =>
          z_b (J_L_does 10 0 0 2 0 lx19) fun r20 =>
          z_let (z_kp lx19 r20.2) fun st21 =>
          z_g (0 ≤ 41 ∧ 41 < 44) <|
          z_let (z_up st21 300 41 r20.1) fun st22 =>
          z_b (J_L_does 10 1 0 1 0 st22) fun r23 =>
          z_let (z_kp st22 r23.2) fun st24 =>
          z_g (0 ≤ 42 ∧ 42 < 44) <|
          z_let (z_up st24 300 42 r23.1) fun st25 =>
          z_b (J_L_does 10 1 0 2 0 st25) fun r26 =>
          z_let (z_kp st25 r26.2) fun st27 =>
          z_g (0 ≤ 43 ∧ 43 < 44) <|
          z_let (z_up st27 300 43 r26.1) fun st28 =>
          some st28
set_option maxRecDepth 100000 in
set_option maxHeartbeats 4000000 in
theorem w_L_tell_5 {κ : zK} {a : Nat → Nat} {st : z_St} {o : z_St} (hc : z_C κ RL cL_tell 3 28 57 (6 * 57)) (hap : z_AP κ a 169) (he : z_ET 57 κ a o) (h : J_L_tell_5 st = some o) : z_V κ z_T3 169 a 8 (6 * 8) 5 [(1, .ref (a 168)), (0, .ref (a 0))] [] (z_wr st) := by
  unfold J_L_tell_5 at h
  refine z_iconst hc dL_tell_5 ?_
  refine z_istore_n (i := 2) [(2, .int (zI 0)), (1, .ref (a 168)), (0, .ref (a 0))] hc dL_tell_6 rfl (by decide) rfl ?_
  obtain ⟨lx4, hlx4, h⟩ := z_b_some h
  refine z_sub [(0, .ref (a 0)), (1, .ref (a 168)), (2, .int (zI 0))] [2, 1, 0] rfl ?_
  refine z_wide (cells' := (8 + 1 * (0 : Int).toNat)) (slots' := 6 * (8 + 1 * (0 : Int).toNat)) (by omega) (by omega) ?_
  refine z_loop (fun q9 : (Int × z_St) => J_L_tell_b7 q9.1 q9.2) (fun q9 : (Int × z_St) => z_V κ z_T3 169 a (8 + 1 * (q9.1 : Int).toNat) (6 * (8 + 1 * (q9.1 : Int).toNat)) 7 [(0, .ref (a 0)), (1, .ref (a 168)), (2, .int (zI q9.1))] [] (z_wr q9.2)) (fun x9 : z_St => z_V κ z_T3 169 a 17 (6 * 17) 31 [(0, .ref (a 0)), (1, .ref (a 168))] [] (z_wr x9)) (fun q9 o9 hb k1 k2 => ?_) _ _ _ hlx4 ?_
  · exact w_L_tell_b7 hc hap k1 k2 hb
  · show z_V κ z_T3 169 a 17 (6 * 17) 31 [(0, .ref (a 0)), (1, .ref (a 168))] [] (z_wr lx4)
    refine z_iconst hc dL_tell_31 ?_
    refine z_istore_n (i := 2) [(2, .int (zI 0)), (0, .ref (a 0)), (1, .ref (a 168))] hc dL_tell_32 rfl (by decide) rfl ?_
    obtain ⟨lx8, hlx8, h⟩ := z_b_some h
    refine z_sub [(0, .ref (a 0)), (1, .ref (a 168)), (2, .int (zI 0))] [1, 2, 0] rfl ?_
    refine z_wide (cells' := (17 + 1 * (0 : Int).toNat)) (slots' := 6 * (17 + 1 * (0 : Int).toNat)) (by omega) (by omega) ?_
    refine z_loop (fun q9 : (Int × z_St) => J_L_tell_b33 q9.1 q9.2) (fun q9 : (Int × z_St) => z_V κ z_T3 169 a (17 + 1 * (q9.1 : Int).toNat) (6 * (17 + 1 * (q9.1 : Int).toNat)) 33 [(0, .ref (a 0)), (1, .ref (a 168)), (2, .int (zI q9.1))] [] (z_wr q9.2)) (fun x9 : z_St => z_V κ z_T3 169 a 30 (6 * 30) 64 [(0, .ref (a 0)), (1, .ref (a 168))] [] (z_wr x9)) (fun q9 o9 hb k1 k2 => ?_) _ _ _ hlx8 ?_
    · exact w_L_tell_b33 hc hap k1 k2 hb
    · show z_V κ z_T3 169 a 30 (6 * 30) 64 [(0, .ref (a 0)), (1, .ref (a 168))] [] (z_wr lx8)
      refine z_iconst hc dL_tell_64 ?_
      refine z_istore_n (i := 2) [(2, .int (zI 0)), (0, .ref (a 0)), (1, .ref (a 168))] hc dL_tell_65 rfl (by decide) rfl ?_
      obtain ⟨lx12, hlx12, h⟩ := z_b_some h
      refine z_sub [(0, .ref (a 0)), (1, .ref (a 168)), (2, .int (zI 0))] [1, 2, 0] rfl ?_
      refine z_wide (cells' := (30 + 1 * (0 : Int).toNat)) (slots' := 6 * (30 + 1 * (0 : Int).toNat)) (by omega) (by omega) ?_
      refine z_loop (fun q9 : (Int × z_St) => J_L_tell_b66 q9.1 q9.2) (fun q9 : (Int × z_St) => z_V κ z_T3 169 a (30 + 1 * (q9.1 : Int).toNat) (6 * (30 + 1 * (q9.1 : Int).toNat)) 66 [(0, .ref (a 0)), (1, .ref (a 168)), (2, .int (zI q9.1))] [] (z_wr q9.2)) (fun x9 : z_St => z_V κ z_T3 169 a 40 (6 * 40) 101 [(0, .ref (a 0)), (1, .ref (a 168))] [] (z_wr x9)) (fun q9 o9 hb k1 k2 => ?_) _ _ _ hlx12 ?_
      · exact w_L_tell_b66 hc hap k1 k2 hb
      · show z_V κ z_T3 169 a 40 (6 * 40) 101 [(0, .ref (a 0)), (1, .ref (a 168))] [] (z_wr lx12)
        refine z_iconst hc dL_tell_101 ?_
        refine z_istore_n (i := 2) [(2, .int (zI 0)), (0, .ref (a 0)), (1, .ref (a 168))] hc dL_tell_102 rfl (by decide) rfl ?_
        obtain ⟨lx19, hlx19, h⟩ := z_b_some h
        refine z_sub [(0, .ref (a 0)), (1, .ref (a 168)), (2, .int (zI 0))] [1, 2, 0] rfl ?_
        refine z_wide (cells' := (40 + 2 * (0 : Int).toNat)) (slots' := 6 * (40 + 2 * (0 : Int).toNat)) (by omega) (by omega) ?_
        refine z_loop (fun q9 : (Int × z_St) => J_L_tell_b103 q9.1 q9.2) (fun q9 : (Int × z_St) => z_V κ z_T3 169 a (40 + 2 * (q9.1 : Int).toNat) (6 * (40 + 2 * (q9.1 : Int).toNat)) 103 [(0, .ref (a 0)), (1, .ref (a 168)), (2, .int (zI q9.1))] [] (z_wr q9.2)) (fun x9 : z_St => z_V κ z_T3 169 a 54 (6 * 54) 157 [(0, .ref (a 0)), (1, .ref (a 168))] [] (z_wr x9)) (fun q9 o9 hb k1 k2 => ?_) _ _ _ hlx19 ?_
        · exact w_L_tell_b103 hc hap k1 k2 hb
        · show z_V κ z_T3 169 a 54 (6 * 54) 157 [(0, .ref (a 0)), (1, .ref (a 168))] [] (z_wr lx19)
          refine z_aload_n (i := 1) 1 hc dL_tell_157 rfl rfl ?_
          refine z_bipush hc dL_tell_158 rfl ?_
          refine z_aload_n (i := 0) 0 hc dL_tell_160 rfl rfl ?_
          refine z_bipush hc dL_tell_161 rfl ?_
          refine z_lconst 0 hc dL_tell_163 rfl ?_
          refine z_iconst hc dL_tell_164 ?_
          refine z_iconst hc dL_tell_165 ?_
          refine z_iconst hc dL_tell_166 ?_
          obtain ⟨r20, hr20, h⟩ := z_b_some h
          refine z_callHJ 55 (6 * 55) (mu := 1) (np := 6) [.ref (a 0), .int (zI 10), .long (zJ 0), .int (zI 0), .int (zI 2), .int (zI 0)] hc hap kL_does ml_RL_119 (z_t2 168 rfl rfl) (z_t1 0 rfl rfl) (by decide +kernel) (by decide) (fun l hl => z_lift3 (by decide) (c_L_does hl hr20)) (by decide) rfl rfl (Nat.le_of_ble_eq_true rfl) (by omega) (by omega) (by omega) (by omega) dL_tell_167 ?_
          refine z_letV h (fun st21 h => ?_)
          refine z_lastR hc hap dL_tell_170 h (fun st22 h => ?_)
          refine z_aload_n (i := 1) 1 hc dL_tell_171 rfl rfl ?_
          refine z_bipush hc dL_tell_172 rfl ?_
          refine z_aload_n (i := 0) 0 hc dL_tell_174 rfl rfl ?_
          refine z_bipush hc dL_tell_175 rfl ?_
          refine z_lconst 1 hc dL_tell_177 rfl ?_
          refine z_iconst hc dL_tell_178 ?_
          refine z_iconst hc dL_tell_179 ?_
          refine z_iconst hc dL_tell_180 ?_
          obtain ⟨r23, hr23, h⟩ := z_b_some h
          refine z_callHJ 56 (6 * 56) (mu := 1) (np := 6) [.ref (a 0), .int (zI 10), .long (zJ 1), .int (zI 0), .int (zI 1), .int (zI 0)] hc hap kL_does ml_RL_119 (z_t2 168 rfl rfl) (z_t1 0 rfl rfl) (by decide +kernel) (by decide) (fun l hl => z_lift3 (by decide) (c_L_does hl hr23)) (by decide) rfl rfl (Nat.le_of_ble_eq_true rfl) (by omega) (by omega) (by omega) (by omega) dL_tell_181 ?_
          refine z_letV h (fun st24 h => ?_)
          refine z_lastR hc hap dL_tell_184 h (fun st25 h => ?_)
          refine z_aload_n (i := 1) 1 hc dL_tell_185 rfl rfl ?_
          refine z_bipush hc dL_tell_186 rfl ?_
          refine z_aload_n (i := 0) 0 hc dL_tell_188 rfl rfl ?_
          refine z_bipush hc dL_tell_189 rfl ?_
          refine z_lconst 1 hc dL_tell_191 rfl ?_
          refine z_iconst hc dL_tell_192 ?_
          refine z_iconst hc dL_tell_193 ?_
          refine z_iconst hc dL_tell_194 ?_
          obtain ⟨r26, hr26, h⟩ := z_b_some h
          refine z_callHJ 57 (6 * 57) (mu := 1) (np := 6) [.ref (a 0), .int (zI 10), .long (zJ 1), .int (zI 0), .int (zI 2), .int (zI 0)] hc hap kL_does ml_RL_119 (z_t2 168 rfl rfl) (z_t1 0 rfl rfl) (by decide +kernel) (by decide) (fun l hl => z_lift3 (by decide) (c_L_does hl hr26)) (by decide) rfl rfl (Nat.le_of_ble_eq_true rfl) (by omega) (by omega) (by omega) (by omega) dL_tell_195 ?_
          refine z_letV h (fun st27 h => ?_)
          refine z_lastR hc hap dL_tell_198 h (fun st28 h => ?_)
          refine z_aload_n (i := 1) 1 hc dL_tell_199 rfl rfl ?_
          have h := Option.some.inj h
          subst h
          exact z_retT hc he dL_tell_200
noncomputable def J_L_tell (st : z_St) : Option z_St := z_g (z_pt st) (J_L_tell_5 (z_zr st))
set_option maxRecDepth 100000 in
set_option maxHeartbeats 4000000 in
theorem c_L_tell {l : Launch} (hl : l.stackTraces = false) {a : Nat → Nat} {st o : z_St} (h : J_L_tell st = some o) : z_MT l yL_tell (z_w yL_tell cL_tell 3 (some (.array .long))) 28 57 a [.ref (a 0)] st o := by
  refine z_ofT hl (by decide +kernel) (Nat.le_of_ble_eq_true rfl) (fun κ hc hap he => ?_)
  show z_V κ z_T z_N a 0 0 0 [(0, .ref (a 0))] [] st
  unfold J_L_tell at h
  obtain ⟨hpt, h⟩ := z_g_some h
  refine z_bipush hc dL_tell_0 rfl ?_
  refine z_newR hc hap hpt (z_t1 217 rfl rfl) (by decide) (by decide) dL_tell_2 (fun q hq hap2 => ?_)
  show z_V κ z_T3 169 (z_ap a 168 q) 1 44 4 [(0, .ref (z_ap a 168 q 0))] [.ref (z_ap a 168 q 168)] (z_wr (z_zr st))
  refine z_astore_n (i := 1) [(1, .ref (z_ap a 168 q 168)), (0, .ref (z_ap a 168 q 0))] hc dL_tell_4 rfl (by decide) rfl ?_
  refine z_wide (cells' := 8) (slots' := 6 * 8) (Nat.le_of_ble_eq_true rfl) (Nat.le_of_ble_eq_true rfl) ?_
  exact w_L_tell_5 hc hap2 (he q hq) h

