theorem dX12_over_0 : decode cX12_over 0 = .ok (.aload_n 0, 1) := by decide +kernel
theorem dX12_over_1 : decode cX12_over 1 = .ok (.aload_n 0, 1) := by decide +kernel
theorem dX12_over_2 : decode cX12_over 2 = .ok (.iload_n 1, 1) := by decide +kernel
theorem dX12_over_3 : decode cX12_over 3 = .ok (.invokevirtual 195, 3) := by decide +kernel
theorem dX12_over_6 : decode cX12_over 6 = .ok (.ifCond .ne 7, 3) := by decide +kernel
theorem dX12_over_9 : decode cX12_over 9 = .ok (.iconst 1, 1) := by decide +kernel
theorem dX12_over_10 : decode cX12_over 10 = .ok (.goto 43, 3) := by decide +kernel
theorem dX12_over_13 : decode cX12_over 13 = .ok (.aload_n 0, 1) := by decide +kernel
theorem dX12_over_14 : decode cX12_over 14 = .ok (.iload_n 2, 1) := by decide +kernel
theorem dX12_over_15 : decode cX12_over 15 = .ok (.i2l, 1) := by decide +kernel
theorem dX12_over_16 : decode cX12_over 16 = .ok (.lconst 0, 1) := by decide +kernel
theorem dX12_over_17 : decode cX12_over 17 = .ok (.aload_n 0, 1) := by decide +kernel
theorem dX12_over_18 : decode cX12_over 18 = .ok (.getfield 128, 3) := by decide +kernel
theorem dX12_over_21 : decode cX12_over 21 = .ok (.iconst 1, 1) := by decide +kernel
theorem dX12_over_22 : decode cX12_over 22 = .ok (.isub, 1) := by decide +kernel
theorem dX12_over_23 : decode cX12_over 23 = .ok (.i2l, 1) := by decide +kernel
theorem dX12_over_24 : decode cX12_over 24 = .ok (.invokevirtual 116, 3) := by decide +kernel
theorem dX12_over_27 : decode cX12_over 27 = .ok (.ifCond .eq 25, 3) := by decide +kernel
theorem dX12_over_30 : decode cX12_over 30 = .ok (.aload_n 0, 1) := by decide +kernel
theorem dX12_over_31 : decode cX12_over 31 = .ok (.iload_n 3, 1) := by decide +kernel
theorem dX12_over_32 : decode cX12_over 32 = .ok (.i2l, 1) := by decide +kernel
theorem dX12_over_33 : decode cX12_over 33 = .ok (.iload_n 2, 1) := by decide +kernel
theorem dX12_over_34 : decode cX12_over 34 = .ok (.i2l, 1) := by decide +kernel
theorem dX12_over_35 : decode cX12_over 35 = .ok (.lconst 1, 1) := by decide +kernel
theorem dX12_over_36 : decode cX12_over 36 = .ok (.ladd, 1) := by decide +kernel
theorem dX12_over_37 : decode cX12_over 37 = .ok (.aload_n 0, 1) := by decide +kernel
theorem dX12_over_38 : decode cX12_over 38 = .ok (.getfield 128, 3) := by decide +kernel
theorem dX12_over_41 : decode cX12_over 41 = .ok (.i2l, 1) := by decide +kernel
theorem dX12_over_42 : decode cX12_over 42 = .ok (.invokevirtual 116, 3) := by decide +kernel
theorem dX12_over_45 : decode cX12_over 45 = .ok (.ifCond .eq 7, 3) := by decide +kernel
theorem dX12_over_48 : decode cX12_over 48 = .ok (.iconst 0, 1) := by decide +kernel
theorem dX12_over_49 : decode cX12_over 49 = .ok (.goto 4, 3) := by decide +kernel
theorem dX12_over_52 : decode cX12_over 52 = .ok (.iconst 2, 1) := by decide +kernel
theorem dX12_over_53 : decode cX12_over 53 = .ok (.invokevirtual 131, 3) := by decide +kernel
theorem dX12_over_56 : decode cX12_over 56 = .ok (.ifCond .eq 7, 3) := by decide +kernel
theorem dX12_over_59 : decode cX12_over 59 = .ok (.ldc2_w 145, 3) := by decide +kernel
theorem dX12_over_62 : decode cX12_over 62 = .ok (.lreturn, 1) := by decide +kernel
theorem dX12_over_63 : decode cX12_over 63 = .ok (.aload_n 0, 1) := by decide +kernel
theorem dX12_over_64 : decode cX12_over 64 = .ok (.invokevirtual 218, 3) := by decide +kernel
theorem dX12_over_67 : decode cX12_over 67 = .ok (.aload_n 0, 1) := by decide +kernel
theorem dX12_over_68 : decode cX12_over 68 = .ok (.aload_n 0, 1) := by decide +kernel
theorem dX12_over_69 : decode cX12_over 69 = .ok (.iload_n 1, 1) := by decide +kernel
theorem dX12_over_70 : decode cX12_over 70 = .ok (.iload_n 2, 1) := by decide +kernel
theorem dX12_over_71 : decode cX12_over 71 = .ok (.iload_n 3, 1) := by decide +kernel
theorem dX12_over_72 : decode cX12_over 72 = .ok (.invokevirtual 221, 3) := by decide +kernel
theorem dX12_over_75 : decode cX12_over 75 = .ok (.invokevirtual 224, 3) := by decide +kernel
theorem dX12_over_78 : decode cX12_over 78 = .ok (.lreturn, 1) := by decide +kernel
def J_X12_over_53 (v1 v2 v3 s0 : Int) (st : z_St) : Option (Int × z_St) :=
  z_b (J_X12_holds s0 st) fun r3 =>
  z_g (z32 r3.1) (if r3.1 = 0 then
    z_b (J_X12_laysTable r3.2) fun st6 =>
    z_b (J_X12_tableOf v1 v2 v3 st6) fun r7 =>
    z_b (J_X12_told r7 st6) fun r9 =>
    some (r9, st6)
  else
    some ((-1), r3.2))
set_option maxRecDepth 100000 in
set_option maxHeartbeats 4000000 in
theorem w_X12_over_53 {κ : zK} {a : Nat → Nat} {v1 v2 v3 s0 : Int} {st : z_St} {o : Int × z_St} (hc : z_C κ RX12 cX12_over 4 12 0 0) (hap : z_AP κ a z_N) (he : z_E 1 κ (some .long) z_T z_N a o.1 o.2) (h : J_X12_over_53 v1 v2 v3 s0 st = some o) : z_V κ z_T z_N a 0 0 53 [(0, .ref (a 168)), (1, .int (zI v1)), (2, .int (zI v2)), (3, .int (zI v3))] [.int (zI s0), .ref (a 168)] st := by
  unfold J_X12_over_53 at h
  obtain ⟨r3, hr3, h⟩ := z_b_some h
  refine z_callVI [.int (zI s0)] hc hap o_X12_holds ml_RX12_131 (fun l hl => c_X12_holds hl  hr3) (by decide) tT_168 (by decide) ⟨_, rfl, rfl⟩ rfl rfl (Nat.le_of_ble_eq_true rfl) (Nat.zero_le _) (Nat.zero_le _) dX12_over_53 ?_
  refine z_if_eq (tgt := 63) hc dX12_over_56 (by decide) h (fun c56 h => ?_) (fun c56 h => ?_)
  · refine z_aload_n (i := 0) 0 hc dX12_over_63 rfl rfl ?_
    obtain ⟨st6, hr5, h⟩ := z_b_some h
    refine z_callVV [] hc hap o_X12_laysTable ml_RX12_218 (fun l hl => c_X12_laysTable hl  hr5) (by decide) tT_168 (by decide) ⟨_, rfl, rfl⟩ rfl rfl (Nat.le_of_ble_eq_true rfl) (Nat.zero_le _) (Nat.zero_le _) dX12_over_64 ?_
    refine z_aload_n (i := 0) 0 hc dX12_over_67 rfl rfl ?_
    refine z_aload_n (i := 0) 0 hc dX12_over_68 rfl rfl ?_
    refine z_iload_n (i := 1) 1 hc dX12_over_69 rfl rfl ?_
    refine z_iload_n (i := 2) 2 hc dX12_over_70 rfl rfl ?_
    refine z_iload_n (i := 3) 3 hc dX12_over_71 rfl rfl ?_
    obtain ⟨r7, hr7, h⟩ := z_b_some h
    refine z_callVJ [.int (zI v1), .int (zI v2), .int (zI v3)] hc hap o_X12_tableOf ml_RX12_221 (fun l hl => c_X12_tableOf hl  hr7) (by decide) tT_168 (by decide) ⟨_, rfl, rfl⟩ rfl rfl (Nat.le_of_ble_eq_true rfl) (Nat.zero_le _) (Nat.zero_le _) dX12_over_72 ?_
    obtain ⟨r9, hr9, h⟩ := z_b_some h
    refine z_callVJ [.long (zJ r7)] hc hap o_X12_told ml_RX12_224 (fun l hl => c_X12_told hl  hr9) (by decide) tT_168 (by decide) ⟨_, rfl, rfl⟩ rfl rfl (Nat.le_of_ble_eq_true rfl) (Nat.zero_le _) (Nat.zero_le _) dX12_over_75 ?_
    have h := Option.some.inj h
    subst h
    exact z_retJ hc he dX12_over_78
  · refine z_ldc2 (-1) hc kc_RX12_145 dX12_over_59 rfl ?_
    have h := Option.some.inj h
    subst h
    exact z_retJ hc he dX12_over_62
def J_X12_over_52 (v1 v2 v3 : Int) (st : z_St) : Option (Int × z_St) :=
  J_X12_over_53 v1 v2 v3 2 st
set_option maxRecDepth 100000 in
set_option maxHeartbeats 4000000 in
theorem w_X12_over_52 {κ : zK} {a : Nat → Nat} {v1 v2 v3 : Int} {st : z_St} {o : Int × z_St} (hc : z_C κ RX12 cX12_over 4 12 0 0) (hap : z_AP κ a z_N) (he : z_E 1 κ (some .long) z_T z_N a o.1 o.2) (h : J_X12_over_52 v1 v2 v3 st = some o) : z_V κ z_T z_N a 0 0 52 [(0, .ref (a 168)), (1, .int (zI v1)), (2, .int (zI v2)), (3, .int (zI v3))] [.ref (a 168)] st := by
  unfold J_X12_over_52 at h
  refine z_iconst hc dX12_over_52 ?_
  refine z_sub [(0, .ref (a 168)), (1, .int (zI v1)), (2, .int (zI v2)), (3, .int (zI v3))] [0, 1, 2, 3] rfl ?_
  exact w_X12_over_53 hc hap he h
def J_X12_over (x1 x2 x3 : Int) (st : z_St) : Option (Int × z_St) :=
  z_b (J_X12_isWord x1 st) fun r1 =>
  z_g (z32 r1) (if r1 = 0 then
    J_X12_over_53 x1 x2 x3 1 st
  else
    z_g (z32 x2) <|
    z_g (z32 ((st 168 2) - 1)) <|
    z_b (J_X12_in x2 0 ((st 168 2) - 1) st) fun r11 =>
    z_g (z32 r11) (if r11 = 0 then
      J_X12_over_52 x1 x2 x3 st
    else
      z_g (z32 x3) <|
      z_g (z32 x2) <|
      z_g (z32 (st 168 2)) <|
      z_b (J_X12_in x3 (x2 + 1) (st 168 2) st) fun r13 =>
      z_g (z32 r13) (if r13 = 0 then
        J_X12_over_52 x1 x2 x3 st
      else
        J_X12_over_53 x1 x2 x3 0 st)))
set_option maxRecDepth 100000 in
set_option maxHeartbeats 4000000 in
theorem w_X12_over {κ : zK} {a : Nat → Nat} {x1 x2 x3 : Int} {st : z_St} {o : Int × z_St} (hc : z_C κ RX12 cX12_over 4 12 0 0) (hap : z_AP κ a z_N) (he : z_E 1 κ (some .long) z_T z_N a o.1 o.2) (h : J_X12_over x1 x2 x3 st = some o) : z_V κ z_T z_N a 0 0 0 [(0, .ref (a 168)), (1, .int (zI x1)), (2, .int (zI x2)), (3, .int (zI x3))] [] st := by
  unfold J_X12_over at h
  refine z_aload_n (i := 0) 0 hc dX12_over_0 rfl rfl ?_
  refine z_aload_n (i := 0) 0 hc dX12_over_1 rfl rfl ?_
  refine z_iload_n (i := 1) 1 hc dX12_over_2 rfl rfl ?_
  obtain ⟨r1, hr1, h⟩ := z_b_some h
  refine z_callVI [.int (zI x1)] hc hap o_X12_isWord ml_RX12_195 (fun l hl => c_X12_isWord hl  hr1) (by decide) tT_168 (by decide) ⟨_, rfl, rfl⟩ rfl rfl (Nat.le_of_ble_eq_true rfl) (Nat.zero_le _) (Nat.zero_le _) dX12_over_3 ?_
  refine z_if_ne (tgt := 13) hc dX12_over_6 (by decide) h (fun c6 h => ?_) (fun c6 h => ?_)
  · refine z_iconst hc dX12_over_9 ?_
    refine z_goto (tgt := 53) hc dX12_over_10 (by decide) ?_
    refine z_sub [(0, .ref (a 168)), (1, .int (zI x1)), (2, .int (zI x2)), (3, .int (zI x3))] [0, 1, 2, 3] rfl ?_
    exact w_X12_over_53 hc hap he h
  · refine z_aload_n (i := 0) 0 hc dX12_over_13 rfl rfl ?_
    refine z_iload_n (i := 2) 2 hc dX12_over_14 rfl rfl ?_
    refine z_i2l hc dX12_over_15 h (fun h => ?_)
    refine z_lconst 0 hc dX12_over_16 rfl ?_
    refine z_aload_n (i := 0) 0 hc dX12_over_17 rfl rfl ?_
    refine z_getI (kI := 168) (jI := 2) hc fl_RX12_128 tT_168 (by decide) rfl rfl rfl dX12_over_18 ?_
    refine z_iconst hc dX12_over_21 ?_
    refine z_isub hc dX12_over_22 ?_
    refine z_i2l hc dX12_over_23 h (fun h => ?_)
    obtain ⟨r11, hr11, h⟩ := z_b_some h
    refine z_callVI [.long (zJ x2), .long (zJ 0), .long (zJ ((st 168 2) - 1))] hc hap o_X12_in ml_RX12_116 (fun l hl => c_X12_in hl  hr11) (by decide) tT_168 (by decide) ⟨_, rfl, rfl⟩ rfl rfl (Nat.le_of_ble_eq_true rfl) (Nat.zero_le _) (Nat.zero_le _) dX12_over_24 ?_
    refine z_if_eq (tgt := 52) hc dX12_over_27 (by decide) h (fun c27 h => ?_) (fun c27 h => ?_)
    · refine z_sub [(0, .ref (a 168)), (1, .int (zI x1)), (2, .int (zI x2)), (3, .int (zI x3))] [0, 1, 2, 3] rfl ?_
      exact w_X12_over_52 hc hap he h
    · refine z_aload_n (i := 0) 0 hc dX12_over_30 rfl rfl ?_
      refine z_iload_n (i := 3) 3 hc dX12_over_31 rfl rfl ?_
      refine z_i2l hc dX12_over_32 h (fun h => ?_)
      refine z_iload_n (i := 2) 2 hc dX12_over_33 rfl rfl ?_
      refine z_i2l hc dX12_over_34 h (fun h => ?_)
      refine z_lconst 1 hc dX12_over_35 rfl ?_
      refine z_ladd hc dX12_over_36 ?_
      refine z_aload_n (i := 0) 0 hc dX12_over_37 rfl rfl ?_
      refine z_getI (kI := 168) (jI := 2) hc fl_RX12_128 tT_168 (by decide) rfl rfl rfl dX12_over_38 ?_
      refine z_i2l hc dX12_over_41 h (fun h => ?_)
      obtain ⟨r13, hr13, h⟩ := z_b_some h
      refine z_callVI [.long (zJ x3), .long (zJ (x2 + 1)), .long (zJ (st 168 2))] hc hap o_X12_in ml_RX12_116 (fun l hl => c_X12_in hl  hr13) (by decide) tT_168 (by decide) ⟨_, rfl, rfl⟩ rfl rfl (Nat.le_of_ble_eq_true rfl) (Nat.zero_le _) (Nat.zero_le _) dX12_over_42 ?_
      refine z_if_eq (tgt := 52) hc dX12_over_45 (by decide) h (fun c45 h => ?_) (fun c45 h => ?_)
      · refine z_sub [(0, .ref (a 168)), (1, .int (zI x1)), (2, .int (zI x2)), (3, .int (zI x3))] [0, 1, 2, 3] rfl ?_
        exact w_X12_over_52 hc hap he h
      · refine z_iconst hc dX12_over_48 ?_
        refine z_goto (tgt := 53) hc dX12_over_49 (by decide) ?_
        refine z_sub [(0, .ref (a 168)), (1, .int (zI x1)), (2, .int (zI x2)), (3, .int (zI x3))] [0, 1, 2, 3] rfl ?_
        exact w_X12_over_53 hc hap he h
set_option maxRecDepth 100000 in
set_option maxHeartbeats 4000000 in
theorem c_X12_over {l : Launch} (hl : l.stackTraces = false) {a : Nat → Nat} {x1 x2 x3 : Int} {st : z_St} {o : Int × z_St} (h : J_X12_over x1 x2 x3 st = some o) : z_M 1 l yX12_over cX12_over 4 (some .long) 12 z_T z_N a [.ref (a 168), .int (zI x1), .int (zI x2), .int (zI x3)] st o.1 o.2 := z_of hl (by decide +kernel) (Nat.le_of_ble_eq_true rfl) (fun κ hc hap he => w_X12_over hc hap he h)
theorem dX12_counts_0 : decode cX12_counts 0 = .ok (.aload_n 0, 1) := by decide +kernel
theorem dX12_counts_1 : decode cX12_counts 1 = .ok (.getfield 49, 3) := by decide +kernel
theorem dX12_counts_4 : decode cX12_counts 4 = .ok (.bipush 6, 2) := by decide +kernel
theorem dX12_counts_6 : decode cX12_counts 6 = .ok (.iload_n 1, 1) := by decide +kernel
theorem dX12_counts_7 : decode cX12_counts 7 = .ok (.imul, 1) := by decide +kernel
theorem dX12_counts_8 : decode cX12_counts 8 = .ok (.iload_n 2, 1) := by decide +kernel
theorem dX12_counts_9 : decode cX12_counts 9 = .ok (.iadd, 1) := by decide +kernel
theorem dX12_counts_10 : decode cX12_counts 10 = .ok (.dup2, 1) := by decide +kernel
theorem dX12_counts_11 : decode cX12_counts 11 = .ok (.iaload, 1) := by decide +kernel
theorem dX12_counts_12 : decode cX12_counts 12 = .ok (.iconst 1, 1) := by decide +kernel
theorem dX12_counts_13 : decode cX12_counts 13 = .ok (.iadd, 1) := by decide +kernel
theorem dX12_counts_14 : decode cX12_counts 14 = .ok (.iastore, 1) := by decide +kernel
theorem dX12_counts_15 : decode cX12_counts 15 = .ok (.aload_n 0, 1) := by decide +kernel
theorem dX12_counts_16 : decode cX12_counts 16 = .ok (.dup, 1) := by decide +kernel
theorem dX12_counts_17 : decode cX12_counts 17 = .ok (.getfield 228, 3) := by decide +kernel
theorem dX12_counts_20 : decode cX12_counts 20 = .ok (.iconst 1, 1) := by decide +kernel
theorem dX12_counts_21 : decode cX12_counts 21 = .ok (.iadd, 1) := by decide +kernel
theorem dX12_counts_22 : decode cX12_counts 22 = .ok (.putfield 228, 3) := by decide +kernel
theorem dX12_counts_25 : decode cX12_counts 25 = .ok (.return_, 1) := by decide +kernel
def J_X12_counts (x1 x2 : Int) (st : z_St) : Option (z_St) :=
  z_g (0 ≤ (6 * x1) + x2 ∧ (6 * x1) + x2 < 36) <|
  z_g (0 ≤ (6 * x1) + x2 ∧ (6 * x1) + x2 < 36) <|
  z_let (z_up st 182 ((6 * x1) + x2) ((st 182 ((6 * x1) + x2)) + 1)) fun st2 =>
  z_let (z_up st2 168 20 ((st2 168 20) + 1)) fun st3 =>
  some st3
set_option maxRecDepth 100000 in
set_option maxHeartbeats 4000000 in
theorem w_X12_counts {κ : zK} {a : Nat → Nat} {x1 x2 : Int} {st : z_St} {o : z_St} (hc : z_C κ RX12 cX12_counts 3 8 0 0) (hap : z_AP κ a z_N) (he : z_E 2 κ none z_T z_N a 0 o) (h : J_X12_counts x1 x2 st = some o) : z_V κ z_T z_N a 0 0 0 [(0, .ref (a 168)), (1, .int (zI x1)), (2, .int (zI x2))] [] st := by
  unfold J_X12_counts at h
  refine z_aload_n (i := 0) 0 hc dX12_counts_0 rfl rfl ?_
  refine z_getA (k' := 182) hc fl_RX12_49 tT_168 (by decide) rfl rfl dX12_counts_1 ?_
  refine z_bipush hc dX12_counts_4 rfl ?_
  refine z_iload_n (i := 1) 1 hc dX12_counts_6 rfl rfl ?_
  refine z_imul hc dX12_counts_7 ?_
  refine z_iload_n (i := 2) 2 hc dX12_counts_8 rfl rfl ?_
  refine z_iadd hc dX12_counts_9 ?_
  refine z_dup2 hc dX12_counts_10 rfl rfl ?_
  refine z_iald (kI := 182) (nI9 := 36) hc tT_182 (by decide) rfl rfl (by decide) dX12_counts_11 h (fun g1 h => ?_)
  refine z_iconst hc dX12_counts_12 ?_
  refine z_iadd hc dX12_counts_13 ?_
  refine z_iast (kI := 182) (nI9 := 36) hc hap tT_182 (by decide) rfl rfl (by decide) dX12_counts_14 h (fun st2 h => ?_)
  refine z_aload_n (i := 0) 0 hc dX12_counts_15 rfl rfl ?_
  refine z_dup hc dX12_counts_16 rfl ?_
  refine z_getI (kI := 168) (jI := 20) hc fl_RX12_228 tT_168 (by decide) rfl rfl rfl dX12_counts_17 ?_
  refine z_iconst hc dX12_counts_20 ?_
  refine z_iadd hc dX12_counts_21 ?_
  refine z_putI (kI := 168) (jI := 20) hc hap fp_RX12_228 tT_168 (by decide) rfl rfl rfl dX12_counts_22 h (fun st3 h => ?_)
  have h := Option.some.inj h
  subst h
  exact z_retV hc he dX12_counts_25
set_option maxRecDepth 100000 in
set_option maxHeartbeats 4000000 in
theorem c_X12_counts {l : Launch} (hl : l.stackTraces = false) {a : Nat → Nat} {x1 x2 : Int} {st : z_St} {o : z_St} (h : J_X12_counts x1 x2 st = some o) : z_M 2 l yX12_counts cX12_counts 3 none 8 z_T z_N a [.ref (a 168), .int (zI x1), .int (zI x2)] st 0 o := z_of hl (by decide +kernel) (Nat.le_of_ble_eq_true rfl) (fun κ hc hap he => w_X12_counts hc hap he h)
theorem dX12_learn_0 : decode cX12_learn 0 = .ok (.aload_n 0, 1) := by decide +kernel
theorem dX12_learn_1 : decode cX12_learn 1 = .ok (.iload_n 1, 1) := by decide +kernel
theorem dX12_learn_2 : decode cX12_learn 2 = .ok (.aload_n 0, 1) := by decide +kernel
theorem dX12_learn_3 : decode cX12_learn 3 = .ok (.getfield 69, 3) := by decide +kernel
theorem dX12_learn_6 : decode cX12_learn 6 = .ok (.invokevirtual 231, 3) := by decide +kernel
theorem dX12_learn_9 : decode cX12_learn 9 = .ok (.istore_n 2, 1) := by decide +kernel
theorem dX12_learn_10 : decode cX12_learn 10 = .ok (.aload_n 0, 1) := by decide +kernel
theorem dX12_learn_11 : decode cX12_learn 11 = .ok (.iload_n 2, 1) := by decide +kernel
theorem dX12_learn_12 : decode cX12_learn 12 = .ok (.ifCond .le 7, 3) := by decide +kernel
theorem dX12_learn_15 : decode cX12_learn 15 = .ok (.iconst 0, 1) := by decide +kernel
theorem dX12_learn_16 : decode cX12_learn 16 = .ok (.goto 4, 3) := by decide +kernel
theorem dX12_learn_19 : decode cX12_learn 19 = .ok (.iconst 1, 1) := by decide +kernel
theorem dX12_learn_20 : decode cX12_learn 20 = .ok (.invokevirtual 131, 3) := by decide +kernel
theorem dX12_learn_23 : decode cX12_learn 23 = .ok (.ifCond .eq 5, 3) := by decide +kernel
theorem dX12_learn_26 : decode cX12_learn 26 = .ok (.iconst (-1), 1) := by decide +kernel
theorem dX12_learn_27 : decode cX12_learn 27 = .ok (.ireturn, 1) := by decide +kernel
theorem dX12_learn_28 : decode cX12_learn 28 = .ok (.iconst 0, 1) := by decide +kernel
theorem dX12_learn_29 : decode cX12_learn 29 = .ok (.istore_n 3, 1) := by decide +kernel
theorem dX12_learn_30 : decode cX12_learn 30 = .ok (.iload_n 3, 1) := by decide +kernel
theorem dX12_learn_31 : decode cX12_learn 31 = .ok (.iload_n 2, 1) := by decide +kernel
theorem dX12_learn_32 : decode cX12_learn 32 = .ok (.if_icmp .gt 44, 3) := by decide +kernel
theorem dX12_learn_35 : decode cX12_learn 35 = .ok (.aload_n 0, 1) := by decide +kernel
theorem dX12_learn_36 : decode cX12_learn 36 = .ok (.iload_n 3, 1) := by decide +kernel
theorem dX12_learn_37 : decode cX12_learn 37 = .ok (.ifCond .ne 7, 3) := by decide +kernel
theorem dX12_learn_40 : decode cX12_learn 40 = .ok (.iconst 5, 1) := by decide +kernel
theorem dX12_learn_41 : decode cX12_learn 41 = .ok (.goto 11, 3) := by decide +kernel
theorem dX12_learn_44 : decode cX12_learn 44 = .ok (.aload_n 0, 1) := by decide +kernel
theorem dX12_learn_45 : decode cX12_learn 45 = .ok (.getfield 69, 3) := by decide +kernel
theorem dX12_learn_48 : decode cX12_learn 48 = .ok (.iload_n 3, 1) := by decide +kernel
theorem dX12_learn_49 : decode cX12_learn 49 = .ok (.iconst 1, 1) := by decide +kernel
theorem dX12_learn_50 : decode cX12_learn 50 = .ok (.isub, 1) := by decide +kernel
theorem dX12_learn_51 : decode cX12_learn 51 = .ok (.iaload, 1) := by decide +kernel
theorem dX12_learn_52 : decode cX12_learn 52 = .ok (.iload_n 3, 1) := by decide +kernel
theorem dX12_learn_53 : decode cX12_learn 53 = .ok (.iload_n 2, 1) := by decide +kernel
theorem dX12_learn_54 : decode cX12_learn 54 = .ok (.if_icmp .ne 7, 3) := by decide +kernel
theorem dX12_learn_57 : decode cX12_learn 57 = .ok (.iconst 5, 1) := by decide +kernel
theorem dX12_learn_58 : decode cX12_learn 58 = .ok (.goto 9, 3) := by decide +kernel
theorem dX12_learn_61 : decode cX12_learn 61 = .ok (.aload_n 0, 1) := by decide +kernel
theorem dX12_learn_62 : decode cX12_learn 62 = .ok (.getfield 69, 3) := by decide +kernel
theorem dX12_learn_65 : decode cX12_learn 65 = .ok (.iload_n 3, 1) := by decide +kernel
theorem dX12_learn_66 : decode cX12_learn 66 = .ok (.iaload, 1) := by decide +kernel
theorem dX12_learn_67 : decode cX12_learn 67 = .ok (.invokevirtual 235, 3) := by decide +kernel
theorem dX12_learn_70 : decode cX12_learn 70 = .ok (.iinc 3 1, 3) := by decide +kernel
theorem dX12_learn_73 : decode cX12_learn 73 = .ok (.goto (-43), 3) := by decide +kernel
theorem dX12_learn_76 : decode cX12_learn 76 = .ok (.aload_n 0, 1) := by decide +kernel
theorem dX12_learn_77 : decode cX12_learn 77 = .ok (.getfield 228, 3) := by decide +kernel
theorem dX12_learn_80 : decode cX12_learn 80 = .ok (.ireturn, 1) := by decide +kernel
def J_X12_learn_67 (v2 v3 s0 s1 : Int) (st : z_St) : Option ((Int × z_St) ⊕ z_St) :=
  z_b (J_X12_counts s1 s0 st) fun st6 =>
  some (.inl (v3 + 1, st6))
set_option maxRecDepth 100000 in
set_option maxHeartbeats 4000000 in
theorem w_X12_learn_67 {κ : zK} {a : Nat → Nat} {v2 v3 s0 s1 : Int} {st : z_St} {mc9 ms9 : Nat} {o : (Int × z_St) ⊕ z_St} (hc : z_C κ RX12 cX12_learn 4 11 mc9 ms9) (hap : z_AP κ a z_N) (k1 : ∀ s9 : (Int × z_St), o = .inl s9 → z_V κ z_T z_N a 0 0 30 [(0, .ref (a 168)), (2, .int (zI v2)), (3, .int (zI s9.1))] [] s9.2) (k2 : ∀ x9 : z_St, o = .inr x9 → z_V κ z_T z_N a 0 0 76 [(0, .ref (a 168))] [] x9) (h : J_X12_learn_67 v2 v3 s0 s1 st = some o) : z_V κ z_T z_N a 0 0 67 [(0, .ref (a 168)), (2, .int (zI v2)), (3, .int (zI v3))] [.int (zI s0), .int (zI s1), .ref (a 168)] st := by
  unfold J_X12_learn_67 at h
  obtain ⟨st6, hr5, h⟩ := z_b_some h
  refine z_callVV [.int (zI s1), .int (zI s0)] hc hap o_X12_counts ml_RX12_235 (fun l hl => c_X12_counts hl  hr5) (by decide) tT_168 (by decide) ⟨_, rfl, rfl⟩ rfl rfl (Nat.le_of_ble_eq_true rfl) (Nat.zero_le _) (Nat.zero_le _) dX12_learn_67 ?_
  refine z_iinc [(3, .int (zI (v3 + 1))), (0, .ref (a 168)), (2, .int (zI v2))] 2 hc dX12_learn_70 rfl (by decide) rfl ?_
  refine z_goto (tgt := 30) hc dX12_learn_73 (by decide) ?_
  refine z_sub [(0, .ref (a 168)), (2, .int (zI v2)), (3, .int (zI (v3 + 1)))] [1, 2, 0] rfl ?_
  exact k1 _ (Option.some.inj h).symm
def J_X12_learn_52 (v2 v3 s0 : Int) (st : z_St) : Option ((Int × z_St) ⊕ z_St) :=
  z_g (z32 v3 ∧ z32 v2) (if v3 = v2 then
    J_X12_learn_67 v2 v3 5 s0 st
  else
    z_g (0 ≤ v3 ∧ v3 < 4) <|
    J_X12_learn_67 v2 v3 (st 186 v3) s0 st)
set_option maxRecDepth 100000 in
set_option maxHeartbeats 4000000 in
theorem w_X12_learn_52 {κ : zK} {a : Nat → Nat} {v2 v3 s0 : Int} {st : z_St} {mc9 ms9 : Nat} {o : (Int × z_St) ⊕ z_St} (hc : z_C κ RX12 cX12_learn 4 11 mc9 ms9) (hap : z_AP κ a z_N) (k1 : ∀ s9 : (Int × z_St), o = .inl s9 → z_V κ z_T z_N a 0 0 30 [(0, .ref (a 168)), (2, .int (zI v2)), (3, .int (zI s9.1))] [] s9.2) (k2 : ∀ x9 : z_St, o = .inr x9 → z_V κ z_T z_N a 0 0 76 [(0, .ref (a 168))] [] x9) (h : J_X12_learn_52 v2 v3 s0 st = some o) : z_V κ z_T z_N a 0 0 52 [(0, .ref (a 168)), (2, .int (zI v2)), (3, .int (zI v3))] [.int (zI s0), .ref (a 168)] st := by
  unfold J_X12_learn_52 at h
  refine z_iload_n (i := 3) 2 hc dX12_learn_52 rfl rfl ?_
  refine z_iload_n (i := 2) 1 hc dX12_learn_53 rfl rfl ?_
  refine z_icmp_ne (tgt := 61) hc dX12_learn_54 (by decide) h (fun c54 h => ?_) (fun c54 h => ?_)
  · refine z_iconst hc dX12_learn_57 ?_
    refine z_goto (tgt := 67) hc dX12_learn_58 (by decide) ?_
    refine z_sub [(0, .ref (a 168)), (2, .int (zI v2)), (3, .int (zI v3))] [0, 1, 2] rfl ?_
    exact w_X12_learn_67 hc hap k1 k2 h
  · refine z_aload_n (i := 0) 0 hc dX12_learn_61 rfl rfl ?_
    refine z_getA (k' := 186) hc fl_RX12_69 tT_168 (by decide) rfl rfl dX12_learn_62 ?_
    refine z_iload_n (i := 3) 2 hc dX12_learn_65 rfl rfl ?_
    refine z_iald (kI := 186) (nI9 := 4) hc tT_186 (by decide) rfl rfl (by decide) dX12_learn_66 h (fun g7 h => ?_)
    refine z_sub [(0, .ref (a 168)), (2, .int (zI v2)), (3, .int (zI v3))] [0, 1, 2] rfl ?_
    exact w_X12_learn_67 hc hap k1 k2 h
def J_X12_learn_b30 (v2 v3 : Int) (st : z_St) : Option ((Int × z_St) ⊕ z_St) :=
  z_g (z32 v3 ∧ z32 v2) (if v2 < v3 then
    some (.inr st)
  else
    z_g (z32 v3) (if v3 = 0 then
      J_X12_learn_52 v2 v3 5 st
    else
      z_g (0 ≤ v3 - 1 ∧ v3 - 1 < 4) <|
      J_X12_learn_52 v2 v3 (st 186 (v3 - 1)) st))
set_option maxRecDepth 100000 in
set_option maxHeartbeats 4000000 in
theorem w_X12_learn_b30 {κ : zK} {a : Nat → Nat} {v2 v3 : Int} {st : z_St} {mc9 ms9 : Nat} {o : (Int × z_St) ⊕ z_St} (hc : z_C κ RX12 cX12_learn 4 11 mc9 ms9) (hap : z_AP κ a z_N) (k1 : ∀ s9 : (Int × z_St), o = .inl s9 → z_V κ z_T z_N a 0 0 30 [(0, .ref (a 168)), (2, .int (zI v2)), (3, .int (zI s9.1))] [] s9.2) (k2 : ∀ x9 : z_St, o = .inr x9 → z_V κ z_T z_N a 0 0 76 [(0, .ref (a 168))] [] x9) (h : J_X12_learn_b30 v2 v3 st = some o) : z_V κ z_T z_N a 0 0 30 [(0, .ref (a 168)), (2, .int (zI v2)), (3, .int (zI v3))] [] st := by
  unfold J_X12_learn_b30 at h
  refine z_iload_n (i := 3) 2 hc dX12_learn_30 rfl rfl ?_
  refine z_iload_n (i := 2) 1 hc dX12_learn_31 rfl rfl ?_
  refine z_icmp_gt (tgt := 76) hc dX12_learn_32 (by decide) h (fun c32 h => ?_) (fun c32 h => ?_)
  · refine z_sub [(0, .ref (a 168))] [0] rfl ?_
    exact k2 st (Option.some.inj h).symm
  · refine z_aload_n (i := 0) 0 hc dX12_learn_35 rfl rfl ?_
    refine z_iload_n (i := 3) 2 hc dX12_learn_36 rfl rfl ?_
    refine z_if_ne (tgt := 44) hc dX12_learn_37 (by decide) h (fun c37 h => ?_) (fun c37 h => ?_)
    · refine z_iconst hc dX12_learn_40 ?_
      refine z_goto (tgt := 52) hc dX12_learn_41 (by decide) ?_
      refine z_sub [(0, .ref (a 168)), (2, .int (zI v2)), (3, .int (zI v3))] [0, 1, 2] rfl ?_
      exact w_X12_learn_52 hc hap k1 k2 h
    · refine z_aload_n (i := 0) 0 hc dX12_learn_44 rfl rfl ?_
      refine z_getA (k' := 186) hc fl_RX12_69 tT_168 (by decide) rfl rfl dX12_learn_45 ?_
      refine z_iload_n (i := 3) 2 hc dX12_learn_48 rfl rfl ?_
      refine z_iconst hc dX12_learn_49 ?_
      refine z_isub hc dX12_learn_50 ?_
      refine z_iald (kI := 186) (nI9 := 4) hc tT_186 (by decide) rfl rfl (by decide) dX12_learn_51 h (fun g8 h => ?_)
      refine z_sub [(0, .ref (a 168)), (2, .int (zI v2)), (3, .int (zI v3))] [0, 1, 2] rfl ?_
      exact w_X12_learn_52 hc hap k1 k2 h
def J_X12_learn_20 (v2 s0 : Int) (st : z_St) : Option (Int × z_St) :=
  z_b (J_X12_holds s0 st) fun r3 =>
  z_g (z32 r3.1) (if r3.1 = 0 then
    z_b (z_iter z_F (fun q9 : (Int × z_St) => J_X12_learn_b30 v2 q9.1 q9.2) (0, r3.2)) fun lx9 =>
      some (lx9 168 20, lx9)
  else
    some ((-1), r3.2))
set_option maxRecDepth 100000 in
set_option maxHeartbeats 4000000 in
theorem w_X12_learn_20 {κ : zK} {a : Nat → Nat} {v2 s0 : Int} {st : z_St} {o : Int × z_St} (hc : z_C κ RX12 cX12_learn 4 11 0 0) (hap : z_AP κ a z_N) (he : z_E 0 κ (some .int) z_T z_N a o.1 o.2) (h : J_X12_learn_20 v2 s0 st = some o) : z_V κ z_T z_N a 0 0 20 [(0, .ref (a 168)), (2, .int (zI v2))] [.int (zI s0), .ref (a 168)] st := by
  unfold J_X12_learn_20 at h
  obtain ⟨r3, hr3, h⟩ := z_b_some h
  refine z_callVI [.int (zI s0)] hc hap o_X12_holds ml_RX12_131 (fun l hl => c_X12_holds hl  hr3) (by decide) tT_168 (by decide) ⟨_, rfl, rfl⟩ rfl rfl (Nat.le_of_ble_eq_true rfl) (Nat.zero_le _) (Nat.zero_le _) dX12_learn_20 ?_
  refine z_if_eq (tgt := 28) hc dX12_learn_23 (by decide) h (fun c23 h => ?_) (fun c23 h => ?_)
  · refine z_iconst hc dX12_learn_28 ?_
    refine z_istore_n (i := 3) [(3, .int (zI 0)), (0, .ref (a 168)), (2, .int (zI v2))] hc dX12_learn_29 rfl (by decide) rfl ?_
    obtain ⟨lx9, hlx9, h⟩ := z_b_some h
    refine z_sub [(0, .ref (a 168)), (2, .int (zI v2)), (3, .int (zI 0))] [1, 2, 0] rfl ?_
    refine z_loop (fun q9 : (Int × z_St) => J_X12_learn_b30 v2 q9.1 q9.2) (fun q9 : (Int × z_St) => z_V κ z_T z_N a 0 0 30 [(0, .ref (a 168)), (2, .int (zI v2)), (3, .int (zI q9.1))] [] q9.2) (fun x9 : z_St => z_V κ z_T z_N a 0 0 76 [(0, .ref (a 168))] [] x9) (fun q9 o9 hb k1 k2 => ?_) _ _ _ hlx9 ?_
    · exact w_X12_learn_b30 hc hap k1 k2 hb
    · show z_V κ z_T z_N a 0 0 76 [(0, .ref (a 168))] [] lx9
      refine z_aload_n (i := 0) 0 hc dX12_learn_76 rfl rfl ?_
      refine z_getI (kI := 168) (jI := 20) hc fl_RX12_228 tT_168 (by decide) rfl rfl rfl dX12_learn_77 ?_
      have h := Option.some.inj h
      subst h
      exact z_retI hc he dX12_learn_80
  · refine z_iconst hc dX12_learn_26 ?_
    have h := Option.some.inj h
    subst h
    exact z_retI hc he dX12_learn_27
def J_X12_learn (x1 : Int) (st : z_St) : Option (Int × z_St) :=
  z_b (J_X12_apart x1 186 st) fun r1 =>
  z_g (z32 r1.1) (if 0 < r1.1 then
    J_X12_learn_20 r1.1 0 r1.2
  else
    J_X12_learn_20 r1.1 1 r1.2)
set_option maxRecDepth 100000 in
set_option maxHeartbeats 4000000 in
theorem w_X12_learn {κ : zK} {a : Nat → Nat} {x1 : Int} {st : z_St} {o : Int × z_St} (hc : z_C κ RX12 cX12_learn 4 11 0 0) (hap : z_AP κ a z_N) (he : z_E 0 κ (some .int) z_T z_N a o.1 o.2) (h : J_X12_learn x1 st = some o) : z_V κ z_T z_N a 0 0 0 [(0, .ref (a 168)), (1, .int (zI x1))] [] st := by
  unfold J_X12_learn at h
  refine z_aload_n (i := 0) 0 hc dX12_learn_0 rfl rfl ?_
  refine z_iload_n (i := 1) 1 hc dX12_learn_1 rfl rfl ?_
  refine z_aload_n (i := 0) 0 hc dX12_learn_2 rfl rfl ?_
  refine z_getA (k' := 186) hc fl_RX12_69 tT_168 (by decide) rfl rfl dX12_learn_3 ?_
  obtain ⟨r1, hr1, h⟩ := z_b_some h
  refine z_callVI [.int (zI x1), .ref (a 186)] hc hap o_X12_apart ml_RX12_231 (fun l hl => c_X12_apart hl (z_isArr_lit (by decide) tT_186) hr1) (by decide) tT_168 (by decide) ⟨_, rfl, rfl⟩ rfl rfl (Nat.le_of_ble_eq_true rfl) (Nat.zero_le _) (Nat.zero_le _) dX12_learn_6 ?_
  refine z_istore_n (i := 2) [(2, .int (zI r1.1)), (0, .ref (a 168)), (1, .int (zI x1))] hc dX12_learn_9 rfl (by decide) rfl ?_
  refine z_aload_n (i := 0) 1 hc dX12_learn_10 rfl rfl ?_
  refine z_iload_n (i := 2) 0 hc dX12_learn_11 rfl rfl ?_
  refine z_if_le (tgt := 19) hc dX12_learn_12 (by decide) h (fun c12 h => ?_) (fun c12 h => ?_)
  · refine z_iconst hc dX12_learn_15 ?_
    refine z_goto (tgt := 20) hc dX12_learn_16 (by decide) ?_
    refine z_sub [(0, .ref (a 168)), (2, .int (zI r1.1))] [1, 0] rfl ?_
    exact w_X12_learn_20 hc hap he h
  · refine z_iconst hc dX12_learn_19 ?_
    refine z_sub [(0, .ref (a 168)), (2, .int (zI r1.1))] [1, 0] rfl ?_
    exact w_X12_learn_20 hc hap he h
set_option maxRecDepth 100000 in
set_option maxHeartbeats 4000000 in
theorem c_X12_learn {l : Launch} (hl : l.stackTraces = false) {a : Nat → Nat} {x1 : Int} {st : z_St} {o : Int × z_St} (h : J_X12_learn x1 st = some o) : z_M 0 l yX12_learn cX12_learn 4 (some .int) 11 z_T z_N a [.ref (a 168), .int (zI x1)] st o.1 o.2 := z_of hl (by decide +kernel) (Nat.le_of_ble_eq_true rfl) (fun κ hc hap he => w_X12_learn hc hap he h)
theorem dX12_back_0 : decode cX12_back 0 = .ok (.aload_n 0, 1) := by decide +kernel
theorem dX12_back_1 : decode cX12_back 1 = .ok (.aload_n 0, 1) := by decide +kernel
theorem dX12_back_2 : decode cX12_back 2 = .ok (.iload_n 1, 1) := by decide +kernel
theorem dX12_back_3 : decode cX12_back 3 = .ok (.i2l, 1) := by decide +kernel
theorem dX12_back_4 : decode cX12_back 4 = .ok (.lconst 0, 1) := by decide +kernel
theorem dX12_back_5 : decode cX12_back 5 = .ok (.ldc2_w 238, 3) := by decide +kernel
theorem dX12_back_8 : decode cX12_back 8 = .ok (.invokevirtual 116, 3) := by decide +kernel
theorem dX12_back_11 : decode cX12_back 11 = .ok (.ifCond .eq 7, 3) := by decide +kernel
theorem dX12_back_14 : decode cX12_back 14 = .ok (.iconst 0, 1) := by decide +kernel
theorem dX12_back_15 : decode cX12_back 15 = .ok (.goto 4, 3) := by decide +kernel
theorem dX12_back_18 : decode cX12_back 18 = .ok (.iconst 1, 1) := by decide +kernel
theorem dX12_back_19 : decode cX12_back 19 = .ok (.invokevirtual 131, 3) := by decide +kernel
theorem dX12_back_22 : decode cX12_back 22 = .ok (.ifCond .eq 5, 3) := by decide +kernel
theorem dX12_back_25 : decode cX12_back 25 = .ok (.iconst (-1), 1) := by decide +kernel
theorem dX12_back_26 : decode cX12_back 26 = .ok (.ireturn, 1) := by decide +kernel
theorem dX12_back_27 : decode cX12_back 27 = .ok (.aload_n 0, 1) := by decide +kernel
theorem dX12_back_28 : decode cX12_back 28 = .ok (.getfield 52, 3) := by decide +kernel
theorem dX12_back_31 : decode cX12_back 31 = .ok (.istore_n 2, 1) := by decide +kernel
theorem dX12_back_32 : decode cX12_back 32 = .ok (.aload_n 0, 1) := by decide +kernel
theorem dX12_back_33 : decode cX12_back 33 = .ok (.iload_n 1, 1) := by decide +kernel
theorem dX12_back_34 : decode cX12_back 34 = .ok (.putfield 52, 3) := by decide +kernel
theorem dX12_back_37 : decode cX12_back 37 = .ok (.iload_n 2, 1) := by decide +kernel
theorem dX12_back_38 : decode cX12_back 38 = .ok (.ireturn, 1) := by decide +kernel
def J_X12_back_19 (v1 s0 : Int) (st : z_St) : Option (Int × z_St) :=
  z_b (J_X12_holds s0 st) fun r3 =>
  z_g (z32 r3.1) (if r3.1 = 0 then
    z_let (z_up r3.2 168 21 v1) fun st5 =>
    some (r3.2 168 21, st5)
  else
    some ((-1), r3.2))
set_option maxRecDepth 100000 in
set_option maxHeartbeats 4000000 in
theorem w_X12_back_19 {κ : zK} {a : Nat → Nat} {v1 s0 : Int} {st : z_St} {o : Int × z_St} (hc : z_C κ RX12 cX12_back 3 9 0 0) (hap : z_AP κ a z_N) (he : z_E 0 κ (some .int) z_T z_N a o.1 o.2) (h : J_X12_back_19 v1 s0 st = some o) : z_V κ z_T z_N a 0 0 19 [(0, .ref (a 168)), (1, .int (zI v1))] [.int (zI s0), .ref (a 168)] st := by
  unfold J_X12_back_19 at h
  obtain ⟨r3, hr3, h⟩ := z_b_some h
  refine z_callVI [.int (zI s0)] hc hap o_X12_holds ml_RX12_131 (fun l hl => c_X12_holds hl  hr3) (by decide) tT_168 (by decide) ⟨_, rfl, rfl⟩ rfl rfl (Nat.le_of_ble_eq_true rfl) (Nat.zero_le _) (Nat.zero_le _) dX12_back_19 ?_
  refine z_if_eq (tgt := 27) hc dX12_back_22 (by decide) h (fun c22 h => ?_) (fun c22 h => ?_)
  · refine z_aload_n (i := 0) 0 hc dX12_back_27 rfl rfl ?_
    refine z_getI (kI := 168) (jI := 21) hc fl_RX12_52 tT_168 (by decide) rfl rfl rfl dX12_back_28 ?_
    refine z_istore_n (i := 2) [(2, .int (zI (r3.2 168 21))), (0, .ref (a 168)), (1, .int (zI v1))] hc dX12_back_31 rfl (by decide) rfl ?_
    refine z_aload_n (i := 0) 1 hc dX12_back_32 rfl rfl ?_
    refine z_iload_n (i := 1) 2 hc dX12_back_33 rfl rfl ?_
    refine z_putI (kI := 168) (jI := 21) hc hap fp_RX12_52 tT_168 (by decide) rfl rfl rfl dX12_back_34 h (fun st5 h => ?_)
    refine z_iload_n (i := 2) 0 hc dX12_back_37 rfl rfl ?_
    have h := Option.some.inj h
    subst h
    exact z_retI hc he dX12_back_38
  · refine z_iconst hc dX12_back_25 ?_
    have h := Option.some.inj h
    subst h
    exact z_retI hc he dX12_back_26
def J_X12_back (x1 : Int) (st : z_St) : Option (Int × z_St) :=
  z_g (z32 x1) <|
  z_b (J_X12_in x1 0 99999 st) fun r1 =>
  z_g (z32 r1) (if r1 = 0 then
    J_X12_back_19 x1 1 st
  else
    J_X12_back_19 x1 0 st)
set_option maxRecDepth 100000 in
set_option maxHeartbeats 4000000 in
theorem w_X12_back {κ : zK} {a : Nat → Nat} {x1 : Int} {st : z_St} {o : Int × z_St} (hc : z_C κ RX12 cX12_back 3 9 0 0) (hap : z_AP κ a z_N) (he : z_E 0 κ (some .int) z_T z_N a o.1 o.2) (h : J_X12_back x1 st = some o) : z_V κ z_T z_N a 0 0 0 [(0, .ref (a 168)), (1, .int (zI x1))] [] st := by
  unfold J_X12_back at h
  refine z_aload_n (i := 0) 0 hc dX12_back_0 rfl rfl ?_
  refine z_aload_n (i := 0) 0 hc dX12_back_1 rfl rfl ?_
  refine z_iload_n (i := 1) 1 hc dX12_back_2 rfl rfl ?_
  refine z_i2l hc dX12_back_3 h (fun h => ?_)
  refine z_lconst 0 hc dX12_back_4 rfl ?_
  refine z_ldc2 99999 hc kc_RX12_238 dX12_back_5 rfl ?_
  obtain ⟨r1, hr1, h⟩ := z_b_some h
  refine z_callVI [.long (zJ x1), .long (zJ 0), .long (zJ 99999)] hc hap o_X12_in ml_RX12_116 (fun l hl => c_X12_in hl  hr1) (by decide) tT_168 (by decide) ⟨_, rfl, rfl⟩ rfl rfl (Nat.le_of_ble_eq_true rfl) (Nat.zero_le _) (Nat.zero_le _) dX12_back_8 ?_
  refine z_if_eq (tgt := 18) hc dX12_back_11 (by decide) h (fun c11 h => ?_) (fun c11 h => ?_)
  · refine z_iconst hc dX12_back_18 ?_
    refine z_sub [(0, .ref (a 168)), (1, .int (zI x1))] [0, 1] rfl ?_
    exact w_X12_back_19 hc hap he h
  · refine z_iconst hc dX12_back_14 ?_
    refine z_goto (tgt := 19) hc dX12_back_15 (by decide) ?_
    refine z_sub [(0, .ref (a 168)), (1, .int (zI x1))] [0, 1] rfl ?_
    exact w_X12_back_19 hc hap he h
set_option maxRecDepth 100000 in
set_option maxHeartbeats 4000000 in
theorem c_X12_back {l : Launch} (hl : l.stackTraces = false) {a : Nat → Nat} {x1 : Int} {st : z_St} {o : Int × z_St} (h : J_X12_back x1 st = some o) : z_M 0 l yX12_back cX12_back 3 (some .int) 9 z_T z_N a [.ref (a 168), .int (zI x1)] st o.1 o.2 := z_of hl (by decide +kernel) (Nat.le_of_ble_eq_true rfl) (fun κ hc hap he => w_X12_back hc hap he h)
theorem dX12_factor_0 : decode cX12_factor 0 = .ok (.aload_n 0, 1) := by decide +kernel
theorem dX12_factor_1 : decode cX12_factor 1 = .ok (.aload_n 0, 1) := by decide +kernel
theorem dX12_factor_2 : decode cX12_factor 2 = .ok (.iload_n 1, 1) := by decide +kernel
theorem dX12_factor_3 : decode cX12_factor 3 = .ok (.i2l, 1) := by decide +kernel
theorem dX12_factor_4 : decode cX12_factor 4 = .ok (.lconst 0, 1) := by decide +kernel
theorem dX12_factor_5 : decode cX12_factor 5 = .ok (.ldc2_w 162, 3) := by decide +kernel
theorem dX12_factor_8 : decode cX12_factor 8 = .ok (.invokevirtual 116, 3) := by decide +kernel
theorem dX12_factor_11 : decode cX12_factor 11 = .ok (.ifCond .eq 7, 3) := by decide +kernel
theorem dX12_factor_14 : decode cX12_factor 14 = .ok (.iconst 0, 1) := by decide +kernel
theorem dX12_factor_15 : decode cX12_factor 15 = .ok (.goto 4, 3) := by decide +kernel
theorem dX12_factor_18 : decode cX12_factor 18 = .ok (.iconst 1, 1) := by decide +kernel
theorem dX12_factor_19 : decode cX12_factor 19 = .ok (.invokevirtual 131, 3) := by decide +kernel
theorem dX12_factor_22 : decode cX12_factor 22 = .ok (.ifCond .eq 5, 3) := by decide +kernel
theorem dX12_factor_25 : decode cX12_factor 25 = .ok (.iconst (-1), 1) := by decide +kernel
theorem dX12_factor_26 : decode cX12_factor 26 = .ok (.ireturn, 1) := by decide +kernel
theorem dX12_factor_27 : decode cX12_factor 27 = .ok (.aload_n 0, 1) := by decide +kernel
theorem dX12_factor_28 : decode cX12_factor 28 = .ok (.getfield 56, 3) := by decide +kernel
theorem dX12_factor_31 : decode cX12_factor 31 = .ok (.istore_n 2, 1) := by decide +kernel
theorem dX12_factor_32 : decode cX12_factor 32 = .ok (.aload_n 0, 1) := by decide +kernel
theorem dX12_factor_33 : decode cX12_factor 33 = .ok (.iload_n 1, 1) := by decide +kernel
theorem dX12_factor_34 : decode cX12_factor 34 = .ok (.putfield 56, 3) := by decide +kernel
theorem dX12_factor_37 : decode cX12_factor 37 = .ok (.iload_n 2, 1) := by decide +kernel
theorem dX12_factor_38 : decode cX12_factor 38 = .ok (.ireturn, 1) := by decide +kernel
def J_X12_factor_19 (v1 s0 : Int) (st : z_St) : Option (Int × z_St) :=
  z_b (J_X12_holds s0 st) fun r3 =>
  z_g (z32 r3.1) (if r3.1 = 0 then
    z_let (z_up r3.2 168 22 v1) fun st5 =>
    some (r3.2 168 22, st5)
  else
    some ((-1), r3.2))
set_option maxRecDepth 100000 in
set_option maxHeartbeats 4000000 in
theorem w_X12_factor_19 {κ : zK} {a : Nat → Nat} {v1 s0 : Int} {st : z_St} {o : Int × z_St} (hc : z_C κ RX12 cX12_factor 3 9 0 0) (hap : z_AP κ a z_N) (he : z_E 0 κ (some .int) z_T z_N a o.1 o.2) (h : J_X12_factor_19 v1 s0 st = some o) : z_V κ z_T z_N a 0 0 19 [(0, .ref (a 168)), (1, .int (zI v1))] [.int (zI s0), .ref (a 168)] st := by
  unfold J_X12_factor_19 at h
  obtain ⟨r3, hr3, h⟩ := z_b_some h
  refine z_callVI [.int (zI s0)] hc hap o_X12_holds ml_RX12_131 (fun l hl => c_X12_holds hl  hr3) (by decide) tT_168 (by decide) ⟨_, rfl, rfl⟩ rfl rfl (Nat.le_of_ble_eq_true rfl) (Nat.zero_le _) (Nat.zero_le _) dX12_factor_19 ?_
  refine z_if_eq (tgt := 27) hc dX12_factor_22 (by decide) h (fun c22 h => ?_) (fun c22 h => ?_)
  · refine z_aload_n (i := 0) 0 hc dX12_factor_27 rfl rfl ?_
    refine z_getI (kI := 168) (jI := 22) hc fl_RX12_56 tT_168 (by decide) rfl rfl rfl dX12_factor_28 ?_
    refine z_istore_n (i := 2) [(2, .int (zI (r3.2 168 22))), (0, .ref (a 168)), (1, .int (zI v1))] hc dX12_factor_31 rfl (by decide) rfl ?_
    refine z_aload_n (i := 0) 1 hc dX12_factor_32 rfl rfl ?_
    refine z_iload_n (i := 1) 2 hc dX12_factor_33 rfl rfl ?_
    refine z_putI (kI := 168) (jI := 22) hc hap fp_RX12_56 tT_168 (by decide) rfl rfl rfl dX12_factor_34 h (fun st5 h => ?_)
    refine z_iload_n (i := 2) 0 hc dX12_factor_37 rfl rfl ?_
    have h := Option.some.inj h
    subst h
    exact z_retI hc he dX12_factor_38
  · refine z_iconst hc dX12_factor_25 ?_
    have h := Option.some.inj h
    subst h
    exact z_retI hc he dX12_factor_26
def J_X12_factor (x1 : Int) (st : z_St) : Option (Int × z_St) :=
  z_g (z32 x1) <|
  z_b (J_X12_in x1 0 99 st) fun r1 =>
  z_g (z32 r1) (if r1 = 0 then
    J_X12_factor_19 x1 1 st
  else
    J_X12_factor_19 x1 0 st)
set_option maxRecDepth 100000 in
set_option maxHeartbeats 4000000 in
theorem w_X12_factor {κ : zK} {a : Nat → Nat} {x1 : Int} {st : z_St} {o : Int × z_St} (hc : z_C κ RX12 cX12_factor 3 9 0 0) (hap : z_AP κ a z_N) (he : z_E 0 κ (some .int) z_T z_N a o.1 o.2) (h : J_X12_factor x1 st = some o) : z_V κ z_T z_N a 0 0 0 [(0, .ref (a 168)), (1, .int (zI x1))] [] st := by
  unfold J_X12_factor at h
  refine z_aload_n (i := 0) 0 hc dX12_factor_0 rfl rfl ?_
  refine z_aload_n (i := 0) 0 hc dX12_factor_1 rfl rfl ?_
  refine z_iload_n (i := 1) 1 hc dX12_factor_2 rfl rfl ?_
  refine z_i2l hc dX12_factor_3 h (fun h => ?_)
  refine z_lconst 0 hc dX12_factor_4 rfl ?_
  refine z_ldc2 99 hc kc_RX12_162 dX12_factor_5 rfl ?_
  obtain ⟨r1, hr1, h⟩ := z_b_some h
  refine z_callVI [.long (zJ x1), .long (zJ 0), .long (zJ 99)] hc hap o_X12_in ml_RX12_116 (fun l hl => c_X12_in hl  hr1) (by decide) tT_168 (by decide) ⟨_, rfl, rfl⟩ rfl rfl (Nat.le_of_ble_eq_true rfl) (Nat.zero_le _) (Nat.zero_le _) dX12_factor_8 ?_
  refine z_if_eq (tgt := 18) hc dX12_factor_11 (by decide) h (fun c11 h => ?_) (fun c11 h => ?_)
  · refine z_iconst hc dX12_factor_18 ?_
    refine z_sub [(0, .ref (a 168)), (1, .int (zI x1))] [0, 1] rfl ?_
    exact w_X12_factor_19 hc hap he h
  · refine z_iconst hc dX12_factor_14 ?_
    refine z_goto (tgt := 19) hc dX12_factor_15 (by decide) ?_
    refine z_sub [(0, .ref (a 168)), (1, .int (zI x1))] [0, 1] rfl ?_
    exact w_X12_factor_19 hc hap he h
set_option maxRecDepth 100000 in
set_option maxHeartbeats 4000000 in
theorem c_X12_factor {l : Launch} (hl : l.stackTraces = false) {a : Nat → Nat} {x1 : Int} {st : z_St} {o : Int × z_St} (h : J_X12_factor x1 st = some o) : z_M 0 l yX12_factor cX12_factor 3 (some .int) 9 z_T z_N a [.ref (a 168), .int (zI x1)] st o.1 o.2 := z_of hl (by decide +kernel) (Nat.le_of_ble_eq_true rfl) (fun κ hc hap he => w_X12_factor hc hap he h)
theorem dX12_isEither_0 : decode cX12_isEither 0 = .ok (.iload_n 1, 1) := by decide +kernel
theorem dX12_isEither_1 : decode cX12_isEither 1 = .ok (.iconst (-1), 1) := by decide +kernel
theorem dX12_isEither_2 : decode cX12_isEither 2 = .ok (.if_icmp .eq 11, 3) := by decide +kernel
theorem dX12_isEither_5 : decode cX12_isEither 5 = .ok (.aload_n 0, 1) := by decide +kernel
theorem dX12_isEither_6 : decode cX12_isEither 6 = .ok (.iload_n 1, 1) := by decide +kernel
theorem dX12_isEither_7 : decode cX12_isEither 7 = .ok (.invokevirtual 195, 3) := by decide +kernel
theorem dX12_isEither_10 : decode cX12_isEither 10 = .ok (.ifCond .eq 7, 3) := by decide +kernel
theorem dX12_isEither_13 : decode cX12_isEither 13 = .ok (.iconst 1, 1) := by decide +kernel
theorem dX12_isEither_14 : decode cX12_isEither 14 = .ok (.goto 4, 3) := by decide +kernel
theorem dX12_isEither_17 : decode cX12_isEither 17 = .ok (.iconst 0, 1) := by decide +kernel
theorem dX12_isEither_18 : decode cX12_isEither 18 = .ok (.ireturn, 1) := by decide +kernel
def J_X12_isEither_18 (s0 : Int) (st : z_St) : Option (Int) :=
  z_g (s0 = 0 ∨ s0 = 1) <|
  some s0
set_option maxRecDepth 100000 in
set_option maxHeartbeats 4000000 in
theorem w_X12_isEither_18 {κ : zK} {a : Nat → Nat} {s0 : Int} {st : z_St} {o : Int} (hc : z_C κ RX12 cX12_isEither 2 10 0 0) (hap : z_AP κ a z_N) (he : z_E 0 κ (some .boolean) z_T z_N a o st) (h : J_X12_isEither_18 s0 st = some o) : z_V κ z_T z_N a 0 0 18 [] [.int (zI s0)] st := by
  unfold J_X12_isEither_18 at h
  obtain ⟨hz, h⟩ := z_g_some h
  have h := Option.some.inj h
  subst h
  exact z_retZ hc he hz dX12_isEither_18
def J_X12_isEither_13 (st : z_St) : Option (Int) :=
  J_X12_isEither_18 1 st
set_option maxRecDepth 100000 in
set_option maxHeartbeats 4000000 in
theorem w_X12_isEither_13 {κ : zK} {a : Nat → Nat} {st : z_St} {o : Int} (hc : z_C κ RX12 cX12_isEither 2 10 0 0) (hap : z_AP κ a z_N) (he : z_E 0 κ (some .boolean) z_T z_N a o st) (h : J_X12_isEither_13 st = some o) : z_V κ z_T z_N a 0 0 13 [] [] st := by
  unfold J_X12_isEither_13 at h
  refine z_iconst hc dX12_isEither_13 ?_
  refine z_goto (tgt := 18) hc dX12_isEither_14 (by decide) ?_
  refine z_sub [] [] rfl ?_
  exact w_X12_isEither_18 hc hap he h
def J_X12_isEither (x1 : Int) (st : z_St) : Option (Int) :=
  z_g (z32 x1 ∧ z32 (-1)) (if x1 = (-1) then
    J_X12_isEither_13 st
  else
    z_b (J_X12_isWord x1 st) fun r1 =>
    z_g (z32 r1) (if r1 = 0 then
      J_X12_isEither_18 0 st
    else
      J_X12_isEither_13 st))
set_option maxRecDepth 100000 in
set_option maxHeartbeats 4000000 in
theorem w_X12_isEither {κ : zK} {a : Nat → Nat} {x1 : Int} {st : z_St} {o : Int} (hc : z_C κ RX12 cX12_isEither 2 10 0 0) (hap : z_AP κ a z_N) (he : z_E 0 κ (some .boolean) z_T z_N a o st) (h : J_X12_isEither x1 st = some o) : z_V κ z_T z_N a 0 0 0 [(0, .ref (a 168)), (1, .int (zI x1))] [] st := by
  unfold J_X12_isEither at h
  refine z_iload_n (i := 1) 1 hc dX12_isEither_0 rfl rfl ?_
  refine z_iconst hc dX12_isEither_1 ?_
  refine z_icmp_eq (tgt := 13) hc dX12_isEither_2 (by decide) h (fun c2 h => ?_) (fun c2 h => ?_)
  · refine z_sub [] [] rfl ?_
    exact w_X12_isEither_13 hc hap he h
  · refine z_aload_n (i := 0) 0 hc dX12_isEither_5 rfl rfl ?_
    refine z_iload_n (i := 1) 1 hc dX12_isEither_6 rfl rfl ?_
    obtain ⟨r1, hr1, h⟩ := z_b_some h
    refine z_callVI [.int (zI x1)] hc hap o_X12_isWord ml_RX12_195 (fun l hl => c_X12_isWord hl  hr1) (by decide) tT_168 (by decide) ⟨_, rfl, rfl⟩ rfl rfl (Nat.le_of_ble_eq_true rfl) (Nat.zero_le _) (Nat.zero_le _) dX12_isEither_7 ?_
    refine z_if_eq (tgt := 17) hc dX12_isEither_10 (by decide) h (fun c10 h => ?_) (fun c10 h => ?_)
    · refine z_iconst hc dX12_isEither_17 ?_
      refine z_sub [] [] rfl ?_
      exact w_X12_isEither_18 hc hap he h
    · refine z_sub [] [] rfl ?_
      exact w_X12_isEither_13 hc hap he h
set_option maxRecDepth 100000 in
set_option maxHeartbeats 4000000 in
theorem c_X12_isEither {l : Launch} (hl : l.stackTraces = false) {a : Nat → Nat} {x1 : Int} {st : z_St} {o : Int} (h : J_X12_isEither x1 st = some o) : z_M 0 l yX12_isEither cX12_isEither 2 (some .boolean) 10 z_T z_N a [.ref (a 168), .int (zI x1)] st o st := z_of hl (by decide +kernel) (Nat.le_of_ble_eq_true rfl) (fun κ hc hap he => w_X12_isEither hc hap he h)
theorem dX12_price_0 : decode cX12_price 0 = .ok (.aload_n 0, 1) := by decide +kernel
theorem dX12_price_1 : decode cX12_price 1 = .ok (.aload_n 0, 1) := by decide +kernel
theorem dX12_price_2 : decode cX12_price 2 = .ok (.iload_n 1, 1) := by decide +kernel
theorem dX12_price_3 : decode cX12_price 3 = .ok (.invokevirtual 246, 3) := by decide +kernel
theorem dX12_price_6 : decode cX12_price 6 = .ok (.ifCond .eq 15, 3) := by decide +kernel
theorem dX12_price_9 : decode cX12_price 9 = .ok (.aload_n 0, 1) := by decide +kernel
theorem dX12_price_10 : decode cX12_price 10 = .ok (.iload_n 2, 1) := by decide +kernel
theorem dX12_price_11 : decode cX12_price 11 = .ok (.invokevirtual 246, 3) := by decide +kernel
theorem dX12_price_14 : decode cX12_price 14 = .ok (.ifCond .eq 7, 3) := by decide +kernel
theorem dX12_price_17 : decode cX12_price 17 = .ok (.iconst 0, 1) := by decide +kernel
theorem dX12_price_18 : decode cX12_price 18 = .ok (.goto 4, 3) := by decide +kernel
theorem dX12_price_21 : decode cX12_price 21 = .ok (.iconst 1, 1) := by decide +kernel
theorem dX12_price_22 : decode cX12_price 22 = .ok (.invokevirtual 131, 3) := by decide +kernel
theorem dX12_price_25 : decode cX12_price 25 = .ok (.ifCond .eq 7, 3) := by decide +kernel
theorem dX12_price_28 : decode cX12_price 28 = .ok (.ldc2_w 145, 3) := by decide +kernel
theorem dX12_price_31 : decode cX12_price 31 = .ok (.lreturn, 1) := by decide +kernel
theorem dX12_price_32 : decode cX12_price 32 = .ok (.aload_n 0, 1) := by decide +kernel
theorem dX12_price_33 : decode cX12_price 33 = .ok (.iload_n 1, 1) := by decide +kernel
theorem dX12_price_34 : decode cX12_price 34 = .ok (.ifCond .ge 7, 3) := by decide +kernel
theorem dX12_price_37 : decode cX12_price 37 = .ok (.iconst 5, 1) := by decide +kernel
theorem dX12_price_38 : decode cX12_price 38 = .ok (.goto 4, 3) := by decide +kernel
theorem dX12_price_41 : decode cX12_price 41 = .ok (.iload_n 1, 1) := by decide +kernel
theorem dX12_price_42 : decode cX12_price 42 = .ok (.iload_n 2, 1) := by decide +kernel
theorem dX12_price_43 : decode cX12_price 43 = .ok (.ifCond .ge 7, 3) := by decide +kernel
theorem dX12_price_46 : decode cX12_price 46 = .ok (.iconst 5, 1) := by decide +kernel
theorem dX12_price_47 : decode cX12_price 47 = .ok (.goto 4, 3) := by decide +kernel
theorem dX12_price_50 : decode cX12_price 50 = .ok (.iload_n 2, 1) := by decide +kernel
theorem dX12_price_51 : decode cX12_price 51 = .ok (.invokevirtual 249, 3) := by decide +kernel
theorem dX12_price_54 : decode cX12_price 54 = .ok (.lreturn, 1) := by decide +kernel
def J_X12_price_51 (s0 s1 : Int) (st : z_St) : Option (Int × z_St) :=
  z_b (J_X12_priceOf s1 s0 st) fun r5 =>
  some (r5, st)
set_option maxRecDepth 100000 in
set_option maxHeartbeats 4000000 in
theorem w_X12_price_51 {κ : zK} {a : Nat → Nat} {s0 s1 : Int} {st : z_St} {o : Int × z_St} (hc : z_C κ RX12 cX12_price 3 11 0 0) (hap : z_AP κ a z_N) (he : z_E 1 κ (some .long) z_T z_N a o.1 o.2) (h : J_X12_price_51 s0 s1 st = some o) : z_V κ z_T z_N a 0 0 51 [] [.int (zI s0), .int (zI s1), .ref (a 168)] st := by
  unfold J_X12_price_51 at h
  obtain ⟨r5, hr5, h⟩ := z_b_some h
  refine z_callVJ [.int (zI s1), .int (zI s0)] hc hap o_X12_priceOf ml_RX12_249 (fun l hl => c_X12_priceOf hl  hr5) (by decide) tT_168 (by decide) ⟨_, rfl, rfl⟩ rfl rfl (Nat.le_of_ble_eq_true rfl) (Nat.zero_le _) (Nat.zero_le _) dX12_price_51 ?_
  have h := Option.some.inj h
  subst h
  exact z_retJ hc he dX12_price_54
def J_X12_price_42 (v2 s0 : Int) (st : z_St) : Option (Int × z_St) :=
  z_g (z32 v2) (if v2 < 0 then
    J_X12_price_51 5 s0 st
  else
    J_X12_price_51 v2 s0 st)
set_option maxRecDepth 100000 in
set_option maxHeartbeats 4000000 in
theorem w_X12_price_42 {κ : zK} {a : Nat → Nat} {v2 s0 : Int} {st : z_St} {o : Int × z_St} (hc : z_C κ RX12 cX12_price 3 11 0 0) (hap : z_AP κ a z_N) (he : z_E 1 κ (some .long) z_T z_N a o.1 o.2) (h : J_X12_price_42 v2 s0 st = some o) : z_V κ z_T z_N a 0 0 42 [(2, .int (zI v2))] [.int (zI s0), .ref (a 168)] st := by
  unfold J_X12_price_42 at h
  refine z_iload_n (i := 2) 0 hc dX12_price_42 rfl rfl ?_
  refine z_if_ge (tgt := 50) hc dX12_price_43 (by decide) h (fun c43 h => ?_) (fun c43 h => ?_)
  · refine z_iconst hc dX12_price_46 ?_
    refine z_goto (tgt := 51) hc dX12_price_47 (by decide) ?_
    refine z_sub [] [] rfl ?_
    exact w_X12_price_51 hc hap he h
  · refine z_iload_n (i := 2) 0 hc dX12_price_50 rfl rfl ?_
    refine z_sub [] [] rfl ?_
    exact w_X12_price_51 hc hap he h
def J_X12_price_22 (v1 v2 s0 : Int) (st : z_St) : Option (Int × z_St) :=
  z_b (J_X12_holds s0 st) fun r3 =>
  z_g (z32 r3.1) (if r3.1 = 0 then
    z_g (z32 v1) (if v1 < 0 then
      J_X12_price_42 v2 5 r3.2
    else
      J_X12_price_42 v2 v1 r3.2)
  else
    some ((-1), r3.2))
set_option maxRecDepth 100000 in
set_option maxHeartbeats 4000000 in
theorem w_X12_price_22 {κ : zK} {a : Nat → Nat} {v1 v2 s0 : Int} {st : z_St} {o : Int × z_St} (hc : z_C κ RX12 cX12_price 3 11 0 0) (hap : z_AP κ a z_N) (he : z_E 1 κ (some .long) z_T z_N a o.1 o.2) (h : J_X12_price_22 v1 v2 s0 st = some o) : z_V κ z_T z_N a 0 0 22 [(0, .ref (a 168)), (1, .int (zI v1)), (2, .int (zI v2))] [.int (zI s0), .ref (a 168)] st := by
  unfold J_X12_price_22 at h
  obtain ⟨r3, hr3, h⟩ := z_b_some h
  refine z_callVI [.int (zI s0)] hc hap o_X12_holds ml_RX12_131 (fun l hl => c_X12_holds hl  hr3) (by decide) tT_168 (by decide) ⟨_, rfl, rfl⟩ rfl rfl (Nat.le_of_ble_eq_true rfl) (Nat.zero_le _) (Nat.zero_le _) dX12_price_22 ?_
  refine z_if_eq (tgt := 32) hc dX12_price_25 (by decide) h (fun c25 h => ?_) (fun c25 h => ?_)
  · refine z_aload_n (i := 0) 0 hc dX12_price_32 rfl rfl ?_
    refine z_iload_n (i := 1) 1 hc dX12_price_33 rfl rfl ?_
    refine z_if_ge (tgt := 41) hc dX12_price_34 (by decide) h (fun c34 h => ?_) (fun c34 h => ?_)
    · refine z_iconst hc dX12_price_37 ?_
      refine z_goto (tgt := 42) hc dX12_price_38 (by decide) ?_
      refine z_sub [(2, .int (zI v2))] [2] rfl ?_
      exact w_X12_price_42 hc hap he h
    · refine z_iload_n (i := 1) 1 hc dX12_price_41 rfl rfl ?_
      refine z_sub [(2, .int (zI v2))] [2] rfl ?_
      exact w_X12_price_42 hc hap he h
  · refine z_ldc2 (-1) hc kc_RX12_145 dX12_price_28 rfl ?_
    have h := Option.some.inj h
    subst h
    exact z_retJ hc he dX12_price_31
def J_X12_price_21 (v1 v2 : Int) (st : z_St) : Option (Int × z_St) :=
  J_X12_price_22 v1 v2 1 st
set_option maxRecDepth 100000 in
set_option maxHeartbeats 4000000 in
theorem w_X12_price_21 {κ : zK} {a : Nat → Nat} {v1 v2 : Int} {st : z_St} {o : Int × z_St} (hc : z_C κ RX12 cX12_price 3 11 0 0) (hap : z_AP κ a z_N) (he : z_E 1 κ (some .long) z_T z_N a o.1 o.2) (h : J_X12_price_21 v1 v2 st = some o) : z_V κ z_T z_N a 0 0 21 [(0, .ref (a 168)), (1, .int (zI v1)), (2, .int (zI v2))] [.ref (a 168)] st := by
  unfold J_X12_price_21 at h
  refine z_iconst hc dX12_price_21 ?_
  refine z_sub [(0, .ref (a 168)), (1, .int (zI v1)), (2, .int (zI v2))] [0, 1, 2] rfl ?_
  exact w_X12_price_22 hc hap he h
def J_X12_price (x1 x2 : Int) (st : z_St) : Option (Int × z_St) :=
  z_b (J_X12_isEither x1 st) fun r1 =>
  z_g (z32 r1) (if r1 = 0 then
    J_X12_price_21 x1 x2 st
  else
    z_b (J_X12_isEither x2 st) fun r7 =>
    z_g (z32 r7) (if r7 = 0 then
      J_X12_price_21 x1 x2 st
    else
      J_X12_price_22 x1 x2 0 st))
set_option maxRecDepth 100000 in
set_option maxHeartbeats 4000000 in
theorem w_X12_price {κ : zK} {a : Nat → Nat} {x1 x2 : Int} {st : z_St} {o : Int × z_St} (hc : z_C κ RX12 cX12_price 3 11 0 0) (hap : z_AP κ a z_N) (he : z_E 1 κ (some .long) z_T z_N a o.1 o.2) (h : J_X12_price x1 x2 st = some o) : z_V κ z_T z_N a 0 0 0 [(0, .ref (a 168)), (1, .int (zI x1)), (2, .int (zI x2))] [] st := by
  unfold J_X12_price at h
  refine z_aload_n (i := 0) 0 hc dX12_price_0 rfl rfl ?_
  refine z_aload_n (i := 0) 0 hc dX12_price_1 rfl rfl ?_
  refine z_iload_n (i := 1) 1 hc dX12_price_2 rfl rfl ?_
  obtain ⟨r1, hr1, h⟩ := z_b_some h
  refine z_callVI [.int (zI x1)] hc hap o_X12_isEither ml_RX12_246 (fun l hl => c_X12_isEither hl  hr1) (by decide) tT_168 (by decide) ⟨_, rfl, rfl⟩ rfl rfl (Nat.le_of_ble_eq_true rfl) (Nat.zero_le _) (Nat.zero_le _) dX12_price_3 ?_
  refine z_if_eq (tgt := 21) hc dX12_price_6 (by decide) h (fun c6 h => ?_) (fun c6 h => ?_)
  · refine z_sub [(0, .ref (a 168)), (1, .int (zI x1)), (2, .int (zI x2))] [0, 1, 2] rfl ?_
    exact w_X12_price_21 hc hap he h
  · refine z_aload_n (i := 0) 0 hc dX12_price_9 rfl rfl ?_
    refine z_iload_n (i := 2) 2 hc dX12_price_10 rfl rfl ?_
    obtain ⟨r7, hr7, h⟩ := z_b_some h
    refine z_callVI [.int (zI x2)] hc hap o_X12_isEither ml_RX12_246 (fun l hl => c_X12_isEither hl  hr7) (by decide) tT_168 (by decide) ⟨_, rfl, rfl⟩ rfl rfl (Nat.le_of_ble_eq_true rfl) (Nat.zero_le _) (Nat.zero_le _) dX12_price_11 ?_
    refine z_if_eq (tgt := 21) hc dX12_price_14 (by decide) h (fun c14 h => ?_) (fun c14 h => ?_)
    · refine z_sub [(0, .ref (a 168)), (1, .int (zI x1)), (2, .int (zI x2))] [0, 1, 2] rfl ?_
      exact w_X12_price_21 hc hap he h
    · refine z_iconst hc dX12_price_17 ?_
      refine z_goto (tgt := 22) hc dX12_price_18 (by decide) ?_
      refine z_sub [(0, .ref (a 168)), (1, .int (zI x1)), (2, .int (zI x2))] [0, 1, 2] rfl ?_
      exact w_X12_price_22 hc hap he h
set_option maxRecDepth 100000 in
set_option maxHeartbeats 4000000 in
theorem c_X12_price {l : Launch} (hl : l.stackTraces = false) {a : Nat → Nat} {x1 x2 : Int} {st : z_St} {o : Int × z_St} (h : J_X12_price x1 x2 st = some o) : z_M 1 l yX12_price cX12_price 3 (some .long) 11 z_T z_N a [.ref (a 168), .int (zI x1), .int (zI x2)] st o.1 o.2 := z_of hl (by decide +kernel) (Nat.le_of_ble_eq_true rfl) (fun κ hc hap he => w_X12_price hc hap he h)
theorem dX12_weight_0 : decode cX12_weight 0 = .ok (.aload_n 0, 1) := by decide +kernel
theorem dX12_weight_1 : decode cX12_weight 1 = .ok (.iload_n 1, 1) := by decide +kernel
theorem dX12_weight_2 : decode cX12_weight 2 = .ok (.aload_n 0, 1) := by decide +kernel
theorem dX12_weight_3 : decode cX12_weight 3 = .ok (.getfield 69, 3) := by decide +kernel
theorem dX12_weight_6 : decode cX12_weight 6 = .ok (.invokevirtual 231, 3) := by decide +kernel
theorem dX12_weight_9 : decode cX12_weight 9 = .ok (.istore_n 2, 1) := by decide +kernel
theorem dX12_weight_10 : decode cX12_weight 10 = .ok (.aload_n 0, 1) := by decide +kernel
theorem dX12_weight_11 : decode cX12_weight 11 = .ok (.iload_n 2, 1) := by decide +kernel
theorem dX12_weight_12 : decode cX12_weight 12 = .ok (.ifCond .le 7, 3) := by decide +kernel
theorem dX12_weight_15 : decode cX12_weight 15 = .ok (.iconst 0, 1) := by decide +kernel
theorem dX12_weight_16 : decode cX12_weight 16 = .ok (.goto 4, 3) := by decide +kernel
theorem dX12_weight_19 : decode cX12_weight 19 = .ok (.iconst 1, 1) := by decide +kernel
theorem dX12_weight_20 : decode cX12_weight 20 = .ok (.invokevirtual 131, 3) := by decide +kernel
theorem dX12_weight_23 : decode cX12_weight 23 = .ok (.ifCond .eq 7, 3) := by decide +kernel
theorem dX12_weight_26 : decode cX12_weight 26 = .ok (.ldc2_w 145, 3) := by decide +kernel
theorem dX12_weight_29 : decode cX12_weight 29 = .ok (.lreturn, 1) := by decide +kernel
theorem dX12_weight_30 : decode cX12_weight 30 = .ok (.aload_n 0, 1) := by decide +kernel
theorem dX12_weight_31 : decode cX12_weight 31 = .ok (.invokevirtual 218, 3) := by decide +kernel
theorem dX12_weight_34 : decode cX12_weight 34 = .ok (.aload_n 0, 1) := by decide +kernel
theorem dX12_weight_35 : decode cX12_weight 35 = .ok (.aload_n 0, 1) := by decide +kernel
theorem dX12_weight_36 : decode cX12_weight 36 = .ok (.iload_n 2, 1) := by decide +kernel
theorem dX12_weight_37 : decode cX12_weight 37 = .ok (.invokevirtual 259, 3) := by decide +kernel
theorem dX12_weight_40 : decode cX12_weight 40 = .ok (.invokevirtual 224, 3) := by decide +kernel
theorem dX12_weight_43 : decode cX12_weight 43 = .ok (.lreturn, 1) := by decide +kernel
def J_X12_weight_20 (v2 s0 : Int) (st : z_St) : Option (Int × z_St) :=
  z_b (J_X12_holds s0 st) fun r3 =>
  z_g (z32 r3.1) (if r3.1 = 0 then
    z_b (J_X12_laysTable r3.2) fun st6 =>
    z_b (J_X12_weightOf v2 st6) fun r7 =>
    z_b (J_X12_told r7.1 r7.2) fun r9 =>
    some (r9, r7.2)
  else
    some ((-1), r3.2))
set_option maxRecDepth 100000 in
set_option maxHeartbeats 4000000 in
theorem w_X12_weight_20 {κ : zK} {a : Nat → Nat} {v2 s0 : Int} {st : z_St} {o : Int × z_St} (hc : z_C κ RX12 cX12_weight 3 12 0 0) (hap : z_AP κ a z_N) (he : z_E 1 κ (some .long) z_T z_N a o.1 o.2) (h : J_X12_weight_20 v2 s0 st = some o) : z_V κ z_T z_N a 0 0 20 [(0, .ref (a 168)), (2, .int (zI v2))] [.int (zI s0), .ref (a 168)] st := by
  unfold J_X12_weight_20 at h
  obtain ⟨r3, hr3, h⟩ := z_b_some h
  refine z_callVI [.int (zI s0)] hc hap o_X12_holds ml_RX12_131 (fun l hl => c_X12_holds hl  hr3) (by decide) tT_168 (by decide) ⟨_, rfl, rfl⟩ rfl rfl (Nat.le_of_ble_eq_true rfl) (Nat.zero_le _) (Nat.zero_le _) dX12_weight_20 ?_
  refine z_if_eq (tgt := 30) hc dX12_weight_23 (by decide) h (fun c23 h => ?_) (fun c23 h => ?_)
  · refine z_aload_n (i := 0) 0 hc dX12_weight_30 rfl rfl ?_
    obtain ⟨st6, hr5, h⟩ := z_b_some h
    refine z_callVV [] hc hap o_X12_laysTable ml_RX12_218 (fun l hl => c_X12_laysTable hl  hr5) (by decide) tT_168 (by decide) ⟨_, rfl, rfl⟩ rfl rfl (Nat.le_of_ble_eq_true rfl) (Nat.zero_le _) (Nat.zero_le _) dX12_weight_31 ?_
    refine z_aload_n (i := 0) 0 hc dX12_weight_34 rfl rfl ?_
    refine z_aload_n (i := 0) 0 hc dX12_weight_35 rfl rfl ?_
    refine z_iload_n (i := 2) 1 hc dX12_weight_36 rfl rfl ?_
    obtain ⟨r7, hr7, h⟩ := z_b_some h
    refine z_callVJ [.int (zI v2)] hc hap o_X12_weightOf ml_RX12_259 (fun l hl => c_X12_weightOf hl  hr7) (by decide) tT_168 (by decide) ⟨_, rfl, rfl⟩ rfl rfl (Nat.le_of_ble_eq_true rfl) (Nat.zero_le _) (Nat.zero_le _) dX12_weight_37 ?_
    obtain ⟨r9, hr9, h⟩ := z_b_some h
    refine z_callVJ [.long (zJ r7.1)] hc hap o_X12_told ml_RX12_224 (fun l hl => c_X12_told hl  hr9) (by decide) tT_168 (by decide) ⟨_, rfl, rfl⟩ rfl rfl (Nat.le_of_ble_eq_true rfl) (Nat.zero_le _) (Nat.zero_le _) dX12_weight_40 ?_
    have h := Option.some.inj h
    subst h
    exact z_retJ hc he dX12_weight_43
  · refine z_ldc2 (-1) hc kc_RX12_145 dX12_weight_26 rfl ?_
    have h := Option.some.inj h
    subst h
    exact z_retJ hc he dX12_weight_29
def J_X12_weight (x1 : Int) (st : z_St) : Option (Int × z_St) :=
  z_b (J_X12_apart x1 186 st) fun r1 =>
  z_g (z32 r1.1) (if 0 < r1.1 then
    J_X12_weight_20 r1.1 0 r1.2
  else
    J_X12_weight_20 r1.1 1 r1.2)
set_option maxRecDepth 100000 in
set_option maxHeartbeats 4000000 in
theorem w_X12_weight {κ : zK} {a : Nat → Nat} {x1 : Int} {st : z_St} {o : Int × z_St} (hc : z_C κ RX12 cX12_weight 3 12 0 0) (hap : z_AP κ a z_N) (he : z_E 1 κ (some .long) z_T z_N a o.1 o.2) (h : J_X12_weight x1 st = some o) : z_V κ z_T z_N a 0 0 0 [(0, .ref (a 168)), (1, .int (zI x1))] [] st := by
  unfold J_X12_weight at h
  refine z_aload_n (i := 0) 0 hc dX12_weight_0 rfl rfl ?_
  refine z_iload_n (i := 1) 1 hc dX12_weight_1 rfl rfl ?_
  refine z_aload_n (i := 0) 0 hc dX12_weight_2 rfl rfl ?_
  refine z_getA (k' := 186) hc fl_RX12_69 tT_168 (by decide) rfl rfl dX12_weight_3 ?_
  obtain ⟨r1, hr1, h⟩ := z_b_some h
  refine z_callVI [.int (zI x1), .ref (a 186)] hc hap o_X12_apart ml_RX12_231 (fun l hl => c_X12_apart hl (z_isArr_lit (by decide) tT_186) hr1) (by decide) tT_168 (by decide) ⟨_, rfl, rfl⟩ rfl rfl (Nat.le_of_ble_eq_true rfl) (Nat.zero_le _) (Nat.zero_le _) dX12_weight_6 ?_
  refine z_istore_n (i := 2) [(2, .int (zI r1.1)), (0, .ref (a 168)), (1, .int (zI x1))] hc dX12_weight_9 rfl (by decide) rfl ?_
  refine z_aload_n (i := 0) 1 hc dX12_weight_10 rfl rfl ?_
  refine z_iload_n (i := 2) 0 hc dX12_weight_11 rfl rfl ?_
  refine z_if_le (tgt := 19) hc dX12_weight_12 (by decide) h (fun c12 h => ?_) (fun c12 h => ?_)
  · refine z_iconst hc dX12_weight_15 ?_
    refine z_goto (tgt := 20) hc dX12_weight_16 (by decide) ?_
    refine z_sub [(0, .ref (a 168)), (2, .int (zI r1.1))] [1, 0] rfl ?_
    exact w_X12_weight_20 hc hap he h
  · refine z_iconst hc dX12_weight_19 ?_
    refine z_sub [(0, .ref (a 168)), (2, .int (zI r1.1))] [1, 0] rfl ?_
    exact w_X12_weight_20 hc hap he h
set_option maxRecDepth 100000 in
set_option maxHeartbeats 4000000 in
theorem c_X12_weight {l : Launch} (hl : l.stackTraces = false) {a : Nat → Nat} {x1 : Int} {st : z_St} {o : Int × z_St} (h : J_X12_weight x1 st = some o) : z_M 1 l yX12_weight cX12_weight 3 (some .long) 12 z_T z_N a [.ref (a 168), .int (zI x1)] st o.1 o.2 := z_of hl (by decide +kernel) (Nat.le_of_ble_eq_true rfl) (fun κ hc hap he => w_X12_weight hc hap he h)
theorem dX12_weightAnew_0 : decode cX12_weightAnew 0 = .ok (.aload_n 0, 1) := by decide +kernel
theorem dX12_weightAnew_1 : decode cX12_weightAnew 1 = .ok (.iload_n 1, 1) := by decide +kernel
theorem dX12_weightAnew_2 : decode cX12_weightAnew 2 = .ok (.invokevirtual 263, 3) := by decide +kernel
theorem dX12_weightAnew_5 : decode cX12_weightAnew 5 = .ok (.lreturn, 1) := by decide +kernel
def J_X12_weightAnew (x1 : Int) (st : z_St) : Option (Int × z_St) :=
  z_b (J_X12_weight x1 st) fun r1 =>
  some (r1.1, r1.2)
set_option maxRecDepth 100000 in
set_option maxHeartbeats 4000000 in
theorem w_X12_weightAnew {κ : zK} {a : Nat → Nat} {x1 : Int} {st : z_St} {o : Int × z_St} (hc : z_C κ RX12 cX12_weightAnew 2 13 0 0) (hap : z_AP κ a z_N) (he : z_E 1 κ (some .long) z_T z_N a o.1 o.2) (h : J_X12_weightAnew x1 st = some o) : z_V κ z_T z_N a 0 0 0 [(0, .ref (a 168)), (1, .int (zI x1))] [] st := by
  unfold J_X12_weightAnew at h
  refine z_aload_n (i := 0) 0 hc dX12_weightAnew_0 rfl rfl ?_
  refine z_iload_n (i := 1) 1 hc dX12_weightAnew_1 rfl rfl ?_
  obtain ⟨r1, hr1, h⟩ := z_b_some h
  refine z_callVJ [.int (zI x1)] hc hap o_X12_weight ml_RX12_263 (fun l hl => c_X12_weight hl  hr1) (by decide) tT_168 (by decide) ⟨_, rfl, rfl⟩ rfl rfl (Nat.le_of_ble_eq_true rfl) (Nat.zero_le _) (Nat.zero_le _) dX12_weightAnew_2 ?_
  have h := Option.some.inj h
  subst h
  exact z_retJ hc he dX12_weightAnew_5
set_option maxRecDepth 100000 in
set_option maxHeartbeats 4000000 in
theorem c_X12_weightAnew {l : Launch} (hl : l.stackTraces = false) {a : Nat → Nat} {x1 : Int} {st : z_St} {o : Int × z_St} (h : J_X12_weightAnew x1 st = some o) : z_M 1 l yX12_weightAnew cX12_weightAnew 2 (some .long) 13 z_T z_N a [.ref (a 168), .int (zI x1)] st o.1 o.2 := z_of hl (by decide +kernel) (Nat.le_of_ble_eq_true rfl) (fun κ hc hap he => w_X12_weightAnew hc hap he h)
theorem dX12_best_0 : decode cX12_best 0 = .ok (.aload_n 0, 1) := by decide +kernel
theorem dX12_best_1 : decode cX12_best 1 = .ok (.iload_n 1, 1) := by decide +kernel
theorem dX12_best_2 : decode cX12_best 2 = .ok (.ifCond .ge 7, 3) := by decide +kernel
theorem dX12_best_5 : decode cX12_best 5 = .ok (.iconst 1, 1) := by decide +kernel
theorem dX12_best_6 : decode cX12_best 6 = .ok (.goto 4, 3) := by decide +kernel
theorem dX12_best_9 : decode cX12_best 9 = .ok (.iconst 0, 1) := by decide +kernel
theorem dX12_best_10 : decode cX12_best 10 = .ok (.invokevirtual 131, 3) := by decide +kernel
theorem dX12_best_13 : decode cX12_best 13 = .ok (.ifCond .eq 5, 3) := by decide +kernel
theorem dX12_best_16 : decode cX12_best 16 = .ok (.iconst (-1), 1) := by decide +kernel
theorem dX12_best_17 : decode cX12_best 17 = .ok (.ireturn, 1) := by decide +kernel
theorem dX12_best_18 : decode cX12_best 18 = .ok (.aload_n 0, 1) := by decide +kernel
theorem dX12_best_19 : decode cX12_best 19 = .ok (.invokevirtual 159, 3) := by decide +kernel
theorem dX12_best_22 : decode cX12_best 22 = .ok (.pop, 1) := by decide +kernel
theorem dX12_best_23 : decode cX12_best 23 = .ok (.iconst 0, 1) := by decide +kernel
theorem dX12_best_24 : decode cX12_best 24 = .ok (.istore_n 2, 1) := by decide +kernel
theorem dX12_best_25 : decode cX12_best 25 = .ok (.iload_n 2, 1) := by decide +kernel
theorem dX12_best_26 : decode cX12_best 26 = .ok (.aload_n 0, 1) := by decide +kernel
theorem dX12_best_27 : decode cX12_best 27 = .ok (.getfield 256, 3) := by decide +kernel
theorem dX12_best_30 : decode cX12_best 30 = .ok (.if_icmp .ge 102, 3) := by decide +kernel
theorem dX12_best_33 : decode cX12_best 33 = .ok (.iconst 0, 1) := by decide +kernel
theorem dX12_best_34 : decode cX12_best 34 = .ok (.istore_n 3, 1) := by decide +kernel
theorem dX12_best_35 : decode cX12_best 35 = .ok (.iconst 0, 1) := by decide +kernel
theorem dX12_best_36 : decode cX12_best 36 = .ok (.istore 4, 2) := by decide +kernel
theorem dX12_best_38 : decode cX12_best 38 = .ok (.iload 4, 2) := by decide +kernel
theorem dX12_best_40 : decode cX12_best 40 = .ok (.aload_n 0, 1) := by decide +kernel
theorem dX12_best_41 : decode cX12_best 41 = .ok (.getfield 256, 3) := by decide +kernel
theorem dX12_best_44 : decode cX12_best 44 = .ok (.if_icmp .ge 57, 3) := by decide +kernel
theorem dX12_best_47 : decode cX12_best 47 = .ok (.iload_n 3, 1) := by decide +kernel
theorem dX12_best_48 : decode cX12_best 48 = .ok (.aload_n 0, 1) := by decide +kernel
theorem dX12_best_49 : decode cX12_best 49 = .ok (.getfield 78, 3) := by decide +kernel
theorem dX12_best_52 : decode cX12_best 52 = .ok (.iload 4, 2) := by decide +kernel
theorem dX12_best_54 : decode cX12_best 54 = .ok (.laload, 1) := by decide +kernel
theorem dX12_best_55 : decode cX12_best 55 = .ok (.aload_n 0, 1) := by decide +kernel
theorem dX12_best_56 : decode cX12_best 56 = .ok (.getfield 78, 3) := by decide +kernel
theorem dX12_best_59 : decode cX12_best 59 = .ok (.iload_n 2, 1) := by decide +kernel
theorem dX12_best_60 : decode cX12_best 60 = .ok (.laload, 1) := by decide +kernel
theorem dX12_best_61 : decode cX12_best 61 = .ok (.lcmp, 1) := by decide +kernel
theorem dX12_best_62 : decode cX12_best 62 = .ok (.ifCond .lt 26, 3) := by decide +kernel
theorem dX12_best_65 : decode cX12_best 65 = .ok (.aload_n 0, 1) := by decide +kernel
theorem dX12_best_66 : decode cX12_best 66 = .ok (.getfield 78, 3) := by decide +kernel
theorem dX12_best_69 : decode cX12_best 69 = .ok (.iload 4, 2) := by decide +kernel
theorem dX12_best_71 : decode cX12_best 71 = .ok (.laload, 1) := by decide +kernel
theorem dX12_best_72 : decode cX12_best 72 = .ok (.aload_n 0, 1) := by decide +kernel
theorem dX12_best_73 : decode cX12_best 73 = .ok (.getfield 78, 3) := by decide +kernel
theorem dX12_best_76 : decode cX12_best 76 = .ok (.iload_n 2, 1) := by decide +kernel
theorem dX12_best_77 : decode cX12_best 77 = .ok (.laload, 1) := by decide +kernel
theorem dX12_best_78 : decode cX12_best 78 = .ok (.lcmp, 1) := by decide +kernel
theorem dX12_best_79 : decode cX12_best 79 = .ok (.ifCond .ne 13, 3) := by decide +kernel
theorem dX12_best_82 : decode cX12_best 82 = .ok (.iload 4, 2) := by decide +kernel
theorem dX12_best_84 : decode cX12_best 84 = .ok (.iload_n 2, 1) := by decide +kernel
theorem dX12_best_85 : decode cX12_best 85 = .ok (.if_icmp .ge 7, 3) := by decide +kernel
theorem dX12_best_88 : decode cX12_best 88 = .ok (.iconst 1, 1) := by decide +kernel
theorem dX12_best_89 : decode cX12_best 89 = .ok (.goto 4, 3) := by decide +kernel
theorem dX12_best_92 : decode cX12_best 92 = .ok (.iconst 0, 1) := by decide +kernel
theorem dX12_best_93 : decode cX12_best 93 = .ok (.iadd, 1) := by decide +kernel
theorem dX12_best_94 : decode cX12_best 94 = .ok (.istore_n 3, 1) := by decide +kernel
theorem dX12_best_95 : decode cX12_best 95 = .ok (.iinc 4 1, 3) := by decide +kernel
theorem dX12_best_98 : decode cX12_best 98 = .ok (.goto (-60), 3) := by decide +kernel
theorem dX12_best_101 : decode cX12_best 101 = .ok (.aload_n 0, 1) := by decide +kernel
theorem dX12_best_102 : decode cX12_best 102 = .ok (.getfield 78, 3) := by decide +kernel
theorem dX12_best_105 : decode cX12_best 105 = .ok (.iload_n 2, 1) := by decide +kernel
theorem dX12_best_106 : decode cX12_best 106 = .ok (.laload, 1) := by decide +kernel
theorem dX12_best_107 : decode cX12_best 107 = .ok (.ldc2_w 205, 3) := by decide +kernel
theorem dX12_best_110 : decode cX12_best 110 = .ok (.lcmp, 1) := by decide +kernel
theorem dX12_best_111 : decode cX12_best 111 = .ok (.ifCond .ge 15, 3) := by decide +kernel
theorem dX12_best_114 : decode cX12_best 114 = .ok (.iload_n 3, 1) := by decide +kernel
theorem dX12_best_115 : decode cX12_best 115 = .ok (.iload_n 1, 1) := by decide +kernel
theorem dX12_best_116 : decode cX12_best 116 = .ok (.if_icmp .ne 10, 3) := by decide +kernel
theorem dX12_best_119 : decode cX12_best 119 = .ok (.aload_n 0, 1) := by decide +kernel
theorem dX12_best_120 : decode cX12_best 120 = .ok (.getfield 81, 3) := by decide +kernel
theorem dX12_best_123 : decode cX12_best 123 = .ok (.iload_n 2, 1) := by decide +kernel
theorem dX12_best_124 : decode cX12_best 124 = .ok (.iaload, 1) := by decide +kernel
theorem dX12_best_125 : decode cX12_best 125 = .ok (.ireturn, 1) := by decide +kernel
theorem dX12_best_126 : decode cX12_best 126 = .ok (.iinc 2 1, 3) := by decide +kernel
theorem dX12_best_129 : decode cX12_best 129 = .ok (.goto (-104), 3) := by decide +kernel
theorem dX12_best_132 : decode cX12_best 132 = .ok (.iconst (-1), 1) := by decide +kernel
theorem dX12_best_133 : decode cX12_best 133 = .ok (.ireturn, 1) := by decide +kernel
def J_X12_best_93 (v1 v2 v4 s0 s1 : Int) (st : z_St) : Option ((Int × Int) ⊕ Int) :=
  some (.inl (s1 + s0, v4 + 1))
set_option maxRecDepth 100000 in
set_option maxHeartbeats 4000000 in
theorem w_X12_best_93 {κ : zK} {a : Nat → Nat} {v1 v2 v4 s0 s1 : Int} {st : z_St} {mc9 ms9 : Nat} {o : (Int × Int) ⊕ Int} (hc : z_C κ RX12 cX12_best 5 13 mc9 ms9) (hap : z_AP κ a z_N) (k1 : ∀ s9 : (Int × Int), o = .inl s9 → z_V κ z_T z_N a 0 0 38 [(0, .ref (a 168)), (1, .int (zI v1)), (2, .int (zI v2)), (3, .int (zI s9.1)), (4, .int (zI s9.2))] [] st) (k2 : ∀ x9 : Int, o = .inr x9 → z_V κ z_T z_N a 0 0 101 [(0, .ref (a 168)), (1, .int (zI v1)), (2, .int (zI v2)), (3, .int (zI x9))] [] st) (h : J_X12_best_93 v1 v2 v4 s0 s1 st = some o) : z_V κ z_T z_N a 0 0 93 [(0, .ref (a 168)), (1, .int (zI v1)), (2, .int (zI v2)), (4, .int (zI v4))] [.int (zI s0), .int (zI s1)] st := by
  unfold J_X12_best_93 at h
  refine z_iadd hc dX12_best_93 ?_
  refine z_istore_n (i := 3) [(3, .int (zI (s1 + s0))), (0, .ref (a 168)), (1, .int (zI v1)), (2, .int (zI v2)), (4, .int (zI v4))] hc dX12_best_94 rfl (by decide) rfl ?_
  refine z_iinc [(4, .int (zI (v4 + 1))), (3, .int (zI (s1 + s0))), (0, .ref (a 168)), (1, .int (zI v1)), (2, .int (zI v2))] 4 hc dX12_best_95 rfl (by decide) rfl ?_
  refine z_goto (tgt := 38) hc dX12_best_98 (by decide) ?_
  refine z_sub [(0, .ref (a 168)), (1, .int (zI v1)), (2, .int (zI v2)), (3, .int (zI (s1 + s0))), (4, .int (zI (v4 + 1)))] [2, 3, 4, 1, 0] rfl ?_
  exact k1 _ (Option.some.inj h).symm
def J_X12_best_88 (v1 v2 v4 s0 : Int) (st : z_St) : Option ((Int × Int) ⊕ Int) :=
  J_X12_best_93 v1 v2 v4 1 s0 st
set_option maxRecDepth 100000 in
set_option maxHeartbeats 4000000 in
theorem w_X12_best_88 {κ : zK} {a : Nat → Nat} {v1 v2 v4 s0 : Int} {st : z_St} {mc9 ms9 : Nat} {o : (Int × Int) ⊕ Int} (hc : z_C κ RX12 cX12_best 5 13 mc9 ms9) (hap : z_AP κ a z_N) (k1 : ∀ s9 : (Int × Int), o = .inl s9 → z_V κ z_T z_N a 0 0 38 [(0, .ref (a 168)), (1, .int (zI v1)), (2, .int (zI v2)), (3, .int (zI s9.1)), (4, .int (zI s9.2))] [] st) (k2 : ∀ x9 : Int, o = .inr x9 → z_V κ z_T z_N a 0 0 101 [(0, .ref (a 168)), (1, .int (zI v1)), (2, .int (zI v2)), (3, .int (zI x9))] [] st) (h : J_X12_best_88 v1 v2 v4 s0 st = some o) : z_V κ z_T z_N a 0 0 88 [(0, .ref (a 168)), (1, .int (zI v1)), (2, .int (zI v2)), (4, .int (zI v4))] [.int (zI s0)] st := by
  unfold J_X12_best_88 at h
  refine z_iconst hc dX12_best_88 ?_
  refine z_goto (tgt := 93) hc dX12_best_89 (by decide) ?_
  refine z_sub [(0, .ref (a 168)), (1, .int (zI v1)), (2, .int (zI v2)), (4, .int (zI v4))] [0, 1, 2, 3] rfl ?_
  exact w_X12_best_93 hc hap k1 k2 h
def J_X12_best_92 (v1 v2 v4 s0 : Int) (st : z_St) : Option ((Int × Int) ⊕ Int) :=
  J_X12_best_93 v1 v2 v4 0 s0 st
set_option maxRecDepth 100000 in
set_option maxHeartbeats 4000000 in
theorem w_X12_best_92 {κ : zK} {a : Nat → Nat} {v1 v2 v4 s0 : Int} {st : z_St} {mc9 ms9 : Nat} {o : (Int × Int) ⊕ Int} (hc : z_C κ RX12 cX12_best 5 13 mc9 ms9) (hap : z_AP κ a z_N) (k1 : ∀ s9 : (Int × Int), o = .inl s9 → z_V κ z_T z_N a 0 0 38 [(0, .ref (a 168)), (1, .int (zI v1)), (2, .int (zI v2)), (3, .int (zI s9.1)), (4, .int (zI s9.2))] [] st) (k2 : ∀ x9 : Int, o = .inr x9 → z_V κ z_T z_N a 0 0 101 [(0, .ref (a 168)), (1, .int (zI v1)), (2, .int (zI v2)), (3, .int (zI x9))] [] st) (h : J_X12_best_92 v1 v2 v4 s0 st = some o) : z_V κ z_T z_N a 0 0 92 [(0, .ref (a 168)), (1, .int (zI v1)), (2, .int (zI v2)), (4, .int (zI v4))] [.int (zI s0)] st := by
  unfold J_X12_best_92 at h
  refine z_iconst hc dX12_best_92 ?_
  refine z_sub [(0, .ref (a 168)), (1, .int (zI v1)), (2, .int (zI v2)), (4, .int (zI v4))] [0, 1, 2, 3] rfl ?_
  exact w_X12_best_93 hc hap k1 k2 h
def J_X12_best_b38 (v1 v2 v3 v4 : Int) (st : z_St) : Option ((Int × Int) ⊕ Int) :=
  z_g (z32 v4 ∧ z32 (st 168 31)) (if v4 < st 168 31 then
    z_g (0 ≤ v4 ∧ v4 < 780) <|
    z_g (0 ≤ v2 ∧ v2 < 780) <|
    z_g (z64 (st 189 v4) ∧ z64 (st 189 v2)) (if st 189 v4 < st 189 v2 then
      J_X12_best_88 v1 v2 v4 v3 st
    else
      z_g (0 ≤ v4 ∧ v4 < 780) <|
      z_g (0 ≤ v2 ∧ v2 < 780) <|
      z_g (z64 (st 189 v4) ∧ z64 (st 189 v2)) (if st 189 v4 = st 189 v2 then
        z_g (z32 v4 ∧ z32 v2) (if v4 < v2 then
          J_X12_best_88 v1 v2 v4 v3 st
        else
          J_X12_best_92 v1 v2 v4 v3 st)
      else
        J_X12_best_92 v1 v2 v4 v3 st))
  else
    some (.inr v3))
set_option maxRecDepth 100000 in
set_option maxHeartbeats 4000000 in
theorem w_X12_best_b38 {κ : zK} {a : Nat → Nat} {v1 v2 v3 v4 : Int} {st : z_St} {mc9 ms9 : Nat} {o : (Int × Int) ⊕ Int} (hc : z_C κ RX12 cX12_best 5 13 mc9 ms9) (hap : z_AP κ a z_N) (k1 : ∀ s9 : (Int × Int), o = .inl s9 → z_V κ z_T z_N a 0 0 38 [(0, .ref (a 168)), (1, .int (zI v1)), (2, .int (zI v2)), (3, .int (zI s9.1)), (4, .int (zI s9.2))] [] st) (k2 : ∀ x9 : Int, o = .inr x9 → z_V κ z_T z_N a 0 0 101 [(0, .ref (a 168)), (1, .int (zI v1)), (2, .int (zI v2)), (3, .int (zI x9))] [] st) (h : J_X12_best_b38 v1 v2 v3 v4 st = some o) : z_V κ z_T z_N a 0 0 38 [(0, .ref (a 168)), (1, .int (zI v1)), (2, .int (zI v2)), (3, .int (zI v3)), (4, .int (zI v4))] [] st := by
  unfold J_X12_best_b38 at h
  refine z_iload 4 hc dX12_best_38 rfl ?_
  refine z_aload_n (i := 0) 0 hc dX12_best_40 rfl rfl ?_
  refine z_getI (kI := 168) (jI := 31) hc fl_RX12_256 tT_168 (by decide) rfl rfl rfl dX12_best_41 ?_
  refine z_icmp_ge (tgt := 101) hc dX12_best_44 (by decide) h (fun c44 h => ?_) (fun c44 h => ?_)
  · refine z_iload_n (i := 3) 3 hc dX12_best_47 rfl rfl ?_
    refine z_aload_n (i := 0) 0 hc dX12_best_48 rfl rfl ?_
    refine z_getA (k' := 189) hc fl_RX12_78 tT_168 (by decide) rfl rfl dX12_best_49 ?_
    refine z_iload 4 hc dX12_best_52 rfl ?_
    refine z_lald (kI := 189) (nI9 := 780) hc tT_189 (by decide) rfl rfl (by decide) dX12_best_54 h (fun g5 h => ?_)
    refine z_aload_n (i := 0) 0 hc dX12_best_55 rfl rfl ?_
    refine z_getA (k' := 189) hc fl_RX12_78 tT_168 (by decide) rfl rfl dX12_best_56 ?_
    refine z_iload_n (i := 2) 2 hc dX12_best_59 rfl rfl ?_
    refine z_lald (kI := 189) (nI9 := 780) hc tT_189 (by decide) rfl rfl (by decide) dX12_best_60 h (fun g6 h => ?_)
    refine z_lcmp_lt (tgt := 88) hc dX12_best_61 dX12_best_62 (by decide) h (fun c61 h => ?_) (fun c61 h => ?_)
    · refine z_sub [(0, .ref (a 168)), (1, .int (zI v1)), (2, .int (zI v2)), (4, .int (zI v4))] [0, 1, 2, 4] rfl ?_
      exact w_X12_best_88 hc hap k1 k2 h
    · refine z_aload_n (i := 0) 0 hc dX12_best_65 rfl rfl ?_
      refine z_getA (k' := 189) hc fl_RX12_78 tT_168 (by decide) rfl rfl dX12_best_66 ?_
      refine z_iload 4 hc dX12_best_69 rfl ?_
      refine z_lald (kI := 189) (nI9 := 780) hc tT_189 (by decide) rfl rfl (by decide) dX12_best_71 h (fun g7 h => ?_)
      refine z_aload_n (i := 0) 0 hc dX12_best_72 rfl rfl ?_
      refine z_getA (k' := 189) hc fl_RX12_78 tT_168 (by decide) rfl rfl dX12_best_73 ?_
      refine z_iload_n (i := 2) 2 hc dX12_best_76 rfl rfl ?_
      refine z_lald (kI := 189) (nI9 := 780) hc tT_189 (by decide) rfl rfl (by decide) dX12_best_77 h (fun g8 h => ?_)
      refine z_lcmp_ne (tgt := 92) hc dX12_best_78 dX12_best_79 (by decide) h (fun c78 h => ?_) (fun c78 h => ?_)
      · refine z_iload 4 hc dX12_best_82 rfl ?_
        refine z_iload_n (i := 2) 2 hc dX12_best_84 rfl rfl ?_
        refine z_icmp_ge (tgt := 92) hc dX12_best_85 (by decide) h (fun c85 h => ?_) (fun c85 h => ?_)
        · refine z_sub [(0, .ref (a 168)), (1, .int (zI v1)), (2, .int (zI v2)), (4, .int (zI v4))] [0, 1, 2, 4] rfl ?_
          exact w_X12_best_88 hc hap k1 k2 h
        · refine z_sub [(0, .ref (a 168)), (1, .int (zI v1)), (2, .int (zI v2)), (4, .int (zI v4))] [0, 1, 2, 4] rfl ?_
          exact w_X12_best_92 hc hap k1 k2 h
      · refine z_sub [(0, .ref (a 168)), (1, .int (zI v1)), (2, .int (zI v2)), (4, .int (zI v4))] [0, 1, 2, 4] rfl ?_
        exact w_X12_best_92 hc hap k1 k2 h
  · refine z_sub [(0, .ref (a 168)), (1, .int (zI v1)), (2, .int (zI v2)), (3, .int (zI v3))] [0, 1, 2, 3] rfl ?_
    exact k2 v3 (Option.some.inj h).symm
def J_X12_best_126 (v1 v2 : Int) (st : z_St) : Option (Int ⊕ (Unit ⊕ Int)) :=
  some (.inl (v2 + 1))
set_option maxRecDepth 100000 in
set_option maxHeartbeats 4000000 in
theorem w_X12_best_126 {κ : zK} {a : Nat → Nat} {v1 v2 : Int} {st : z_St} {mc9 ms9 : Nat} {o : Int ⊕ (Unit ⊕ Int)} (hc : z_C κ RX12 cX12_best 5 13 mc9 ms9) (hap : z_AP κ a z_N) (k1 : ∀ s9 : Int, o = .inl s9 → z_V κ z_T z_N a 0 0 25 [(0, .ref (a 168)), (1, .int (zI v1)), (2, .int (zI s9))] [] st) (k2 : ∀ x9 : (Unit ⊕ Int), o = .inr x9 → (match x9 with | .inl y9 => z_V κ z_T z_N a 0 0 132 [] [] st | .inr y9 => z_V κ z_T z_N a 0 0 119 [(0, .ref (a 168)), (2, .int (zI y9))] [] st)) (h : J_X12_best_126 v1 v2 st = some o) : z_V κ z_T z_N a 0 0 126 [(0, .ref (a 168)), (1, .int (zI v1)), (2, .int (zI v2))] [] st := by
  unfold J_X12_best_126 at h
  refine z_iinc [(2, .int (zI (v2 + 1))), (0, .ref (a 168)), (1, .int (zI v1))] 2 hc dX12_best_126 rfl (by decide) rfl ?_
  refine z_goto (tgt := 25) hc dX12_best_129 (by decide) ?_
  refine z_sub [(0, .ref (a 168)), (1, .int (zI v1)), (2, .int (zI (v2 + 1)))] [1, 2, 0] rfl ?_
  exact k1 _ (Option.some.inj h).symm
def J_X12_best_b25 (v1 v2 : Int) (st : z_St) : Option (Int ⊕ (Unit ⊕ Int)) :=
  z_g (z32 v2 ∧ z32 (st 168 31)) (if v2 < st 168 31 then
    z_b (z_iter z_F (fun q9 : (Int × Int) => J_X12_best_b38 v1 v2 q9.1 q9.2 st) (0, 0)) fun lx9 =>
      z_g (0 ≤ v2 ∧ v2 < 780) <|
      z_g (z64 (st 189 v2) ∧ z64 1000000000000000000) (if st 189 v2 < 1000000000000000000 then
        z_g (z32 lx9 ∧ z32 v1) (if lx9 = v1 then
          some (.inr (.inr v2))
        else
          J_X12_best_126 v1 v2 st)
      else
        J_X12_best_126 v1 v2 st)
  else
    some (.inr (.inl ())))
set_option maxRecDepth 100000 in
set_option maxHeartbeats 4000000 in
theorem w_X12_best_b25 {κ : zK} {a : Nat → Nat} {v1 v2 : Int} {st : z_St} {mc9 ms9 : Nat} {o : Int ⊕ (Unit ⊕ Int)} (hc : z_C κ RX12 cX12_best 5 13 mc9 ms9) (hap : z_AP κ a z_N) (k1 : ∀ s9 : Int, o = .inl s9 → z_V κ z_T z_N a 0 0 25 [(0, .ref (a 168)), (1, .int (zI v1)), (2, .int (zI s9))] [] st) (k2 : ∀ x9 : (Unit ⊕ Int), o = .inr x9 → (match x9 with | .inl y9 => z_V κ z_T z_N a 0 0 132 [] [] st | .inr y9 => z_V κ z_T z_N a 0 0 119 [(0, .ref (a 168)), (2, .int (zI y9))] [] st)) (h : J_X12_best_b25 v1 v2 st = some o) : z_V κ z_T z_N a 0 0 25 [(0, .ref (a 168)), (1, .int (zI v1)), (2, .int (zI v2))] [] st := by
  unfold J_X12_best_b25 at h
  refine z_iload_n (i := 2) 2 hc dX12_best_25 rfl rfl ?_
  refine z_aload_n (i := 0) 0 hc dX12_best_26 rfl rfl ?_
  refine z_getI (kI := 168) (jI := 31) hc fl_RX12_256 tT_168 (by decide) rfl rfl rfl dX12_best_27 ?_
  refine z_icmp_ge (tgt := 132) hc dX12_best_30 (by decide) h (fun c30 h => ?_) (fun c30 h => ?_)
  · refine z_iconst hc dX12_best_33 ?_
    refine z_istore_n (i := 3) [(3, .int (zI 0)), (0, .ref (a 168)), (1, .int (zI v1)), (2, .int (zI v2))] hc dX12_best_34 rfl (by decide) rfl ?_
    refine z_iconst hc dX12_best_35 ?_
    refine z_istore [(4, .int (zI 0)), (3, .int (zI 0)), (0, .ref (a 168)), (1, .int (zI v1)), (2, .int (zI v2))] hc dX12_best_36 (by decide) rfl ?_
    obtain ⟨lx9, hlx9, h⟩ := z_b_some h
    refine z_sub [(0, .ref (a 168)), (1, .int (zI v1)), (2, .int (zI v2)), (3, .int (zI 0)), (4, .int (zI 0))] [2, 3, 4, 1, 0] rfl ?_
    refine z_loop (fun q9 : (Int × Int) => J_X12_best_b38 v1 v2 q9.1 q9.2 st) (fun q9 : (Int × Int) => z_V κ z_T z_N a 0 0 38 [(0, .ref (a 168)), (1, .int (zI v1)), (2, .int (zI v2)), (3, .int (zI q9.1)), (4, .int (zI q9.2))] [] st) (fun x9 : Int => z_V κ z_T z_N a 0 0 101 [(0, .ref (a 168)), (1, .int (zI v1)), (2, .int (zI v2)), (3, .int (zI x9))] [] st) (fun q9 o9 hb k1 k2 => ?_) _ _ _ hlx9 ?_
    · exact w_X12_best_b38 hc hap k1 k2 hb
    · show z_V κ z_T z_N a 0 0 101 [(0, .ref (a 168)), (1, .int (zI v1)), (2, .int (zI v2)), (3, .int (zI lx9))] [] st
      refine z_aload_n (i := 0) 0 hc dX12_best_101 rfl rfl ?_
      refine z_getA (k' := 189) hc fl_RX12_78 tT_168 (by decide) rfl rfl dX12_best_102 ?_
      refine z_iload_n (i := 2) 2 hc dX12_best_105 rfl rfl ?_
      refine z_lald (kI := 189) (nI9 := 780) hc tT_189 (by decide) rfl rfl (by decide) dX12_best_106 h (fun g10 h => ?_)
      refine z_ldc2 1000000000000000000 hc kc_RX12_205 dX12_best_107 rfl ?_
      refine z_lcmp_ge (tgt := 126) hc dX12_best_110 dX12_best_111 (by decide) h (fun c110 h => ?_) (fun c110 h => ?_)
      · refine z_iload_n (i := 3) 3 hc dX12_best_114 rfl rfl ?_
        refine z_iload_n (i := 1) 1 hc dX12_best_115 rfl rfl ?_
        refine z_icmp_ne (tgt := 126) hc dX12_best_116 (by decide) h (fun c116 h => ?_) (fun c116 h => ?_)
        · refine z_sub [(0, .ref (a 168)), (2, .int (zI v2))] [0, 2] rfl ?_
          exact k2 (.inr v2) (Option.some.inj h).symm
        · refine z_sub [(0, .ref (a 168)), (1, .int (zI v1)), (2, .int (zI v2))] [0, 1, 2] rfl ?_
          exact w_X12_best_126 hc hap k1 k2 h
      · refine z_sub [(0, .ref (a 168)), (1, .int (zI v1)), (2, .int (zI v2))] [0, 1, 2] rfl ?_
        exact w_X12_best_126 hc hap k1 k2 h
  · refine z_sub [] [] rfl ?_
    exact k2 (.inl ()) (Option.some.inj h).symm
def J_X12_best_10 (v1 s0 : Int) (st : z_St) : Option (Int × z_St) :=
  z_b (J_X12_holds s0 st) fun r1 =>
  z_g (z32 r1.1) (if r1.1 = 0 then
    z_b (J_X12_laysRows r1.2) fun r3 =>
    z_b (z_iter z_F (fun q9 : Int => J_X12_best_b25 v1 q9 r3.2) 0) fun lx11 => match lx11 with
    | .inl y12 =>
      some ((-1), r3.2)
    | .inr y13 =>
      z_g (0 ≤ y13 ∧ y13 < 780) <|
      some (r3.2 190 y13, r3.2)
  else
    some ((-1), r1.2))
set_option maxRecDepth 100000 in
set_option maxHeartbeats 4000000 in
theorem w_X12_best_10 {κ : zK} {a : Nat → Nat} {v1 s0 : Int} {st : z_St} {o : Int × z_St} (hc : z_C κ RX12 cX12_best 5 13 0 0) (hap : z_AP κ a z_N) (he : z_E 0 κ (some .int) z_T z_N a o.1 o.2) (h : J_X12_best_10 v1 s0 st = some o) : z_V κ z_T z_N a 0 0 10 [(0, .ref (a 168)), (1, .int (zI v1))] [.int (zI s0), .ref (a 168)] st := by
  unfold J_X12_best_10 at h
  obtain ⟨r1, hr1, h⟩ := z_b_some h
  refine z_callVI [.int (zI s0)] hc hap o_X12_holds ml_RX12_131 (fun l hl => c_X12_holds hl  hr1) (by decide) tT_168 (by decide) ⟨_, rfl, rfl⟩ rfl rfl (Nat.le_of_ble_eq_true rfl) (Nat.zero_le _) (Nat.zero_le _) dX12_best_10 ?_
  refine z_if_eq (tgt := 18) hc dX12_best_13 (by decide) h (fun c13 h => ?_) (fun c13 h => ?_)
  · refine z_aload_n (i := 0) 0 hc dX12_best_18 rfl rfl ?_
    obtain ⟨r3, hr3, h⟩ := z_b_some h
    refine z_callVI [] hc hap o_X12_laysRows ml_RX12_159 (fun l hl => c_X12_laysRows hl  hr3) (by decide) tT_168 (by decide) ⟨_, rfl, rfl⟩ rfl rfl (Nat.le_of_ble_eq_true rfl) (Nat.zero_le _) (Nat.zero_le _) dX12_best_19 ?_
    refine z_pop hc dX12_best_22 rfl ?_
    refine z_iconst hc dX12_best_23 ?_
    refine z_istore_n (i := 2) [(2, .int (zI 0)), (0, .ref (a 168)), (1, .int (zI v1))] hc dX12_best_24 rfl (by decide) rfl ?_
    obtain ⟨lx11, hlx11, h⟩ := z_b_some h
    refine z_sub [(0, .ref (a 168)), (1, .int (zI v1)), (2, .int (zI 0))] [1, 2, 0] rfl ?_
    refine z_loop (fun q9 : Int => J_X12_best_b25 v1 q9 r3.2) (fun q9 : Int => z_V κ z_T z_N a 0 0 25 [(0, .ref (a 168)), (1, .int (zI v1)), (2, .int (zI q9))] [] r3.2) (fun x9 : (Unit ⊕ Int) => (match x9 with | .inl y9 => z_V κ z_T z_N a 0 0 132 [] [] r3.2 | .inr y9 => z_V κ z_T z_N a 0 0 119 [(0, .ref (a 168)), (2, .int (zI y9))] [] r3.2)) (fun q9 o9 hb k1 k2 => ?_) _ _ _ hlx11 ?_
    · exact w_X12_best_b25 hc hap k1 k2 hb
    · rcases lx11 with y12 | y13
      · show z_V κ z_T z_N a 0 0 132 [] [] r3.2
        dsimp only at h
        refine z_iconst hc dX12_best_132 ?_
        have h := Option.some.inj h
        subst h
        exact z_retI hc he dX12_best_133
      · show z_V κ z_T z_N a 0 0 119 [(0, .ref (a 168)), (2, .int (zI y13))] [] r3.2
        dsimp only at h
        refine z_aload_n (i := 0) 0 hc dX12_best_119 rfl rfl ?_
        refine z_getA (k' := 190) hc fl_RX12_81 tT_168 (by decide) rfl rfl dX12_best_120 ?_
        refine z_iload_n (i := 2) 1 hc dX12_best_123 rfl rfl ?_
        refine z_iald (kI := 190) (nI9 := 780) hc tT_190 (by decide) rfl rfl (by decide) dX12_best_124 h (fun g14 h => ?_)
        have h := Option.some.inj h
        subst h
        exact z_retI hc he dX12_best_125
  · refine z_iconst hc dX12_best_16 ?_
    have h := Option.some.inj h
    subst h
    exact z_retI hc he dX12_best_17
def J_X12_best (x1 : Int) (st : z_St) : Option (Int × z_St) :=
  z_g (z32 x1) (if x1 < 0 then
    J_X12_best_10 x1 1 st
  else
    J_X12_best_10 x1 0 st)
set_option maxRecDepth 100000 in
set_option maxHeartbeats 4000000 in
theorem w_X12_best {κ : zK} {a : Nat → Nat} {x1 : Int} {st : z_St} {o : Int × z_St} (hc : z_C κ RX12 cX12_best 5 13 0 0) (hap : z_AP κ a z_N) (he : z_E 0 κ (some .int) z_T z_N a o.1 o.2) (h : J_X12_best x1 st = some o) : z_V κ z_T z_N a 0 0 0 [(0, .ref (a 168)), (1, .int (zI x1))] [] st := by
  unfold J_X12_best at h
  refine z_aload_n (i := 0) 0 hc dX12_best_0 rfl rfl ?_
  refine z_iload_n (i := 1) 1 hc dX12_best_1 rfl rfl ?_
  refine z_if_ge (tgt := 9) hc dX12_best_2 (by decide) h (fun c2 h => ?_) (fun c2 h => ?_)
  · refine z_iconst hc dX12_best_5 ?_
    refine z_goto (tgt := 10) hc dX12_best_6 (by decide) ?_
    refine z_sub [(0, .ref (a 168)), (1, .int (zI x1))] [0, 1] rfl ?_
    exact w_X12_best_10 hc hap he h
  · refine z_iconst hc dX12_best_9 ?_
    refine z_sub [(0, .ref (a 168)), (1, .int (zI x1))] [0, 1] rfl ?_
    exact w_X12_best_10 hc hap he h
set_option maxRecDepth 100000 in
set_option maxHeartbeats 4000000 in
theorem c_X12_best {l : Launch} (hl : l.stackTraces = false) {a : Nat → Nat} {x1 : Int} {st : z_St} {o : Int × z_St} (h : J_X12_best x1 st = some o) : z_M 0 l yX12_best cX12_best 5 (some .int) 13 z_T z_N a [.ref (a 168), .int (zI x1)] st o.1 o.2 := z_of hl (by decide +kernel) (Nat.le_of_ble_eq_true rfl) (fun κ hc hap he => w_X12_best hc hap he h)
theorem dX12_end_0 : decode cX12_end 0 = .ok (.bipush 20, 2) := by decide +kernel
theorem dX12_end_2 : decode cX12_end 2 = .ok (.iload_n 1, 1) := by decide +kernel
theorem dX12_end_3 : decode cX12_end 3 = .ok (.imul, 1) := by decide +kernel
theorem dX12_end_4 : decode cX12_end 4 = .ok (.iconst 5, 1) := by decide +kernel
theorem dX12_end_5 : decode cX12_end 5 = .ok (.iload_n 2, 1) := by decide +kernel
theorem dX12_end_6 : decode cX12_end 6 = .ok (.iconst 1, 1) := by decide +kernel
theorem dX12_end_7 : decode cX12_end 7 = .ok (.isub, 1) := by decide +kernel
theorem dX12_end_8 : decode cX12_end 8 = .ok (.imul, 1) := by decide +kernel
theorem dX12_end_9 : decode cX12_end 9 = .ok (.iadd, 1) := by decide +kernel
theorem dX12_end_10 : decode cX12_end 10 = .ok (.iload_n 3, 1) := by decide +kernel
theorem dX12_end_11 : decode cX12_end 11 = .ok (.iadd, 1) := by decide +kernel
theorem dX12_end_12 : decode cX12_end 12 = .ok (.ireturn, 1) := by decide +kernel
def J_X12_end (x1 x2 x3 : Int) (st : z_St) : Option (Int) :=
  some (((20 * x1) + (5 * (x2 - 1))) + x3)
set_option maxRecDepth 100000 in
set_option maxHeartbeats 4000000 in
theorem w_X12_end {κ : zK} {a : Nat → Nat} {x1 x2 x3 : Int} {st : z_St} {o : Int} (hc : z_C κ RX12 cX12_end 4 8 0 0) (hap : z_AP κ a z_N) (he : z_E 0 κ (some .int) z_T z_N a o st) (h : J_X12_end x1 x2 x3 st = some o) : z_V κ z_T z_N a 0 0 0 [(0, .ref (a 168)), (1, .int (zI x1)), (2, .int (zI x2)), (3, .int (zI x3))] [] st := by
  unfold J_X12_end at h
  refine z_bipush hc dX12_end_0 rfl ?_
  refine z_iload_n (i := 1) 1 hc dX12_end_2 rfl rfl ?_
  refine z_imul hc dX12_end_3 ?_
  refine z_iconst hc dX12_end_4 ?_
  refine z_iload_n (i := 2) 2 hc dX12_end_5 rfl rfl ?_
  refine z_iconst hc dX12_end_6 ?_
  refine z_isub hc dX12_end_7 ?_
  refine z_imul hc dX12_end_8 ?_
  refine z_iadd hc dX12_end_9 ?_
  refine z_iload_n (i := 3) 3 hc dX12_end_10 rfl rfl ?_
  refine z_iadd hc dX12_end_11 ?_
  have h := Option.some.inj h
  subst h
  exact z_retI hc he dX12_end_12
set_option maxRecDepth 100000 in
set_option maxHeartbeats 4000000 in
theorem c_X12_end {l : Launch} (hl : l.stackTraces = false) {a : Nat → Nat} {x1 x2 x3 : Int} {st : z_St} {o : Int} (h : J_X12_end x1 x2 x3 st = some o) : z_M 0 l yX12_end cX12_end 4 (some .int) 8 z_T z_N a [.ref (a 168), .int (zI x1), .int (zI x2), .int (zI x3)] st o st := z_of hl (by decide +kernel) (Nat.le_of_ble_eq_true rfl) (fun κ hc hap he => w_X12_end hc hap he h)
theorem dX12_comes_0 : decode cX12_comes 0 = .ok (.lload_n 2, 1) := by decide +kernel
theorem dX12_comes_1 : decode cX12_comes 1 = .ok (.ldc2_w 205, 3) := by decide +kernel
theorem dX12_comes_4 : decode cX12_comes 4 = .ok (.lcmp, 1) := by decide +kernel
theorem dX12_comes_5 : decode cX12_comes 5 = .ok (.ifCond .ge 49, 3) := by decide +kernel
theorem dX12_comes_8 : decode cX12_comes 8 = .ok (.aload_n 0, 1) := by decide +kernel
theorem dX12_comes_9 : decode cX12_comes 9 = .ok (.getfield 90, 3) := by decide +kernel
theorem dX12_comes_12 : decode cX12_comes 12 = .ok (.iload_n 1, 1) := by decide +kernel
theorem dX12_comes_13 : decode cX12_comes 13 = .ok (.iaload, 1) := by decide +kernel
theorem dX12_comes_14 : decode cX12_comes 14 = .ok (.ifCond .eq 36, 3) := by decide +kernel
theorem dX12_comes_17 : decode cX12_comes 17 = .ok (.lload_n 2, 1) := by decide +kernel
theorem dX12_comes_18 : decode cX12_comes 18 = .ok (.aload_n 0, 1) := by decide +kernel
theorem dX12_comes_19 : decode cX12_comes 19 = .ok (.getfield 87, 3) := by decide +kernel
theorem dX12_comes_22 : decode cX12_comes 22 = .ok (.iload_n 1, 1) := by decide +kernel
theorem dX12_comes_23 : decode cX12_comes 23 = .ok (.laload, 1) := by decide +kernel
theorem dX12_comes_24 : decode cX12_comes 24 = .ok (.lcmp, 1) := by decide +kernel
theorem dX12_comes_25 : decode cX12_comes 25 = .ok (.ifCond .lt 25, 3) := by decide +kernel
theorem dX12_comes_28 : decode cX12_comes 28 = .ok (.lload_n 2, 1) := by decide +kernel
theorem dX12_comes_29 : decode cX12_comes 29 = .ok (.aload_n 0, 1) := by decide +kernel
theorem dX12_comes_30 : decode cX12_comes 30 = .ok (.getfield 87, 3) := by decide +kernel
theorem dX12_comes_33 : decode cX12_comes 33 = .ok (.iload_n 1, 1) := by decide +kernel
theorem dX12_comes_34 : decode cX12_comes 34 = .ok (.laload, 1) := by decide +kernel
theorem dX12_comes_35 : decode cX12_comes 35 = .ok (.lcmp, 1) := by decide +kernel
theorem dX12_comes_36 : decode cX12_comes 36 = .ok (.ifCond .ne 18, 3) := by decide +kernel
theorem dX12_comes_39 : decode cX12_comes 39 = .ok (.iload 4, 2) := by decide +kernel
theorem dX12_comes_41 : decode cX12_comes 41 = .ok (.aload_n 0, 1) := by decide +kernel
theorem dX12_comes_42 : decode cX12_comes 42 = .ok (.getfield 90, 3) := by decide +kernel
theorem dX12_comes_45 : decode cX12_comes 45 = .ok (.iload_n 1, 1) := by decide +kernel
theorem dX12_comes_46 : decode cX12_comes 46 = .ok (.iaload, 1) := by decide +kernel
theorem dX12_comes_47 : decode cX12_comes 47 = .ok (.if_icmp .ge 7, 3) := by decide +kernel
theorem dX12_comes_50 : decode cX12_comes 50 = .ok (.iconst 1, 1) := by decide +kernel
theorem dX12_comes_51 : decode cX12_comes 51 = .ok (.goto 4, 3) := by decide +kernel
theorem dX12_comes_54 : decode cX12_comes 54 = .ok (.iconst 0, 1) := by decide +kernel
theorem dX12_comes_55 : decode cX12_comes 55 = .ok (.istore 5, 2) := by decide +kernel
theorem dX12_comes_57 : decode cX12_comes 57 = .ok (.aload_n 0, 1) := by decide +kernel
theorem dX12_comes_58 : decode cX12_comes 58 = .ok (.getfield 87, 3) := by decide +kernel
theorem dX12_comes_61 : decode cX12_comes 61 = .ok (.iload_n 1, 1) := by decide +kernel
theorem dX12_comes_62 : decode cX12_comes 62 = .ok (.iload 5, 2) := by decide +kernel
theorem dX12_comes_64 : decode cX12_comes 64 = .ok (.ifCond .eq 7, 3) := by decide +kernel
theorem dX12_comes_67 : decode cX12_comes 67 = .ok (.lload_n 2, 1) := by decide +kernel
theorem dX12_comes_68 : decode cX12_comes 68 = .ok (.goto 9, 3) := by decide +kernel
theorem dX12_comes_71 : decode cX12_comes 71 = .ok (.aload_n 0, 1) := by decide +kernel
theorem dX12_comes_72 : decode cX12_comes 72 = .ok (.getfield 87, 3) := by decide +kernel
theorem dX12_comes_75 : decode cX12_comes 75 = .ok (.iload_n 1, 1) := by decide +kernel
theorem dX12_comes_76 : decode cX12_comes 76 = .ok (.laload, 1) := by decide +kernel
theorem dX12_comes_77 : decode cX12_comes 77 = .ok (.lastore, 1) := by decide +kernel
theorem dX12_comes_78 : decode cX12_comes 78 = .ok (.aload_n 0, 1) := by decide +kernel
theorem dX12_comes_79 : decode cX12_comes 79 = .ok (.getfield 90, 3) := by decide +kernel
theorem dX12_comes_82 : decode cX12_comes 82 = .ok (.iload_n 1, 1) := by decide +kernel
theorem dX12_comes_83 : decode cX12_comes 83 = .ok (.iload 5, 2) := by decide +kernel
theorem dX12_comes_85 : decode cX12_comes 85 = .ok (.ifCond .eq 8, 3) := by decide +kernel
theorem dX12_comes_88 : decode cX12_comes 88 = .ok (.iload 4, 2) := by decide +kernel
theorem dX12_comes_90 : decode cX12_comes 90 = .ok (.goto 9, 3) := by decide +kernel
theorem dX12_comes_93 : decode cX12_comes 93 = .ok (.aload_n 0, 1) := by decide +kernel
theorem dX12_comes_94 : decode cX12_comes 94 = .ok (.getfield 90, 3) := by decide +kernel
theorem dX12_comes_97 : decode cX12_comes 97 = .ok (.iload_n 1, 1) := by decide +kernel
theorem dX12_comes_98 : decode cX12_comes 98 = .ok (.iaload, 1) := by decide +kernel
theorem dX12_comes_99 : decode cX12_comes 99 = .ok (.iastore, 1) := by decide +kernel
theorem dX12_comes_100 : decode cX12_comes 100 = .ok (.return_, 1) := by decide +kernel
def J_X12_comes_99 (s0 s1 : Int) (st : z_St) : Option (z_St) :=
  z_g (0 ≤ s1 ∧ s1 < 340) <|
  z_let (z_up st 193 s1 s0) fun st5 =>
  some st5
set_option maxRecDepth 100000 in
set_option maxHeartbeats 4000000 in
theorem w_X12_comes_99 {κ : zK} {a : Nat → Nat} {s0 s1 : Int} {st : z_St} {o : z_St} (hc : z_C κ RX12 cX12_comes 6 8 0 0) (hap : z_AP κ a z_N) (he : z_E 2 κ none z_T z_N a 0 o) (h : J_X12_comes_99 s0 s1 st = some o) : z_V κ z_T z_N a 0 0 99 [] [.int (zI s0), .int (zI s1), .ref (a 193)] st := by
  unfold J_X12_comes_99 at h
  refine z_iast (kI := 193) (nI9 := 340) hc hap tT_193 (by decide) rfl rfl (by decide) dX12_comes_99 h (fun st5 h => ?_)
  have h := Option.some.inj h
  subst h
  exact z_retV hc he dX12_comes_100
def J_X12_comes_77 (v1 v4 v5 s0 s1 : Int) (st : z_St) : Option (z_St) :=
  z_g (0 ≤ s1 ∧ s1 < 340) <|
  z_let (z_up st 192 s1 s0) fun st3 =>
  z_g (z32 v5) (if v5 = 0 then
    z_g (0 ≤ v1 ∧ v1 < 340) <|
    J_X12_comes_99 (st3 193 v1) v1 st3
  else
    J_X12_comes_99 v4 v1 st3)
set_option maxRecDepth 100000 in
set_option maxHeartbeats 4000000 in
theorem w_X12_comes_77 {κ : zK} {a : Nat → Nat} {v1 v4 v5 s0 s1 : Int} {st : z_St} {o : z_St} (hc : z_C κ RX12 cX12_comes 6 8 0 0) (hap : z_AP κ a z_N) (he : z_E 2 κ none z_T z_N a 0 o) (h : J_X12_comes_77 v1 v4 v5 s0 s1 st = some o) : z_V κ z_T z_N a 0 0 77 [(0, .ref (a 168)), (1, .int (zI v1)), (4, .int (zI v4)), (5, .int (zI v5))] [.long (zJ s0), .int (zI s1), .ref (a 192)] st := by
  unfold J_X12_comes_77 at h
  refine z_last (kI := 192) (nI9 := 340) hc hap tT_192 (by decide) rfl rfl (by decide) dX12_comes_77 h (fun st3 h => ?_)
  refine z_aload_n (i := 0) 0 hc dX12_comes_78 rfl rfl ?_
  refine z_getA (k' := 193) hc fl_RX12_90 tT_168 (by decide) rfl rfl dX12_comes_79 ?_
  refine z_iload_n (i := 1) 1 hc dX12_comes_82 rfl rfl ?_
  refine z_iload 3 hc dX12_comes_83 rfl ?_
  refine z_if_eq (tgt := 93) hc dX12_comes_85 (by decide) h (fun c85 h => ?_) (fun c85 h => ?_)
  · refine z_aload_n (i := 0) 0 hc dX12_comes_93 rfl rfl ?_
    refine z_getA (k' := 193) hc fl_RX12_90 tT_168 (by decide) rfl rfl dX12_comes_94 ?_
    refine z_iload_n (i := 1) 1 hc dX12_comes_97 rfl rfl ?_
    refine z_iald (kI := 193) (nI9 := 340) hc tT_193 (by decide) rfl rfl (by decide) dX12_comes_98 h (fun g4 h => ?_)
    refine z_sub [] [] rfl ?_
    exact w_X12_comes_99 hc hap he h
  · refine z_iload 2 hc dX12_comes_88 rfl ?_
    refine z_goto (tgt := 99) hc dX12_comes_90 (by decide) ?_
    refine z_sub [] [] rfl ?_
    exact w_X12_comes_99 hc hap he h
def J_X12_comes_55 (v1 v2 v4 s0 : Int) (st : z_St) : Option (z_St) :=
  z_g (z32 s0) (if s0 = 0 then
    z_g (0 ≤ v1 ∧ v1 < 340) <|
    J_X12_comes_77 v1 v4 s0 (st 192 v1) v1 st
  else
    J_X12_comes_77 v1 v4 s0 v2 v1 st)
set_option maxRecDepth 100000 in
set_option maxHeartbeats 4000000 in
theorem w_X12_comes_55 {κ : zK} {a : Nat → Nat} {v1 v2 v4 s0 : Int} {st : z_St} {o : z_St} (hc : z_C κ RX12 cX12_comes 6 8 0 0) (hap : z_AP κ a z_N) (he : z_E 2 κ none z_T z_N a 0 o) (h : J_X12_comes_55 v1 v2 v4 s0 st = some o) : z_V κ z_T z_N a 0 0 55 [(0, .ref (a 168)), (1, .int (zI v1)), (2, .long (zJ v2)), (4, .int (zI v4))] [.int (zI s0)] st := by
  unfold J_X12_comes_55 at h
  refine z_istore [(5, .int (zI s0)), (0, .ref (a 168)), (1, .int (zI v1)), (2, .long (zJ v2)), (4, .int (zI v4))] hc dX12_comes_55 (by decide) rfl ?_
  refine z_aload_n (i := 0) 1 hc dX12_comes_57 rfl rfl ?_
  refine z_getA (k' := 192) hc fl_RX12_87 tT_168 (by decide) rfl rfl dX12_comes_58 ?_
  refine z_iload_n (i := 1) 2 hc dX12_comes_61 rfl rfl ?_
  refine z_iload 0 hc dX12_comes_62 rfl ?_
  refine z_if_eq (tgt := 71) hc dX12_comes_64 (by decide) h (fun c64 h => ?_) (fun c64 h => ?_)
  · refine z_aload_n (i := 0) 1 hc dX12_comes_71 rfl rfl ?_
    refine z_getA (k' := 192) hc fl_RX12_87 tT_168 (by decide) rfl rfl dX12_comes_72 ?_
    refine z_iload_n (i := 1) 2 hc dX12_comes_75 rfl rfl ?_
    refine z_lald (kI := 192) (nI9 := 340) hc tT_192 (by decide) rfl rfl (by decide) dX12_comes_76 h (fun g2 h => ?_)
    refine z_sub [(0, .ref (a 168)), (1, .int (zI v1)), (4, .int (zI v4)), (5, .int (zI s0))] [1, 2, 4, 0] rfl ?_
    exact w_X12_comes_77 hc hap he h
  · refine z_lload_n (i := 2) 3 hc dX12_comes_67 rfl rfl ?_
    refine z_goto (tgt := 77) hc dX12_comes_68 (by decide) ?_
    refine z_sub [(0, .ref (a 168)), (1, .int (zI v1)), (4, .int (zI v4)), (5, .int (zI s0))] [1, 2, 4, 0] rfl ?_
    exact w_X12_comes_77 hc hap he h
def J_X12_comes_50 (v1 v2 v4 : Int) (st : z_St) : Option (z_St) :=
  J_X12_comes_55 v1 v2 v4 1 st
set_option maxRecDepth 100000 in
set_option maxHeartbeats 4000000 in
theorem w_X12_comes_50 {κ : zK} {a : Nat → Nat} {v1 v2 v4 : Int} {st : z_St} {o : z_St} (hc : z_C κ RX12 cX12_comes 6 8 0 0) (hap : z_AP κ a z_N) (he : z_E 2 κ none z_T z_N a 0 o) (h : J_X12_comes_50 v1 v2 v4 st = some o) : z_V κ z_T z_N a 0 0 50 [(0, .ref (a 168)), (1, .int (zI v1)), (2, .long (zJ v2)), (4, .int (zI v4))] [] st := by
  unfold J_X12_comes_50 at h
  refine z_iconst hc dX12_comes_50 ?_
  refine z_goto (tgt := 55) hc dX12_comes_51 (by decide) ?_
  refine z_sub [(0, .ref (a 168)), (1, .int (zI v1)), (2, .long (zJ v2)), (4, .int (zI v4))] [0, 1, 2, 3] rfl ?_
  exact w_X12_comes_55 hc hap he h
def J_X12_comes_54 (v1 v2 v4 : Int) (st : z_St) : Option (z_St) :=
  J_X12_comes_55 v1 v2 v4 0 st
set_option maxRecDepth 100000 in
set_option maxHeartbeats 4000000 in
theorem w_X12_comes_54 {κ : zK} {a : Nat → Nat} {v1 v2 v4 : Int} {st : z_St} {o : z_St} (hc : z_C κ RX12 cX12_comes 6 8 0 0) (hap : z_AP κ a z_N) (he : z_E 2 κ none z_T z_N a 0 o) (h : J_X12_comes_54 v1 v2 v4 st = some o) : z_V κ z_T z_N a 0 0 54 [(0, .ref (a 168)), (1, .int (zI v1)), (2, .long (zJ v2)), (4, .int (zI v4))] [] st := by
  unfold J_X12_comes_54 at h
  refine z_iconst hc dX12_comes_54 ?_
  refine z_sub [(0, .ref (a 168)), (1, .int (zI v1)), (2, .long (zJ v2)), (4, .int (zI v4))] [0, 1, 2, 3] rfl ?_
  exact w_X12_comes_55 hc hap he h
def J_X12_comes (x1 x2 x4 : Int) (st : z_St) : Option (z_St) :=
  z_g (z64 x2 ∧ z64 1000000000000000000) (if x2 < 1000000000000000000 then
    z_g (0 ≤ x1 ∧ x1 < 340) <|
    z_g (z32 (st 193 x1)) (if st 193 x1 = 0 then
      J_X12_comes_50 x1 x2 x4 st
    else
      z_g (0 ≤ x1 ∧ x1 < 340) <|
      z_g (z64 x2 ∧ z64 (st 192 x1)) (if x2 < st 192 x1 then
        J_X12_comes_50 x1 x2 x4 st
      else
        z_g (0 ≤ x1 ∧ x1 < 340) <|
        z_g (z64 x2 ∧ z64 (st 192 x1)) (if x2 = st 192 x1 then
          z_g (0 ≤ x1 ∧ x1 < 340) <|
          z_g (z32 x4 ∧ z32 (st 193 x1)) (if x4 < st 193 x1 then
            J_X12_comes_50 x1 x2 x4 st
          else
            J_X12_comes_54 x1 x2 x4 st)
        else
          J_X12_comes_54 x1 x2 x4 st)))
  else
    J_X12_comes_54 x1 x2 x4 st)
set_option maxRecDepth 100000 in
set_option maxHeartbeats 4000000 in
theorem w_X12_comes {κ : zK} {a : Nat → Nat} {x1 x2 x4 : Int} {st : z_St} {o : z_St} (hc : z_C κ RX12 cX12_comes 6 8 0 0) (hap : z_AP κ a z_N) (he : z_E 2 κ none z_T z_N a 0 o) (h : J_X12_comes x1 x2 x4 st = some o) : z_V κ z_T z_N a 0 0 0 [(0, .ref (a 168)), (1, .int (zI x1)), (2, .long (zJ x2)), (4, .int (zI x4))] [] st := by
  unfold J_X12_comes at h
  refine z_lload_n (i := 2) 2 hc dX12_comes_0 rfl rfl ?_
  refine z_ldc2 1000000000000000000 hc kc_RX12_205 dX12_comes_1 rfl ?_
  refine z_lcmp_ge (tgt := 54) hc dX12_comes_4 dX12_comes_5 (by decide) h (fun c4 h => ?_) (fun c4 h => ?_)
  · refine z_aload_n (i := 0) 0 hc dX12_comes_8 rfl rfl ?_
    refine z_getA (k' := 193) hc fl_RX12_90 tT_168 (by decide) rfl rfl dX12_comes_9 ?_
    refine z_iload_n (i := 1) 1 hc dX12_comes_12 rfl rfl ?_
    refine z_iald (kI := 193) (nI9 := 340) hc tT_193 (by decide) rfl rfl (by decide) dX12_comes_13 h (fun g1 h => ?_)
    refine z_if_eq (tgt := 50) hc dX12_comes_14 (by decide) h (fun c14 h => ?_) (fun c14 h => ?_)
    · refine z_sub [(0, .ref (a 168)), (1, .int (zI x1)), (2, .long (zJ x2)), (4, .int (zI x4))] [0, 1, 2, 3] rfl ?_
      exact w_X12_comes_50 hc hap he h
    · refine z_lload_n (i := 2) 2 hc dX12_comes_17 rfl rfl ?_
      refine z_aload_n (i := 0) 0 hc dX12_comes_18 rfl rfl ?_
      refine z_getA (k' := 192) hc fl_RX12_87 tT_168 (by decide) rfl rfl dX12_comes_19 ?_
      refine z_iload_n (i := 1) 1 hc dX12_comes_22 rfl rfl ?_
      refine z_lald (kI := 192) (nI9 := 340) hc tT_192 (by decide) rfl rfl (by decide) dX12_comes_23 h (fun g6 h => ?_)
      refine z_lcmp_lt (tgt := 50) hc dX12_comes_24 dX12_comes_25 (by decide) h (fun c24 h => ?_) (fun c24 h => ?_)
      · refine z_sub [(0, .ref (a 168)), (1, .int (zI x1)), (2, .long (zJ x2)), (4, .int (zI x4))] [0, 1, 2, 3] rfl ?_
        exact w_X12_comes_50 hc hap he h
      · refine z_lload_n (i := 2) 2 hc dX12_comes_28 rfl rfl ?_
        refine z_aload_n (i := 0) 0 hc dX12_comes_29 rfl rfl ?_
        refine z_getA (k' := 192) hc fl_RX12_87 tT_168 (by decide) rfl rfl dX12_comes_30 ?_
        refine z_iload_n (i := 1) 1 hc dX12_comes_33 rfl rfl ?_
        refine z_lald (kI := 192) (nI9 := 340) hc tT_192 (by decide) rfl rfl (by decide) dX12_comes_34 h (fun g7 h => ?_)
        refine z_lcmp_ne (tgt := 54) hc dX12_comes_35 dX12_comes_36 (by decide) h (fun c35 h => ?_) (fun c35 h => ?_)
        · refine z_iload 3 hc dX12_comes_39 rfl ?_
          refine z_aload_n (i := 0) 0 hc dX12_comes_41 rfl rfl ?_
          refine z_getA (k' := 193) hc fl_RX12_90 tT_168 (by decide) rfl rfl dX12_comes_42 ?_
          refine z_iload_n (i := 1) 1 hc dX12_comes_45 rfl rfl ?_
          refine z_iald (kI := 193) (nI9 := 340) hc tT_193 (by decide) rfl rfl (by decide) dX12_comes_46 h (fun g8 h => ?_)
          refine z_icmp_ge (tgt := 54) hc dX12_comes_47 (by decide) h (fun c47 h => ?_) (fun c47 h => ?_)
          · refine z_sub [(0, .ref (a 168)), (1, .int (zI x1)), (2, .long (zJ x2)), (4, .int (zI x4))] [0, 1, 2, 3] rfl ?_
            exact w_X12_comes_50 hc hap he h
          · refine z_sub [(0, .ref (a 168)), (1, .int (zI x1)), (2, .long (zJ x2)), (4, .int (zI x4))] [0, 1, 2, 3] rfl ?_
            exact w_X12_comes_54 hc hap he h
        · refine z_sub [(0, .ref (a 168)), (1, .int (zI x1)), (2, .long (zJ x2)), (4, .int (zI x4))] [0, 1, 2, 3] rfl ?_
          exact w_X12_comes_54 hc hap he h
  · refine z_sub [(0, .ref (a 168)), (1, .int (zI x1)), (2, .long (zJ x2)), (4, .int (zI x4))] [0, 1, 2, 3] rfl ?_
    exact w_X12_comes_54 hc hap he h
set_option maxRecDepth 100000 in
set_option maxHeartbeats 4000000 in
theorem c_X12_comes {l : Launch} (hl : l.stackTraces = false) {a : Nat → Nat} {x1 x2 x4 : Int} {st : z_St} {o : z_St} (h : J_X12_comes x1 x2 x4 st = some o) : z_M 2 l yX12_comes cX12_comes 6 none 8 z_T z_N a [.ref (a 168), .int (zI x1), .long (zJ x2), .int (zI x4)] st 0 o := z_of hl (by decide +kernel) (Nat.le_of_ble_eq_true rfl) (fun κ hc hap he => w_X12_comes hc hap he h)
theorem dX12_laysEnds_0 : decode cX12_laysEnds 0 = .ok (.iconst 0, 1) := by decide +kernel
theorem dX12_laysEnds_1 : decode cX12_laysEnds 1 = .ok (.istore_n 2, 1) := by decide +kernel
theorem dX12_laysEnds_2 : decode cX12_laysEnds 2 = .ok (.iload_n 2, 1) := by decide +kernel
theorem dX12_laysEnds_3 : decode cX12_laysEnds 3 = .ok (.bipush 20, 2) := by decide +kernel
theorem dX12_laysEnds_5 : decode cX12_laysEnds 5 = .ok (.if_icmp .ge 47, 3) := by decide +kernel
theorem dX12_laysEnds_8 : decode cX12_laysEnds 8 = .ok (.aload_n 0, 1) := by decide +kernel
theorem dX12_laysEnds_9 : decode cX12_laysEnds 9 = .ok (.getfield 90, 3) := by decide +kernel
theorem dX12_laysEnds_12 : decode cX12_laysEnds 12 = .ok (.bipush 20, 2) := by decide +kernel
theorem dX12_laysEnds_14 : decode cX12_laysEnds 14 = .ok (.iload_n 1, 1) := by decide +kernel
theorem dX12_laysEnds_15 : decode cX12_laysEnds 15 = .ok (.imul, 1) := by decide +kernel
theorem dX12_laysEnds_16 : decode cX12_laysEnds 16 = .ok (.iload_n 2, 1) := by decide +kernel
theorem dX12_laysEnds_17 : decode cX12_laysEnds 17 = .ok (.iadd, 1) := by decide +kernel
theorem dX12_laysEnds_18 : decode cX12_laysEnds 18 = .ok (.iconst 0, 1) := by decide +kernel
theorem dX12_laysEnds_19 : decode cX12_laysEnds 19 = .ok (.iastore, 1) := by decide +kernel
theorem dX12_laysEnds_20 : decode cX12_laysEnds 20 = .ok (.aload_n 0, 1) := by decide +kernel
theorem dX12_laysEnds_21 : decode cX12_laysEnds 21 = .ok (.getfield 87, 3) := by decide +kernel
theorem dX12_laysEnds_24 : decode cX12_laysEnds 24 = .ok (.bipush 20, 2) := by decide +kernel
theorem dX12_laysEnds_26 : decode cX12_laysEnds 26 = .ok (.iload_n 1, 1) := by decide +kernel
theorem dX12_laysEnds_27 : decode cX12_laysEnds 27 = .ok (.imul, 1) := by decide +kernel
theorem dX12_laysEnds_28 : decode cX12_laysEnds 28 = .ok (.iload_n 2, 1) := by decide +kernel
theorem dX12_laysEnds_29 : decode cX12_laysEnds 29 = .ok (.iadd, 1) := by decide +kernel
theorem dX12_laysEnds_30 : decode cX12_laysEnds 30 = .ok (.ldc2_w 205, 3) := by decide +kernel
theorem dX12_laysEnds_33 : decode cX12_laysEnds 33 = .ok (.lastore, 1) := by decide +kernel
theorem dX12_laysEnds_34 : decode cX12_laysEnds 34 = .ok (.aload_n 0, 1) := by decide +kernel
theorem dX12_laysEnds_35 : decode cX12_laysEnds 35 = .ok (.getfield 93, 3) := by decide +kernel
theorem dX12_laysEnds_38 : decode cX12_laysEnds 38 = .ok (.bipush 20, 2) := by decide +kernel
theorem dX12_laysEnds_40 : decode cX12_laysEnds 40 = .ok (.iload_n 1, 1) := by decide +kernel
theorem dX12_laysEnds_41 : decode cX12_laysEnds 41 = .ok (.imul, 1) := by decide +kernel
theorem dX12_laysEnds_42 : decode cX12_laysEnds 42 = .ok (.iload_n 2, 1) := by decide +kernel
theorem dX12_laysEnds_43 : decode cX12_laysEnds 43 = .ok (.iadd, 1) := by decide +kernel
theorem dX12_laysEnds_44 : decode cX12_laysEnds 44 = .ok (.iconst 0, 1) := by decide +kernel
theorem dX12_laysEnds_45 : decode cX12_laysEnds 45 = .ok (.bastore, 1) := by decide +kernel
theorem dX12_laysEnds_46 : decode cX12_laysEnds 46 = .ok (.iinc 2 1, 3) := by decide +kernel
theorem dX12_laysEnds_49 : decode cX12_laysEnds 49 = .ok (.goto (-47), 3) := by decide +kernel
theorem dX12_laysEnds_52 : decode cX12_laysEnds 52 = .ok (.iconst 0, 1) := by decide +kernel
theorem dX12_laysEnds_53 : decode cX12_laysEnds 53 = .ok (.istore_n 2, 1) := by decide +kernel
theorem dX12_laysEnds_54 : decode cX12_laysEnds 54 = .ok (.iload_n 2, 1) := by decide +kernel
theorem dX12_laysEnds_55 : decode cX12_laysEnds 55 = .ok (.aload_n 0, 1) := by decide +kernel
theorem dX12_laysEnds_56 : decode cX12_laysEnds 56 = .ok (.getfield 189, 3) := by decide +kernel
theorem dX12_laysEnds_59 : decode cX12_laysEnds 59 = .ok (.if_icmp .ge 140, 3) := by decide +kernel
theorem dX12_laysEnds_62 : decode cX12_laysEnds 62 = .ok (.aload_n 0, 1) := by decide +kernel
theorem dX12_laysEnds_63 : decode cX12_laysEnds 63 = .ok (.aload_n 0, 1) := by decide +kernel
theorem dX12_laysEnds_64 : decode cX12_laysEnds 64 = .ok (.iload_n 1, 1) := by decide +kernel
theorem dX12_laysEnds_65 : decode cX12_laysEnds 65 = .ok (.iconst 1, 1) := by decide +kernel
theorem dX12_laysEnds_66 : decode cX12_laysEnds 66 = .ok (.iload_n 2, 1) := by decide +kernel
theorem dX12_laysEnds_67 : decode cX12_laysEnds 67 = .ok (.invokevirtual 266, 3) := by decide +kernel
theorem dX12_laysEnds_70 : decode cX12_laysEnds 70 = .ok (.aload_n 0, 1) := by decide +kernel
theorem dX12_laysEnds_71 : decode cX12_laysEnds 71 = .ok (.iload_n 2, 1) := by decide +kernel
theorem dX12_laysEnds_72 : decode cX12_laysEnds 72 = .ok (.iconst 0, 1) := by decide +kernel
theorem dX12_laysEnds_73 : decode cX12_laysEnds 73 = .ok (.iload_n 1, 1) := by decide +kernel
theorem dX12_laysEnds_74 : decode cX12_laysEnds 74 = .ok (.invokevirtual 221, 3) := by decide +kernel
theorem dX12_laysEnds_77 : decode cX12_laysEnds 77 = .ok (.aload_n 0, 1) := by decide +kernel
theorem dX12_laysEnds_78 : decode cX12_laysEnds 78 = .ok (.iconst 5, 1) := by decide +kernel
theorem dX12_laysEnds_79 : decode cX12_laysEnds 79 = .ok (.iload_n 2, 1) := by decide +kernel
theorem dX12_laysEnds_80 : decode cX12_laysEnds 80 = .ok (.invokevirtual 253, 3) := by decide +kernel
theorem dX12_laysEnds_83 : decode cX12_laysEnds 83 = .ok (.ladd, 1) := by decide +kernel
theorem dX12_laysEnds_84 : decode cX12_laysEnds 84 = .ok (.iload_n 2, 1) := by decide +kernel
theorem dX12_laysEnds_85 : decode cX12_laysEnds 85 = .ok (.iconst 1, 1) := by decide +kernel
theorem dX12_laysEnds_86 : decode cX12_laysEnds 86 = .ok (.iadd, 1) := by decide +kernel
theorem dX12_laysEnds_87 : decode cX12_laysEnds 87 = .ok (.invokevirtual 269, 3) := by decide +kernel
theorem dX12_laysEnds_90 : decode cX12_laysEnds 90 = .ok (.iconst 1, 1) := by decide +kernel
theorem dX12_laysEnds_91 : decode cX12_laysEnds 91 = .ok (.istore_n 3, 1) := by decide +kernel
theorem dX12_laysEnds_92 : decode cX12_laysEnds 92 = .ok (.iload_n 3, 1) := by decide +kernel
theorem dX12_laysEnds_93 : decode cX12_laysEnds 93 = .ok (.iload_n 1, 1) := by decide +kernel
theorem dX12_laysEnds_94 : decode cX12_laysEnds 94 = .ok (.if_icmp .ge 99, 3) := by decide +kernel
theorem dX12_laysEnds_97 : decode cX12_laysEnds 97 = .ok (.iconst 0, 1) := by decide +kernel
theorem dX12_laysEnds_98 : decode cX12_laysEnds 98 = .ok (.istore 4, 2) := by decide +kernel
theorem dX12_laysEnds_100 : decode cX12_laysEnds 100 = .ok (.iload 4, 2) := by decide +kernel
theorem dX12_laysEnds_102 : decode cX12_laysEnds 102 = .ok (.bipush 15, 2) := by decide +kernel
theorem dX12_laysEnds_104 : decode cX12_laysEnds 104 = .ok (.if_icmp .ge 83, 3) := by decide +kernel
theorem dX12_laysEnds_107 : decode cX12_laysEnds 107 = .ok (.bipush 20, 2) := by decide +kernel
theorem dX12_laysEnds_109 : decode cX12_laysEnds 109 = .ok (.iload_n 3, 1) := by decide +kernel
theorem dX12_laysEnds_110 : decode cX12_laysEnds 110 = .ok (.imul, 1) := by decide +kernel
theorem dX12_laysEnds_111 : decode cX12_laysEnds 111 = .ok (.iload 4, 2) := by decide +kernel
theorem dX12_laysEnds_113 : decode cX12_laysEnds 113 = .ok (.iadd, 1) := by decide +kernel
theorem dX12_laysEnds_114 : decode cX12_laysEnds 114 = .ok (.istore 5, 2) := by decide +kernel
theorem dX12_laysEnds_116 : decode cX12_laysEnds 116 = .ok (.aload_n 0, 1) := by decide +kernel
theorem dX12_laysEnds_117 : decode cX12_laysEnds 117 = .ok (.getfield 93, 3) := by decide +kernel
theorem dX12_laysEnds_120 : decode cX12_laysEnds 120 = .ok (.iload 5, 2) := by decide +kernel
theorem dX12_laysEnds_122 : decode cX12_laysEnds 122 = .ok (.baload, 1) := by decide +kernel
theorem dX12_laysEnds_123 : decode cX12_laysEnds 123 = .ok (.ifCond .eq 58, 3) := by decide +kernel
theorem dX12_laysEnds_126 : decode cX12_laysEnds 126 = .ok (.aload_n 0, 1) := by decide +kernel
theorem dX12_laysEnds_127 : decode cX12_laysEnds 127 = .ok (.aload_n 0, 1) := by decide +kernel
theorem dX12_laysEnds_128 : decode cX12_laysEnds 128 = .ok (.iload_n 1, 1) := by decide +kernel
theorem dX12_laysEnds_129 : decode cX12_laysEnds 129 = .ok (.iload 4, 2) := by decide +kernel
theorem dX12_laysEnds_131 : decode cX12_laysEnds 131 = .ok (.iconst 5, 1) := by decide +kernel
theorem dX12_laysEnds_132 : decode cX12_laysEnds 132 = .ok (.idiv, 1) := by decide +kernel
theorem dX12_laysEnds_133 : decode cX12_laysEnds 133 = .ok (.iconst 2, 1) := by decide +kernel
theorem dX12_laysEnds_134 : decode cX12_laysEnds 134 = .ok (.iadd, 1) := by decide +kernel
theorem dX12_laysEnds_135 : decode cX12_laysEnds 135 = .ok (.iload_n 2, 1) := by decide +kernel
theorem dX12_laysEnds_136 : decode cX12_laysEnds 136 = .ok (.invokevirtual 266, 3) := by decide +kernel
theorem dX12_laysEnds_139 : decode cX12_laysEnds 139 = .ok (.aload_n 0, 1) := by decide +kernel
theorem dX12_laysEnds_140 : decode cX12_laysEnds 140 = .ok (.getfield 87, 3) := by decide +kernel
theorem dX12_laysEnds_143 : decode cX12_laysEnds 143 = .ok (.iload 5, 2) := by decide +kernel
theorem dX12_laysEnds_145 : decode cX12_laysEnds 145 = .ok (.laload, 1) := by decide +kernel
theorem dX12_laysEnds_146 : decode cX12_laysEnds 146 = .ok (.aload_n 0, 1) := by decide +kernel
theorem dX12_laysEnds_147 : decode cX12_laysEnds 147 = .ok (.iload_n 2, 1) := by decide +kernel
theorem dX12_laysEnds_148 : decode cX12_laysEnds 148 = .ok (.iload_n 3, 1) := by decide +kernel
theorem dX12_laysEnds_149 : decode cX12_laysEnds 149 = .ok (.iload_n 1, 1) := by decide +kernel
theorem dX12_laysEnds_150 : decode cX12_laysEnds 150 = .ok (.invokevirtual 221, 3) := by decide +kernel
theorem dX12_laysEnds_153 : decode cX12_laysEnds 153 = .ok (.ladd, 1) := by decide +kernel
theorem dX12_laysEnds_154 : decode cX12_laysEnds 154 = .ok (.aload_n 0, 1) := by decide +kernel
theorem dX12_laysEnds_155 : decode cX12_laysEnds 155 = .ok (.iload 4, 2) := by decide +kernel
theorem dX12_laysEnds_157 : decode cX12_laysEnds 157 = .ok (.iconst 5, 1) := by decide +kernel
theorem dX12_laysEnds_158 : decode cX12_laysEnds 158 = .ok (.irem, 1) := by decide +kernel
theorem dX12_laysEnds_159 : decode cX12_laysEnds 159 = .ok (.iload_n 2, 1) := by decide +kernel
theorem dX12_laysEnds_160 : decode cX12_laysEnds 160 = .ok (.invokevirtual 253, 3) := by decide +kernel
theorem dX12_laysEnds_163 : decode cX12_laysEnds 163 = .ok (.ladd, 1) := by decide +kernel
theorem dX12_laysEnds_164 : decode cX12_laysEnds 164 = .ok (.bipush 10, 2) := by decide +kernel
theorem dX12_laysEnds_166 : decode cX12_laysEnds 166 = .ok (.aload_n 0, 1) := by decide +kernel
theorem dX12_laysEnds_167 : decode cX12_laysEnds 167 = .ok (.getfield 90, 3) := by decide +kernel
theorem dX12_laysEnds_170 : decode cX12_laysEnds 170 = .ok (.iload 5, 2) := by decide +kernel
theorem dX12_laysEnds_172 : decode cX12_laysEnds 172 = .ok (.iaload, 1) := by decide +kernel
theorem dX12_laysEnds_173 : decode cX12_laysEnds 173 = .ok (.imul, 1) := by decide +kernel
theorem dX12_laysEnds_174 : decode cX12_laysEnds 174 = .ok (.iload_n 2, 1) := by decide +kernel
theorem dX12_laysEnds_175 : decode cX12_laysEnds 175 = .ok (.iadd, 1) := by decide +kernel
theorem dX12_laysEnds_176 : decode cX12_laysEnds 176 = .ok (.iconst 1, 1) := by decide +kernel
theorem dX12_laysEnds_177 : decode cX12_laysEnds 177 = .ok (.iadd, 1) := by decide +kernel
theorem dX12_laysEnds_178 : decode cX12_laysEnds 178 = .ok (.invokevirtual 269, 3) := by decide +kernel
theorem dX12_laysEnds_181 : decode cX12_laysEnds 181 = .ok (.iinc 4 1, 3) := by decide +kernel
theorem dX12_laysEnds_184 : decode cX12_laysEnds 184 = .ok (.goto (-84), 3) := by decide +kernel
theorem dX12_laysEnds_187 : decode cX12_laysEnds 187 = .ok (.iinc 3 1, 3) := by decide +kernel
theorem dX12_laysEnds_190 : decode cX12_laysEnds 190 = .ok (.goto (-98), 3) := by decide +kernel
theorem dX12_laysEnds_193 : decode cX12_laysEnds 193 = .ok (.iinc 2 1, 3) := by decide +kernel
theorem dX12_laysEnds_196 : decode cX12_laysEnds 196 = .ok (.goto (-142), 3) := by decide +kernel
theorem dX12_laysEnds_199 : decode cX12_laysEnds 199 = .ok (.return_, 1) := by decide +kernel
def J_X12_laysEnds_b2 (v1 v2 : Int) (st : z_St) : Option ((Int × z_St) ⊕ z_St) :=
  z_g (z32 v2 ∧ z32 20) (if v2 < 20 then
    z_g (0 ≤ (20 * v1) + v2 ∧ (20 * v1) + v2 < 340) <|
    z_let (z_up st 193 ((20 * v1) + v2) 0) fun st1 =>
    z_g (0 ≤ (20 * v1) + v2 ∧ (20 * v1) + v2 < 340) <|
    z_let (z_up st1 192 ((20 * v1) + v2) 1000000000000000000) fun st2 =>
    z_g ((0 ≤ (20 * v1) + v2 ∧ (20 * v1) + v2 < 340) ∧ ((0 : Int) = 0 ∨ (0 : Int) = 1)) <|
    z_let (z_up st2 194 ((20 * v1) + v2) 0) fun st3 =>
    some (.inl (v2 + 1, st3))
  else
    some (.inr st))
set_option maxRecDepth 100000 in
set_option maxHeartbeats 4000000 in
theorem w_X12_laysEnds_b2 {κ : zK} {a : Nat → Nat} {v1 v2 : Int} {st : z_St} {mc9 ms9 : Nat} {o : (Int × z_St) ⊕ z_St} (hc : z_C κ RX12 cX12_laysEnds 6 11 mc9 ms9) (hap : z_AP κ a z_N) (k1 : ∀ s9 : (Int × z_St), o = .inl s9 → z_V κ z_T z_N a 0 0 2 [(0, .ref (a 168)), (1, .int (zI v1)), (2, .int (zI s9.1))] [] s9.2) (k2 : ∀ x9 : z_St, o = .inr x9 → z_V κ z_T z_N a 0 0 52 [(0, .ref (a 168)), (1, .int (zI v1))] [] x9) (h : J_X12_laysEnds_b2 v1 v2 st = some o) : z_V κ z_T z_N a 0 0 2 [(0, .ref (a 168)), (1, .int (zI v1)), (2, .int (zI v2))] [] st := by
  unfold J_X12_laysEnds_b2 at h
  refine z_iload_n (i := 2) 2 hc dX12_laysEnds_2 rfl rfl ?_
  refine z_bipush hc dX12_laysEnds_3 rfl ?_
  refine z_icmp_ge (tgt := 52) hc dX12_laysEnds_5 (by decide) h (fun c5 h => ?_) (fun c5 h => ?_)
  · refine z_aload_n (i := 0) 0 hc dX12_laysEnds_8 rfl rfl ?_
    refine z_getA (k' := 193) hc fl_RX12_90 tT_168 (by decide) rfl rfl dX12_laysEnds_9 ?_
    refine z_bipush hc dX12_laysEnds_12 rfl ?_
    refine z_iload_n (i := 1) 1 hc dX12_laysEnds_14 rfl rfl ?_
    refine z_imul hc dX12_laysEnds_15 ?_
    refine z_iload_n (i := 2) 2 hc dX12_laysEnds_16 rfl rfl ?_
    refine z_iadd hc dX12_laysEnds_17 ?_
    refine z_iconst hc dX12_laysEnds_18 ?_
    refine z_iast (kI := 193) (nI9 := 340) hc hap tT_193 (by decide) rfl rfl (by decide) dX12_laysEnds_19 h (fun st1 h => ?_)
    refine z_aload_n (i := 0) 0 hc dX12_laysEnds_20 rfl rfl ?_
    refine z_getA (k' := 192) hc fl_RX12_87 tT_168 (by decide) rfl rfl dX12_laysEnds_21 ?_
    refine z_bipush hc dX12_laysEnds_24 rfl ?_
    refine z_iload_n (i := 1) 1 hc dX12_laysEnds_26 rfl rfl ?_
    refine z_imul hc dX12_laysEnds_27 ?_
    refine z_iload_n (i := 2) 2 hc dX12_laysEnds_28 rfl rfl ?_
    refine z_iadd hc dX12_laysEnds_29 ?_
    refine z_ldc2 1000000000000000000 hc kc_RX12_205 dX12_laysEnds_30 rfl ?_
    refine z_last (kI := 192) (nI9 := 340) hc hap tT_192 (by decide) rfl rfl (by decide) dX12_laysEnds_33 h (fun st2 h => ?_)
    refine z_aload_n (i := 0) 0 hc dX12_laysEnds_34 rfl rfl ?_
    refine z_getA (k' := 194) hc fl_RX12_93 tT_168 (by decide) rfl rfl dX12_laysEnds_35 ?_
    refine z_bipush hc dX12_laysEnds_38 rfl ?_
    refine z_iload_n (i := 1) 1 hc dX12_laysEnds_40 rfl rfl ?_
    refine z_imul hc dX12_laysEnds_41 ?_
    refine z_iload_n (i := 2) 2 hc dX12_laysEnds_42 rfl rfl ?_
    refine z_iadd hc dX12_laysEnds_43 ?_
    refine z_iconst hc dX12_laysEnds_44 ?_
    refine z_zast (kI := 194) (nI9 := 340) hc hap tT_194 (by decide) rfl rfl (by decide) dX12_laysEnds_45 h (fun st3 h => ?_)
    refine z_iinc [(2, .int (zI (v2 + 1))), (0, .ref (a 168)), (1, .int (zI v1))] 2 hc dX12_laysEnds_46 rfl (by decide) rfl ?_
    refine z_goto (tgt := 2) hc dX12_laysEnds_49 (by decide) ?_
    refine z_sub [(0, .ref (a 168)), (1, .int (zI v1)), (2, .int (zI (v2 + 1)))] [1, 2, 0] rfl ?_
    exact k1 _ (Option.some.inj h).symm
  · refine z_sub [(0, .ref (a 168)), (1, .int (zI v1))] [0, 1] rfl ?_
    exact k2 st (Option.some.inj h).symm
def J_X12_laysEnds_181 (v1 v2 v3 v4 : Int) (st : z_St) : Option ((Int × z_St) ⊕ z_St) :=
  some (.inl (v4 + 1, st))
set_option maxRecDepth 100000 in
set_option maxHeartbeats 4000000 in
theorem w_X12_laysEnds_181 {κ : zK} {a : Nat → Nat} {v1 v2 v3 v4 : Int} {st : z_St} {mc9 ms9 : Nat} {o : (Int × z_St) ⊕ z_St} (hc : z_C κ RX12 cX12_laysEnds 6 11 mc9 ms9) (hap : z_AP κ a z_N) (k1 : ∀ s9 : (Int × z_St), o = .inl s9 → z_V κ z_T z_N a 0 0 100 [(0, .ref (a 168)), (1, .int (zI v1)), (2, .int (zI v2)), (3, .int (zI v3)), (4, .int (zI s9.1))] [] s9.2) (k2 : ∀ x9 : z_St, o = .inr x9 → z_V κ z_T z_N a 0 0 187 [(0, .ref (a 168)), (1, .int (zI v1)), (2, .int (zI v2)), (3, .int (zI v3))] [] x9) (h : J_X12_laysEnds_181 v1 v2 v3 v4 st = some o) : z_V κ z_T z_N a 0 0 181 [(0, .ref (a 168)), (1, .int (zI v1)), (2, .int (zI v2)), (3, .int (zI v3)), (4, .int (zI v4))] [] st := by
  unfold J_X12_laysEnds_181 at h
  refine z_iinc [(4, .int (zI (v4 + 1))), (0, .ref (a 168)), (1, .int (zI v1)), (2, .int (zI v2)), (3, .int (zI v3))] 4 hc dX12_laysEnds_181 rfl (by decide) rfl ?_
  refine z_goto (tgt := 100) hc dX12_laysEnds_184 (by decide) ?_
  refine z_sub [(0, .ref (a 168)), (1, .int (zI v1)), (2, .int (zI v2)), (3, .int (zI v3)), (4, .int (zI (v4 + 1)))] [1, 2, 3, 4, 0] rfl ?_
  exact k1 _ (Option.some.inj h).symm
def J_X12_laysEnds_b100 (v1 v2 v3 v4 : Int) (st : z_St) : Option ((Int × z_St) ⊕ z_St) :=
  z_g (z32 v4 ∧ z32 15) (if v4 < 15 then
    z_g (0 ≤ (20 * v3) + v4 ∧ (20 * v3) + v4 < 340) <|
    z_g (z32 (st 194 ((20 * v3) + v4))) (if st 194 ((20 * v3) + v4) = 0 then
      J_X12_laysEnds_181 v1 v2 v3 v4 st
    else
      z_g (z32 v4 ∧ z32 5 ∧ (5 : Int) ≠ 0) <|
      z_b (J_X12_end v1 ((v4.tdiv 5) + 2) v2 st) fun r14 =>
      z_g (0 ≤ (20 * v3) + v4 ∧ (20 * v3) + v4 < 340) <|
      z_b (J_X12_tableOf v2 v3 v1 st) fun r17 =>
      z_g (z32 v4 ∧ z32 5 ∧ (5 : Int) ≠ 0) <|
      z_b (J_X12_dear (v4.tmod 5) v2 st) fun r19 =>
      z_g (0 ≤ (20 * v3) + v4 ∧ (20 * v3) + v4 < 340) <|
      z_b (J_X12_comes r14 (((st 192 ((20 * v3) + v4)) + r17) + r19) (((10 * (st 193 ((20 * v3) + v4))) + v2) + 1) st) fun st23 =>
      J_X12_laysEnds_181 v1 v2 v3 v4 st23)
  else
    some (.inr st))
set_option maxRecDepth 100000 in
set_option maxHeartbeats 4000000 in
theorem w_X12_laysEnds_b100 {κ : zK} {a : Nat → Nat} {v1 v2 v3 v4 : Int} {st : z_St} {mc9 ms9 : Nat} {o : (Int × z_St) ⊕ z_St} (hc : z_C κ RX12 cX12_laysEnds 6 11 mc9 ms9) (hap : z_AP κ a z_N) (k1 : ∀ s9 : (Int × z_St), o = .inl s9 → z_V κ z_T z_N a 0 0 100 [(0, .ref (a 168)), (1, .int (zI v1)), (2, .int (zI v2)), (3, .int (zI v3)), (4, .int (zI s9.1))] [] s9.2) (k2 : ∀ x9 : z_St, o = .inr x9 → z_V κ z_T z_N a 0 0 187 [(0, .ref (a 168)), (1, .int (zI v1)), (2, .int (zI v2)), (3, .int (zI v3))] [] x9) (h : J_X12_laysEnds_b100 v1 v2 v3 v4 st = some o) : z_V κ z_T z_N a 0 0 100 [(0, .ref (a 168)), (1, .int (zI v1)), (2, .int (zI v2)), (3, .int (zI v3)), (4, .int (zI v4))] [] st := by
  unfold J_X12_laysEnds_b100 at h
  refine z_iload 4 hc dX12_laysEnds_100 rfl ?_
  refine z_bipush hc dX12_laysEnds_102 rfl ?_
  refine z_icmp_ge (tgt := 187) hc dX12_laysEnds_104 (by decide) h (fun c104 h => ?_) (fun c104 h => ?_)
  · refine z_bipush hc dX12_laysEnds_107 rfl ?_
    refine z_iload_n (i := 3) 3 hc dX12_laysEnds_109 rfl rfl ?_
    refine z_imul hc dX12_laysEnds_110 ?_
    refine z_iload 4 hc dX12_laysEnds_111 rfl ?_
    refine z_iadd hc dX12_laysEnds_113 ?_
    refine z_istore [(5, .int (zI ((20 * v3) + v4))), (0, .ref (a 168)), (1, .int (zI v1)), (2, .int (zI v2)), (3, .int (zI v3)), (4, .int (zI v4))] hc dX12_laysEnds_114 (by decide) rfl ?_
    refine z_aload_n (i := 0) 1 hc dX12_laysEnds_116 rfl rfl ?_
    refine z_getA (k' := 194) hc fl_RX12_93 tT_168 (by decide) rfl rfl dX12_laysEnds_117 ?_
    refine z_iload 0 hc dX12_laysEnds_120 rfl ?_
    refine z_zald (kI := 194) (nI9 := 340) hc tT_194 (by decide) rfl rfl (by decide) dX12_laysEnds_122 h (fun g13 h => ?_)
    refine z_if_eq (tgt := 181) hc dX12_laysEnds_123 (by decide) h (fun c123 h => ?_) (fun c123 h => ?_)
    · refine z_sub [(0, .ref (a 168)), (1, .int (zI v1)), (2, .int (zI v2)), (3, .int (zI v3)), (4, .int (zI v4))] [1, 2, 3, 4, 5] rfl ?_
      exact w_X12_laysEnds_181 hc hap k1 k2 h
    · refine z_aload_n (i := 0) 1 hc dX12_laysEnds_126 rfl rfl ?_
      refine z_aload_n (i := 0) 1 hc dX12_laysEnds_127 rfl rfl ?_
      refine z_iload_n (i := 1) 2 hc dX12_laysEnds_128 rfl rfl ?_
      refine z_iload 5 hc dX12_laysEnds_129 rfl ?_
      refine z_iconst hc dX12_laysEnds_131 ?_
      refine z_idiv hc dX12_laysEnds_132 h (fun h => ?_)
      refine z_iconst hc dX12_laysEnds_133 ?_
      refine z_iadd hc dX12_laysEnds_134 ?_
      refine z_iload_n (i := 2) 3 hc dX12_laysEnds_135 rfl rfl ?_
      obtain ⟨r14, hr14, h⟩ := z_b_some h
      refine z_callVI [.int (zI v1), .int (zI ((v4.tdiv 5) + 2)), .int (zI v2)] hc hap o_X12_end ml_RX12_266 (fun l hl => c_X12_end hl  hr14) (by decide) tT_168 (by decide) ⟨_, rfl, rfl⟩ rfl rfl (Nat.le_of_ble_eq_true rfl) (Nat.zero_le _) (Nat.zero_le _) dX12_laysEnds_136 ?_
      refine z_aload_n (i := 0) 1 hc dX12_laysEnds_139 rfl rfl ?_
      refine z_getA (k' := 192) hc fl_RX12_87 tT_168 (by decide) rfl rfl dX12_laysEnds_140 ?_
      refine z_iload 0 hc dX12_laysEnds_143 rfl ?_
      refine z_lald (kI := 192) (nI9 := 340) hc tT_192 (by decide) rfl rfl (by decide) dX12_laysEnds_145 h (fun g16 h => ?_)
      refine z_aload_n (i := 0) 1 hc dX12_laysEnds_146 rfl rfl ?_
      refine z_iload_n (i := 2) 3 hc dX12_laysEnds_147 rfl rfl ?_
      refine z_iload_n (i := 3) 4 hc dX12_laysEnds_148 rfl rfl ?_
      refine z_iload_n (i := 1) 2 hc dX12_laysEnds_149 rfl rfl ?_
      obtain ⟨r17, hr17, h⟩ := z_b_some h
      refine z_callVJ [.int (zI v2), .int (zI v3), .int (zI v1)] hc hap o_X12_tableOf ml_RX12_221 (fun l hl => c_X12_tableOf hl  hr17) (by decide) tT_168 (by decide) ⟨_, rfl, rfl⟩ rfl rfl (Nat.le_of_ble_eq_true rfl) (Nat.zero_le _) (Nat.zero_le _) dX12_laysEnds_150 ?_
      refine z_ladd hc dX12_laysEnds_153 ?_
      refine z_aload_n (i := 0) 1 hc dX12_laysEnds_154 rfl rfl ?_
      refine z_iload 5 hc dX12_laysEnds_155 rfl ?_
      refine z_iconst hc dX12_laysEnds_157 ?_
      refine z_irem hc dX12_laysEnds_158 h (fun h => ?_)
      refine z_iload_n (i := 2) 3 hc dX12_laysEnds_159 rfl rfl ?_
      obtain ⟨r19, hr19, h⟩ := z_b_some h
      refine z_callVJ [.int (zI (v4.tmod 5)), .int (zI v2)] hc hap o_X12_dear ml_RX12_253 (fun l hl => c_X12_dear hl  hr19) (by decide) tT_168 (by decide) ⟨_, rfl, rfl⟩ rfl rfl (Nat.le_of_ble_eq_true rfl) (Nat.zero_le _) (Nat.zero_le _) dX12_laysEnds_160 ?_
      refine z_ladd hc dX12_laysEnds_163 ?_
      refine z_bipush hc dX12_laysEnds_164 rfl ?_
      refine z_aload_n (i := 0) 1 hc dX12_laysEnds_166 rfl rfl ?_
      refine z_getA (k' := 193) hc fl_RX12_90 tT_168 (by decide) rfl rfl dX12_laysEnds_167 ?_
      refine z_iload 0 hc dX12_laysEnds_170 rfl ?_
      refine z_iald (kI := 193) (nI9 := 340) hc tT_193 (by decide) rfl rfl (by decide) dX12_laysEnds_172 h (fun g21 h => ?_)
      refine z_imul hc dX12_laysEnds_173 ?_
      refine z_iload_n (i := 2) 3 hc dX12_laysEnds_174 rfl rfl ?_
      refine z_iadd hc dX12_laysEnds_175 ?_
      refine z_iconst hc dX12_laysEnds_176 ?_
      refine z_iadd hc dX12_laysEnds_177 ?_
      obtain ⟨st23, hr22, h⟩ := z_b_some h
      refine z_callVV [.int (zI r14), .long (zJ (((st 192 ((20 * v3) + v4)) + r17) + r19)), .int (zI (((10 * (st 193 ((20 * v3) + v4))) + v2) + 1))] hc hap o_X12_comes ml_RX12_269 (fun l hl => c_X12_comes hl  hr22) (by decide) tT_168 (by decide) ⟨_, rfl, rfl⟩ rfl rfl (Nat.le_of_ble_eq_true rfl) (Nat.zero_le _) (Nat.zero_le _) dX12_laysEnds_178 ?_
      refine z_sub [(0, .ref (a 168)), (1, .int (zI v1)), (2, .int (zI v2)), (3, .int (zI v3)), (4, .int (zI v4))] [1, 2, 3, 4, 5] rfl ?_
      exact w_X12_laysEnds_181 hc hap k1 k2 h
  · refine z_sub [(0, .ref (a 168)), (1, .int (zI v1)), (2, .int (zI v2)), (3, .int (zI v3))] [0, 1, 2, 3] rfl ?_
    exact k2 st (Option.some.inj h).symm
def J_X12_laysEnds_b92 (v1 v2 v3 : Int) (st : z_St) : Option ((Int × z_St) ⊕ z_St) :=
  z_g (z32 v3 ∧ z32 v1) (if v3 < v1 then
    z_b (z_iter z_F (fun q9 : (Int × z_St) => J_X12_laysEnds_b100 v1 v2 v3 q9.1 q9.2) (0, st)) fun lx24 =>
      some (.inl (v3 + 1, lx24))
  else
    some (.inr st))
set_option maxRecDepth 100000 in
set_option maxHeartbeats 4000000 in
theorem w_X12_laysEnds_b92 {κ : zK} {a : Nat → Nat} {v1 v2 v3 : Int} {st : z_St} {mc9 ms9 : Nat} {o : (Int × z_St) ⊕ z_St} (hc : z_C κ RX12 cX12_laysEnds 6 11 mc9 ms9) (hap : z_AP κ a z_N) (k1 : ∀ s9 : (Int × z_St), o = .inl s9 → z_V κ z_T z_N a 0 0 92 [(0, .ref (a 168)), (1, .int (zI v1)), (2, .int (zI v2)), (3, .int (zI s9.1))] [] s9.2) (k2 : ∀ x9 : z_St, o = .inr x9 → z_V κ z_T z_N a 0 0 193 [(0, .ref (a 168)), (1, .int (zI v1)), (2, .int (zI v2))] [] x9) (h : J_X12_laysEnds_b92 v1 v2 v3 st = some o) : z_V κ z_T z_N a 0 0 92 [(0, .ref (a 168)), (1, .int (zI v1)), (2, .int (zI v2)), (3, .int (zI v3))] [] st := by
  unfold J_X12_laysEnds_b92 at h
  refine z_iload_n (i := 3) 3 hc dX12_laysEnds_92 rfl rfl ?_
  refine z_iload_n (i := 1) 1 hc dX12_laysEnds_93 rfl rfl ?_
  refine z_icmp_ge (tgt := 193) hc dX12_laysEnds_94 (by decide) h (fun c94 h => ?_) (fun c94 h => ?_)
  · refine z_iconst hc dX12_laysEnds_97 ?_
    refine z_istore [(4, .int (zI 0)), (0, .ref (a 168)), (1, .int (zI v1)), (2, .int (zI v2)), (3, .int (zI v3))] hc dX12_laysEnds_98 (by decide) rfl ?_
    obtain ⟨lx24, hlx24, h⟩ := z_b_some h
    refine z_sub [(0, .ref (a 168)), (1, .int (zI v1)), (2, .int (zI v2)), (3, .int (zI v3)), (4, .int (zI 0))] [1, 2, 3, 4, 0] rfl ?_
    refine z_loop (fun q9 : (Int × z_St) => J_X12_laysEnds_b100 v1 v2 v3 q9.1 q9.2) (fun q9 : (Int × z_St) => z_V κ z_T z_N a 0 0 100 [(0, .ref (a 168)), (1, .int (zI v1)), (2, .int (zI v2)), (3, .int (zI v3)), (4, .int (zI q9.1))] [] q9.2) (fun x9 : z_St => z_V κ z_T z_N a 0 0 187 [(0, .ref (a 168)), (1, .int (zI v1)), (2, .int (zI v2)), (3, .int (zI v3))] [] x9) (fun q9 o9 hb k1 k2 => ?_) _ _ _ hlx24 ?_
    · exact w_X12_laysEnds_b100 hc hap k1 k2 hb
    · show z_V κ z_T z_N a 0 0 187 [(0, .ref (a 168)), (1, .int (zI v1)), (2, .int (zI v2)), (3, .int (zI v3))] [] lx24
      refine z_iinc [(3, .int (zI (v3 + 1))), (0, .ref (a 168)), (1, .int (zI v1)), (2, .int (zI v2))] 3 hc dX12_laysEnds_187 rfl (by decide) rfl ?_
      refine z_goto (tgt := 92) hc dX12_laysEnds_190 (by decide) ?_
      refine z_sub [(0, .ref (a 168)), (1, .int (zI v1)), (2, .int (zI v2)), (3, .int (zI (v3 + 1)))] [1, 2, 3, 0] rfl ?_
      exact k1 _ (Option.some.inj h).symm
  · refine z_sub [(0, .ref (a 168)), (1, .int (zI v1)), (2, .int (zI v2))] [0, 1, 2] rfl ?_
    exact k2 st (Option.some.inj h).symm
def J_X12_laysEnds_b54 (v1 v2 : Int) (st : z_St) : Option ((Int × z_St) ⊕ z_St) :=
  z_g (z32 v2 ∧ z32 (st 168 18)) (if v2 < st 168 18 then
    z_b (J_X12_end v1 1 v2 st) fun r5 =>
    z_b (J_X12_tableOf v2 0 v1 st) fun r7 =>
    z_b (J_X12_dear 5 v2 st) fun r9 =>
    z_b (J_X12_comes r5 (r7 + r9) (v2 + 1) st) fun st12 =>
    z_b (z_iter z_F (fun q9 : (Int × z_St) => J_X12_laysEnds_b92 v1 v2 q9.1 q9.2) (1, st12)) fun lx25 =>
      some (.inl (v2 + 1, lx25))
  else
    some (.inr st))
set_option maxRecDepth 100000 in
set_option maxHeartbeats 4000000 in
theorem w_X12_laysEnds_b54 {κ : zK} {a : Nat → Nat} {v1 v2 : Int} {st : z_St} {mc9 ms9 : Nat} {o : (Int × z_St) ⊕ z_St} (hc : z_C κ RX12 cX12_laysEnds 6 11 mc9 ms9) (hap : z_AP κ a z_N) (k1 : ∀ s9 : (Int × z_St), o = .inl s9 → z_V κ z_T z_N a 0 0 54 [(0, .ref (a 168)), (1, .int (zI v1)), (2, .int (zI s9.1))] [] s9.2) (k2 : ∀ x9 : z_St, o = .inr x9 → z_V κ z_T z_N a 0 0 199 [] [] x9) (h : J_X12_laysEnds_b54 v1 v2 st = some o) : z_V κ z_T z_N a 0 0 54 [(0, .ref (a 168)), (1, .int (zI v1)), (2, .int (zI v2))] [] st := by
  unfold J_X12_laysEnds_b54 at h
  refine z_iload_n (i := 2) 2 hc dX12_laysEnds_54 rfl rfl ?_
  refine z_aload_n (i := 0) 0 hc dX12_laysEnds_55 rfl rfl ?_
  refine z_getI (kI := 168) (jI := 18) hc fl_RX12_189 tT_168 (by decide) rfl rfl rfl dX12_laysEnds_56 ?_
  refine z_icmp_ge (tgt := 199) hc dX12_laysEnds_59 (by decide) h (fun c59 h => ?_) (fun c59 h => ?_)
  · refine z_aload_n (i := 0) 0 hc dX12_laysEnds_62 rfl rfl ?_
    refine z_aload_n (i := 0) 0 hc dX12_laysEnds_63 rfl rfl ?_
    refine z_iload_n (i := 1) 1 hc dX12_laysEnds_64 rfl rfl ?_
    refine z_iconst hc dX12_laysEnds_65 ?_
    refine z_iload_n (i := 2) 2 hc dX12_laysEnds_66 rfl rfl ?_
    obtain ⟨r5, hr5, h⟩ := z_b_some h
    refine z_callVI [.int (zI v1), .int (zI 1), .int (zI v2)] hc hap o_X12_end ml_RX12_266 (fun l hl => c_X12_end hl  hr5) (by decide) tT_168 (by decide) ⟨_, rfl, rfl⟩ rfl rfl (Nat.le_of_ble_eq_true rfl) (Nat.zero_le _) (Nat.zero_le _) dX12_laysEnds_67 ?_
    refine z_aload_n (i := 0) 0 hc dX12_laysEnds_70 rfl rfl ?_
    refine z_iload_n (i := 2) 2 hc dX12_laysEnds_71 rfl rfl ?_
    refine z_iconst hc dX12_laysEnds_72 ?_
    refine z_iload_n (i := 1) 1 hc dX12_laysEnds_73 rfl rfl ?_
    obtain ⟨r7, hr7, h⟩ := z_b_some h
    refine z_callVJ [.int (zI v2), .int (zI 0), .int (zI v1)] hc hap o_X12_tableOf ml_RX12_221 (fun l hl => c_X12_tableOf hl  hr7) (by decide) tT_168 (by decide) ⟨_, rfl, rfl⟩ rfl rfl (Nat.le_of_ble_eq_true rfl) (Nat.zero_le _) (Nat.zero_le _) dX12_laysEnds_74 ?_
    refine z_aload_n (i := 0) 0 hc dX12_laysEnds_77 rfl rfl ?_
    refine z_iconst hc dX12_laysEnds_78 ?_
    refine z_iload_n (i := 2) 2 hc dX12_laysEnds_79 rfl rfl ?_
    obtain ⟨r9, hr9, h⟩ := z_b_some h
    refine z_callVJ [.int (zI 5), .int (zI v2)] hc hap o_X12_dear ml_RX12_253 (fun l hl => c_X12_dear hl  hr9) (by decide) tT_168 (by decide) ⟨_, rfl, rfl⟩ rfl rfl (Nat.le_of_ble_eq_true rfl) (Nat.zero_le _) (Nat.zero_le _) dX12_laysEnds_80 ?_
    refine z_ladd hc dX12_laysEnds_83 ?_
    refine z_iload_n (i := 2) 2 hc dX12_laysEnds_84 rfl rfl ?_
    refine z_iconst hc dX12_laysEnds_85 ?_
    refine z_iadd hc dX12_laysEnds_86 ?_
    obtain ⟨st12, hr11, h⟩ := z_b_some h
    refine z_callVV [.int (zI r5), .long (zJ (r7 + r9)), .int (zI (v2 + 1))] hc hap o_X12_comes ml_RX12_269 (fun l hl => c_X12_comes hl  hr11) (by decide) tT_168 (by decide) ⟨_, rfl, rfl⟩ rfl rfl (Nat.le_of_ble_eq_true rfl) (Nat.zero_le _) (Nat.zero_le _) dX12_laysEnds_87 ?_
    refine z_iconst hc dX12_laysEnds_90 ?_
    refine z_istore_n (i := 3) [(3, .int (zI 1)), (0, .ref (a 168)), (1, .int (zI v1)), (2, .int (zI v2))] hc dX12_laysEnds_91 rfl (by decide) rfl ?_
    obtain ⟨lx25, hlx25, h⟩ := z_b_some h
    refine z_sub [(0, .ref (a 168)), (1, .int (zI v1)), (2, .int (zI v2)), (3, .int (zI 1))] [1, 2, 3, 0] rfl ?_
    refine z_loop (fun q9 : (Int × z_St) => J_X12_laysEnds_b92 v1 v2 q9.1 q9.2) (fun q9 : (Int × z_St) => z_V κ z_T z_N a 0 0 92 [(0, .ref (a 168)), (1, .int (zI v1)), (2, .int (zI v2)), (3, .int (zI q9.1))] [] q9.2) (fun x9 : z_St => z_V κ z_T z_N a 0 0 193 [(0, .ref (a 168)), (1, .int (zI v1)), (2, .int (zI v2))] [] x9) (fun q9 o9 hb k1 k2 => ?_) _ _ _ hlx25 ?_
    · exact w_X12_laysEnds_b92 hc hap k1 k2 hb
    · show z_V κ z_T z_N a 0 0 193 [(0, .ref (a 168)), (1, .int (zI v1)), (2, .int (zI v2))] [] lx25
      refine z_iinc [(2, .int (zI (v2 + 1))), (0, .ref (a 168)), (1, .int (zI v1))] 2 hc dX12_laysEnds_193 rfl (by decide) rfl ?_
      refine z_goto (tgt := 54) hc dX12_laysEnds_196 (by decide) ?_
      refine z_sub [(0, .ref (a 168)), (1, .int (zI v1)), (2, .int (zI (v2 + 1)))] [1, 2, 0] rfl ?_
      exact k1 _ (Option.some.inj h).symm
  · refine z_sub [] [] rfl ?_
    exact k2 st (Option.some.inj h).symm
def J_X12_laysEnds (x1 : Int) (st : z_St) : Option (z_St) :=
  z_b (z_iter z_F (fun q9 : (Int × z_St) => J_X12_laysEnds_b2 x1 q9.1 q9.2) (0, st)) fun lx4 =>
    z_b (z_iter z_F (fun q9 : (Int × z_St) => J_X12_laysEnds_b54 x1 q9.1 q9.2) (0, lx4)) fun lx26 =>
      some lx26
set_option maxRecDepth 100000 in
set_option maxHeartbeats 4000000 in
theorem w_X12_laysEnds {κ : zK} {a : Nat → Nat} {x1 : Int} {st : z_St} {o : z_St} (hc : z_C κ RX12 cX12_laysEnds 6 11 0 0) (hap : z_AP κ a z_N) (he : z_E 2 κ none z_T z_N a 0 o) (h : J_X12_laysEnds x1 st = some o) : z_V κ z_T z_N a 0 0 0 [(0, .ref (a 168)), (1, .int (zI x1))] [] st := by
  unfold J_X12_laysEnds at h
  refine z_iconst hc dX12_laysEnds_0 ?_
  refine z_istore_n (i := 2) [(2, .int (zI 0)), (0, .ref (a 168)), (1, .int (zI x1))] hc dX12_laysEnds_1 rfl (by decide) rfl ?_
  obtain ⟨lx4, hlx4, h⟩ := z_b_some h
  refine z_sub [(0, .ref (a 168)), (1, .int (zI x1)), (2, .int (zI 0))] [1, 2, 0] rfl ?_
  refine z_loop (fun q9 : (Int × z_St) => J_X12_laysEnds_b2 x1 q9.1 q9.2) (fun q9 : (Int × z_St) => z_V κ z_T z_N a 0 0 2 [(0, .ref (a 168)), (1, .int (zI x1)), (2, .int (zI q9.1))] [] q9.2) (fun x9 : z_St => z_V κ z_T z_N a 0 0 52 [(0, .ref (a 168)), (1, .int (zI x1))] [] x9) (fun q9 o9 hb k1 k2 => ?_) _ _ _ hlx4 ?_
  · exact w_X12_laysEnds_b2 hc hap k1 k2 hb
  · show z_V κ z_T z_N a 0 0 52 [(0, .ref (a 168)), (1, .int (zI x1))] [] lx4
    refine z_iconst hc dX12_laysEnds_52 ?_
    refine z_istore_n (i := 2) [(2, .int (zI 0)), (0, .ref (a 168)), (1, .int (zI x1))] hc dX12_laysEnds_53 rfl (by decide) rfl ?_
    obtain ⟨lx26, hlx26, h⟩ := z_b_some h
    refine z_sub [(0, .ref (a 168)), (1, .int (zI x1)), (2, .int (zI 0))] [1, 2, 0] rfl ?_
    refine z_loop (fun q9 : (Int × z_St) => J_X12_laysEnds_b54 x1 q9.1 q9.2) (fun q9 : (Int × z_St) => z_V κ z_T z_N a 0 0 54 [(0, .ref (a 168)), (1, .int (zI x1)), (2, .int (zI q9.1))] [] q9.2) (fun x9 : z_St => z_V κ z_T z_N a 0 0 199 [] [] x9) (fun q9 o9 hb k1 k2 => ?_) _ _ _ hlx26 ?_
    · exact w_X12_laysEnds_b54 hc hap k1 k2 hb
    · show z_V κ z_T z_N a 0 0 199 [] [] lx26
      have h := Option.some.inj h
      subst h
      exact z_retV hc he dX12_laysEnds_199
set_option maxRecDepth 100000 in
set_option maxHeartbeats 4000000 in
theorem c_X12_laysEnds {l : Launch} (hl : l.stackTraces = false) {a : Nat → Nat} {x1 : Int} {st : z_St} {o : z_St} (h : J_X12_laysEnds x1 st = some o) : z_M 2 l yX12_laysEnds cX12_laysEnds 6 none 11 z_T z_N a [.ref (a 168), .int (zI x1)] st 0 o := z_of hl (by decide +kernel) (Nat.le_of_ble_eq_true rfl) (fun κ hc hap he => w_X12_laysEnds hc hap he h)
theorem dX12_isAhead_0 : decode cX12_isAhead 0 = .ok (.aload_n 0, 1) := by decide +kernel
theorem dX12_isAhead_1 : decode cX12_isAhead 1 = .ok (.getfield 87, 3) := by decide +kernel
theorem dX12_isAhead_4 : decode cX12_isAhead 4 = .ok (.iload_n 1, 1) := by decide +kernel
theorem dX12_isAhead_5 : decode cX12_isAhead 5 = .ok (.laload, 1) := by decide +kernel
theorem dX12_isAhead_6 : decode cX12_isAhead 6 = .ok (.aload_n 0, 1) := by decide +kernel
theorem dX12_isAhead_7 : decode cX12_isAhead 7 = .ok (.getfield 87, 3) := by decide +kernel
theorem dX12_isAhead_10 : decode cX12_isAhead 10 = .ok (.iload_n 2, 1) := by decide +kernel
theorem dX12_isAhead_11 : decode cX12_isAhead 11 = .ok (.laload, 1) := by decide +kernel
theorem dX12_isAhead_12 : decode cX12_isAhead 12 = .ok (.lcmp, 1) := by decide +kernel
theorem dX12_isAhead_13 : decode cX12_isAhead 13 = .ok (.ifCond .lt 34, 3) := by decide +kernel
theorem dX12_isAhead_16 : decode cX12_isAhead 16 = .ok (.aload_n 0, 1) := by decide +kernel
theorem dX12_isAhead_17 : decode cX12_isAhead 17 = .ok (.getfield 87, 3) := by decide +kernel
theorem dX12_isAhead_20 : decode cX12_isAhead 20 = .ok (.iload_n 1, 1) := by decide +kernel
theorem dX12_isAhead_21 : decode cX12_isAhead 21 = .ok (.laload, 1) := by decide +kernel
theorem dX12_isAhead_22 : decode cX12_isAhead 22 = .ok (.aload_n 0, 1) := by decide +kernel
theorem dX12_isAhead_23 : decode cX12_isAhead 23 = .ok (.getfield 87, 3) := by decide +kernel
theorem dX12_isAhead_26 : decode cX12_isAhead 26 = .ok (.iload_n 2, 1) := by decide +kernel
theorem dX12_isAhead_27 : decode cX12_isAhead 27 = .ok (.laload, 1) := by decide +kernel
theorem dX12_isAhead_28 : decode cX12_isAhead 28 = .ok (.lcmp, 1) := by decide +kernel
theorem dX12_isAhead_29 : decode cX12_isAhead 29 = .ok (.ifCond .ne 22, 3) := by decide +kernel
theorem dX12_isAhead_32 : decode cX12_isAhead 32 = .ok (.aload_n 0, 1) := by decide +kernel
theorem dX12_isAhead_33 : decode cX12_isAhead 33 = .ok (.getfield 90, 3) := by decide +kernel
theorem dX12_isAhead_36 : decode cX12_isAhead 36 = .ok (.iload_n 1, 1) := by decide +kernel
theorem dX12_isAhead_37 : decode cX12_isAhead 37 = .ok (.iaload, 1) := by decide +kernel
theorem dX12_isAhead_38 : decode cX12_isAhead 38 = .ok (.aload_n 0, 1) := by decide +kernel
theorem dX12_isAhead_39 : decode cX12_isAhead 39 = .ok (.getfield 90, 3) := by decide +kernel
theorem dX12_isAhead_42 : decode cX12_isAhead 42 = .ok (.iload_n 2, 1) := by decide +kernel
theorem dX12_isAhead_43 : decode cX12_isAhead 43 = .ok (.iaload, 1) := by decide +kernel
theorem dX12_isAhead_44 : decode cX12_isAhead 44 = .ok (.if_icmp .ge 7, 3) := by decide +kernel
theorem dX12_isAhead_47 : decode cX12_isAhead 47 = .ok (.iconst 1, 1) := by decide +kernel
theorem dX12_isAhead_48 : decode cX12_isAhead 48 = .ok (.goto 4, 3) := by decide +kernel
theorem dX12_isAhead_51 : decode cX12_isAhead 51 = .ok (.iconst 0, 1) := by decide +kernel
theorem dX12_isAhead_52 : decode cX12_isAhead 52 = .ok (.ireturn, 1) := by decide +kernel
def J_X12_isAhead_52 (s0 : Int) (st : z_St) : Option (Int) :=
  z_g (s0 = 0 ∨ s0 = 1) <|
  some s0
set_option maxRecDepth 100000 in
set_option maxHeartbeats 4000000 in
theorem w_X12_isAhead_52 {κ : zK} {a : Nat → Nat} {s0 : Int} {st : z_St} {o : Int} (hc : z_C κ RX12 cX12_isAhead 3 8 0 0) (hap : z_AP κ a z_N) (he : z_E 0 κ (some .boolean) z_T z_N a o st) (h : J_X12_isAhead_52 s0 st = some o) : z_V κ z_T z_N a 0 0 52 [] [.int (zI s0)] st := by
  unfold J_X12_isAhead_52 at h
  obtain ⟨hz, h⟩ := z_g_some h
  have h := Option.some.inj h
  subst h
  exact z_retZ hc he hz dX12_isAhead_52
def J_X12_isAhead_47 (st : z_St) : Option (Int) :=
  J_X12_isAhead_52 1 st
set_option maxRecDepth 100000 in
set_option maxHeartbeats 4000000 in
theorem w_X12_isAhead_47 {κ : zK} {a : Nat → Nat} {st : z_St} {o : Int} (hc : z_C κ RX12 cX12_isAhead 3 8 0 0) (hap : z_AP κ a z_N) (he : z_E 0 κ (some .boolean) z_T z_N a o st) (h : J_X12_isAhead_47 st = some o) : z_V κ z_T z_N a 0 0 47 [] [] st := by
  unfold J_X12_isAhead_47 at h
  refine z_iconst hc dX12_isAhead_47 ?_
  refine z_goto (tgt := 52) hc dX12_isAhead_48 (by decide) ?_
  refine z_sub [] [] rfl ?_
  exact w_X12_isAhead_52 hc hap he h
def J_X12_isAhead_51 (st : z_St) : Option (Int) :=
  J_X12_isAhead_52 0 st
set_option maxRecDepth 100000 in
set_option maxHeartbeats 4000000 in
theorem w_X12_isAhead_51 {κ : zK} {a : Nat → Nat} {st : z_St} {o : Int} (hc : z_C κ RX12 cX12_isAhead 3 8 0 0) (hap : z_AP κ a z_N) (he : z_E 0 κ (some .boolean) z_T z_N a o st) (h : J_X12_isAhead_51 st = some o) : z_V κ z_T z_N a 0 0 51 [] [] st := by
  unfold J_X12_isAhead_51 at h
  refine z_iconst hc dX12_isAhead_51 ?_
  refine z_sub [] [] rfl ?_
  exact w_X12_isAhead_52 hc hap he h
def J_X12_isAhead (x1 x2 : Int) (st : z_St) : Option (Int) :=
  z_g (0 ≤ x1 ∧ x1 < 340) <|
  z_g (0 ≤ x2 ∧ x2 < 340) <|
  z_g (z64 (st 192 x1) ∧ z64 (st 192 x2)) (if st 192 x1 < st 192 x2 then
    J_X12_isAhead_47 st
  else
    z_g (0 ≤ x1 ∧ x1 < 340) <|
    z_g (0 ≤ x2 ∧ x2 < 340) <|
    z_g (z64 (st 192 x1) ∧ z64 (st 192 x2)) (if st 192 x1 = st 192 x2 then
      z_g (0 ≤ x1 ∧ x1 < 340) <|
      z_g (0 ≤ x2 ∧ x2 < 340) <|
      z_g (z32 (st 193 x1) ∧ z32 (st 193 x2)) (if st 193 x1 < st 193 x2 then
        J_X12_isAhead_47 st
      else
        J_X12_isAhead_51 st)
    else
      J_X12_isAhead_51 st))
set_option maxRecDepth 100000 in
set_option maxHeartbeats 4000000 in
theorem w_X12_isAhead {κ : zK} {a : Nat → Nat} {x1 x2 : Int} {st : z_St} {o : Int} (hc : z_C κ RX12 cX12_isAhead 3 8 0 0) (hap : z_AP κ a z_N) (he : z_E 0 κ (some .boolean) z_T z_N a o st) (h : J_X12_isAhead x1 x2 st = some o) : z_V κ z_T z_N a 0 0 0 [(0, .ref (a 168)), (1, .int (zI x1)), (2, .int (zI x2))] [] st := by
  unfold J_X12_isAhead at h
  refine z_aload_n (i := 0) 0 hc dX12_isAhead_0 rfl rfl ?_
  refine z_getA (k' := 192) hc fl_RX12_87 tT_168 (by decide) rfl rfl dX12_isAhead_1 ?_
  refine z_iload_n (i := 1) 1 hc dX12_isAhead_4 rfl rfl ?_
  refine z_lald (kI := 192) (nI9 := 340) hc tT_192 (by decide) rfl rfl (by decide) dX12_isAhead_5 h (fun g1 h => ?_)
  refine z_aload_n (i := 0) 0 hc dX12_isAhead_6 rfl rfl ?_
  refine z_getA (k' := 192) hc fl_RX12_87 tT_168 (by decide) rfl rfl dX12_isAhead_7 ?_
  refine z_iload_n (i := 2) 2 hc dX12_isAhead_10 rfl rfl ?_
  refine z_lald (kI := 192) (nI9 := 340) hc tT_192 (by decide) rfl rfl (by decide) dX12_isAhead_11 h (fun g2 h => ?_)
  refine z_lcmp_lt (tgt := 47) hc dX12_isAhead_12 dX12_isAhead_13 (by decide) h (fun c12 h => ?_) (fun c12 h => ?_)
  · refine z_sub [] [] rfl ?_
    exact w_X12_isAhead_47 hc hap he h
  · refine z_aload_n (i := 0) 0 hc dX12_isAhead_16 rfl rfl ?_
    refine z_getA (k' := 192) hc fl_RX12_87 tT_168 (by decide) rfl rfl dX12_isAhead_17 ?_
    refine z_iload_n (i := 1) 1 hc dX12_isAhead_20 rfl rfl ?_
    refine z_lald (kI := 192) (nI9 := 340) hc tT_192 (by decide) rfl rfl (by decide) dX12_isAhead_21 h (fun g3 h => ?_)
    refine z_aload_n (i := 0) 0 hc dX12_isAhead_22 rfl rfl ?_
    refine z_getA (k' := 192) hc fl_RX12_87 tT_168 (by decide) rfl rfl dX12_isAhead_23 ?_
    refine z_iload_n (i := 2) 2 hc dX12_isAhead_26 rfl rfl ?_
    refine z_lald (kI := 192) (nI9 := 340) hc tT_192 (by decide) rfl rfl (by decide) dX12_isAhead_27 h (fun g4 h => ?_)
    refine z_lcmp_ne (tgt := 51) hc dX12_isAhead_28 dX12_isAhead_29 (by decide) h (fun c28 h => ?_) (fun c28 h => ?_)
    · refine z_aload_n (i := 0) 0 hc dX12_isAhead_32 rfl rfl ?_
      refine z_getA (k' := 193) hc fl_RX12_90 tT_168 (by decide) rfl rfl dX12_isAhead_33 ?_
      refine z_iload_n (i := 1) 1 hc dX12_isAhead_36 rfl rfl ?_
      refine z_iald (kI := 193) (nI9 := 340) hc tT_193 (by decide) rfl rfl (by decide) dX12_isAhead_37 h (fun g5 h => ?_)
      refine z_aload_n (i := 0) 0 hc dX12_isAhead_38 rfl rfl ?_
      refine z_getA (k' := 193) hc fl_RX12_90 tT_168 (by decide) rfl rfl dX12_isAhead_39 ?_
      refine z_iload_n (i := 2) 2 hc dX12_isAhead_42 rfl rfl ?_
      refine z_iald (kI := 193) (nI9 := 340) hc tT_193 (by decide) rfl rfl (by decide) dX12_isAhead_43 h (fun g6 h => ?_)
      refine z_icmp_ge (tgt := 51) hc dX12_isAhead_44 (by decide) h (fun c44 h => ?_) (fun c44 h => ?_)
      · refine z_sub [] [] rfl ?_
        exact w_X12_isAhead_47 hc hap he h
      · refine z_sub [] [] rfl ?_
        exact w_X12_isAhead_51 hc hap he h
    · refine z_sub [] [] rfl ?_
      exact w_X12_isAhead_51 hc hap he h
set_option maxRecDepth 100000 in
set_option maxHeartbeats 4000000 in
theorem c_X12_isAhead {l : Launch} (hl : l.stackTraces = false) {a : Nat → Nat} {x1 x2 : Int} {st : z_St} {o : Int} (h : J_X12_isAhead x1 x2 st = some o) : z_M 0 l yX12_isAhead cX12_isAhead 3 (some .boolean) 8 z_T z_N a [.ref (a 168), .int (zI x1), .int (zI x2)] st o st := z_of hl (by decide +kernel) (Nat.le_of_ble_eq_true rfl) (fun κ hc hap he => w_X12_isAhead hc hap he h)
theorem dX12_drops_0 : decode cX12_drops 0 = .ok (.ldc2_w 205, 3) := by decide +kernel
theorem dX12_drops_3 : decode cX12_drops 3 = .ok (.lstore 5, 2) := by decide +kernel
theorem dX12_drops_5 : decode cX12_drops 5 = .ok (.iconst 0, 1) := by decide +kernel
theorem dX12_drops_6 : decode cX12_drops 6 = .ok (.istore 7, 2) := by decide +kernel
theorem dX12_drops_8 : decode cX12_drops 8 = .ok (.iload 7, 2) := by decide +kernel
theorem dX12_drops_10 : decode cX12_drops 10 = .ok (.bipush 20, 2) := by decide +kernel
theorem dX12_drops_12 : decode cX12_drops 12 = .ok (.if_icmp .ge 29, 3) := by decide +kernel
theorem dX12_drops_15 : decode cX12_drops 15 = .ok (.aload_n 0, 1) := by decide +kernel
theorem dX12_drops_16 : decode cX12_drops 16 = .ok (.lload 5, 2) := by decide +kernel
theorem dX12_drops_18 : decode cX12_drops 18 = .ok (.aload_n 0, 1) := by decide +kernel
theorem dX12_drops_19 : decode cX12_drops 19 = .ok (.getfield 87, 3) := by decide +kernel
theorem dX12_drops_22 : decode cX12_drops 22 = .ok (.bipush 20, 2) := by decide +kernel
theorem dX12_drops_24 : decode cX12_drops 24 = .ok (.iload_n 1, 1) := by decide +kernel
theorem dX12_drops_25 : decode cX12_drops 25 = .ok (.imul, 1) := by decide +kernel
theorem dX12_drops_26 : decode cX12_drops 26 = .ok (.iload 7, 2) := by decide +kernel
theorem dX12_drops_28 : decode cX12_drops 28 = .ok (.iadd, 1) := by decide +kernel
theorem dX12_drops_29 : decode cX12_drops 29 = .ok (.laload, 1) := by decide +kernel
theorem dX12_drops_30 : decode cX12_drops 30 = .ok (.invokevirtual 207, 3) := by decide +kernel
theorem dX12_drops_33 : decode cX12_drops 33 = .ok (.lstore 5, 2) := by decide +kernel
theorem dX12_drops_35 : decode cX12_drops 35 = .ok (.iinc 7 1, 3) := by decide +kernel
theorem dX12_drops_38 : decode cX12_drops 38 = .ok (.goto (-30), 3) := by decide +kernel
theorem dX12_drops_41 : decode cX12_drops 41 = .ok (.iconst 0, 1) := by decide +kernel
theorem dX12_drops_42 : decode cX12_drops 42 = .ok (.istore 7, 2) := by decide +kernel
theorem dX12_drops_44 : decode cX12_drops 44 = .ok (.iload 7, 2) := by decide +kernel
theorem dX12_drops_46 : decode cX12_drops 46 = .ok (.bipush 20, 2) := by decide +kernel
theorem dX12_drops_48 : decode cX12_drops 48 = .ok (.if_icmp .ge 163, 3) := by decide +kernel
theorem dX12_drops_51 : decode cX12_drops 51 = .ok (.bipush 20, 2) := by decide +kernel
theorem dX12_drops_53 : decode cX12_drops 53 = .ok (.iload_n 1, 1) := by decide +kernel
theorem dX12_drops_54 : decode cX12_drops 54 = .ok (.imul, 1) := by decide +kernel
theorem dX12_drops_55 : decode cX12_drops 55 = .ok (.iload 7, 2) := by decide +kernel
theorem dX12_drops_57 : decode cX12_drops 57 = .ok (.iadd, 1) := by decide +kernel
theorem dX12_drops_58 : decode cX12_drops 58 = .ok (.istore 8, 2) := by decide +kernel
theorem dX12_drops_60 : decode cX12_drops 60 = .ok (.iconst 0, 1) := by decide +kernel
theorem dX12_drops_61 : decode cX12_drops 61 = .ok (.istore 9, 2) := by decide +kernel
theorem dX12_drops_63 : decode cX12_drops 63 = .ok (.iconst 0, 1) := by decide +kernel
theorem dX12_drops_64 : decode cX12_drops 64 = .ok (.istore 10, 2) := by decide +kernel
theorem dX12_drops_66 : decode cX12_drops 66 = .ok (.iload 10, 2) := by decide +kernel
theorem dX12_drops_68 : decode cX12_drops 68 = .ok (.bipush 20, 2) := by decide +kernel
theorem dX12_drops_70 : decode cX12_drops 70 = .ok (.if_icmp .ge 50, 3) := by decide +kernel
theorem dX12_drops_73 : decode cX12_drops 73 = .ok (.iload 9, 2) := by decide +kernel
theorem dX12_drops_75 : decode cX12_drops 75 = .ok (.aload_n 0, 1) := by decide +kernel
theorem dX12_drops_76 : decode cX12_drops 76 = .ok (.getfield 90, 3) := by decide +kernel
theorem dX12_drops_79 : decode cX12_drops 79 = .ok (.bipush 20, 2) := by decide +kernel
theorem dX12_drops_81 : decode cX12_drops 81 = .ok (.iload_n 1, 1) := by decide +kernel
theorem dX12_drops_82 : decode cX12_drops 82 = .ok (.imul, 1) := by decide +kernel
theorem dX12_drops_83 : decode cX12_drops 83 = .ok (.iload 10, 2) := by decide +kernel
theorem dX12_drops_85 : decode cX12_drops 85 = .ok (.iadd, 1) := by decide +kernel
theorem dX12_drops_86 : decode cX12_drops 86 = .ok (.iaload, 1) := by decide +kernel
theorem dX12_drops_87 : decode cX12_drops 87 = .ok (.ifCond .le 23, 3) := by decide +kernel
theorem dX12_drops_90 : decode cX12_drops 90 = .ok (.aload_n 0, 1) := by decide +kernel
theorem dX12_drops_91 : decode cX12_drops 91 = .ok (.bipush 20, 2) := by decide +kernel
theorem dX12_drops_93 : decode cX12_drops 93 = .ok (.iload_n 1, 1) := by decide +kernel
theorem dX12_drops_94 : decode cX12_drops 94 = .ok (.imul, 1) := by decide +kernel
theorem dX12_drops_95 : decode cX12_drops 95 = .ok (.iload 10, 2) := by decide +kernel
theorem dX12_drops_97 : decode cX12_drops 97 = .ok (.iadd, 1) := by decide +kernel
theorem dX12_drops_98 : decode cX12_drops 98 = .ok (.iload 8, 2) := by decide +kernel
theorem dX12_drops_100 : decode cX12_drops 100 = .ok (.invokevirtual 273, 3) := by decide +kernel
theorem dX12_drops_103 : decode cX12_drops 103 = .ok (.ifCond .eq 7, 3) := by decide +kernel
theorem dX12_drops_106 : decode cX12_drops 106 = .ok (.iconst 1, 1) := by decide +kernel
theorem dX12_drops_107 : decode cX12_drops 107 = .ok (.goto 4, 3) := by decide +kernel
theorem dX12_drops_110 : decode cX12_drops 110 = .ok (.iconst 0, 1) := by decide +kernel
theorem dX12_drops_111 : decode cX12_drops 111 = .ok (.iadd, 1) := by decide +kernel
theorem dX12_drops_112 : decode cX12_drops 112 = .ok (.istore 9, 2) := by decide +kernel
theorem dX12_drops_114 : decode cX12_drops 114 = .ok (.iinc 10 1, 3) := by decide +kernel
theorem dX12_drops_117 : decode cX12_drops 117 = .ok (.goto (-51), 3) := by decide +kernel
theorem dX12_drops_120 : decode cX12_drops 120 = .ok (.aload_n 0, 1) := by decide +kernel
theorem dX12_drops_121 : decode cX12_drops 121 = .ok (.getfield 90, 3) := by decide +kernel
theorem dX12_drops_124 : decode cX12_drops 124 = .ok (.iload 8, 2) := by decide +kernel
theorem dX12_drops_126 : decode cX12_drops 126 = .ok (.iaload, 1) := by decide +kernel
theorem dX12_drops_127 : decode cX12_drops 127 = .ok (.ifCond .le 7, 3) := by decide +kernel
theorem dX12_drops_130 : decode cX12_drops 130 = .ok (.iconst 1, 1) := by decide +kernel
theorem dX12_drops_131 : decode cX12_drops 131 = .ok (.goto 4, 3) := by decide +kernel
theorem dX12_drops_134 : decode cX12_drops 134 = .ok (.iconst 0, 1) := by decide +kernel
theorem dX12_drops_135 : decode cX12_drops 135 = .ok (.istore 10, 2) := by decide +kernel
theorem dX12_drops_137 : decode cX12_drops 137 = .ok (.aload_n 0, 1) := by decide +kernel
theorem dX12_drops_138 : decode cX12_drops 138 = .ok (.getfield 93, 3) := by decide +kernel
theorem dX12_drops_141 : decode cX12_drops 141 = .ok (.iload 8, 2) := by decide +kernel
theorem dX12_drops_143 : decode cX12_drops 143 = .ok (.iload 10, 2) := by decide +kernel
theorem dX12_drops_145 : decode cX12_drops 145 = .ok (.ifCond .eq 29, 3) := by decide +kernel
theorem dX12_drops_148 : decode cX12_drops 148 = .ok (.aload_n 0, 1) := by decide +kernel
theorem dX12_drops_149 : decode cX12_drops 149 = .ok (.getfield 87, 3) := by decide +kernel
theorem dX12_drops_152 : decode cX12_drops 152 = .ok (.iload 8, 2) := by decide +kernel
theorem dX12_drops_154 : decode cX12_drops 154 = .ok (.laload, 1) := by decide +kernel
theorem dX12_drops_155 : decode cX12_drops 155 = .ok (.lload 5, 2) := by decide +kernel
theorem dX12_drops_157 : decode cX12_drops 157 = .ok (.lsub, 1) := by decide +kernel
theorem dX12_drops_158 : decode cX12_drops 158 = .ok (.lload_n 2, 1) := by decide +kernel
theorem dX12_drops_159 : decode cX12_drops 159 = .ok (.lcmp, 1) := by decide +kernel
theorem dX12_drops_160 : decode cX12_drops 160 = .ok (.ifCond .gt 14, 3) := by decide +kernel
theorem dX12_drops_163 : decode cX12_drops 163 = .ok (.iload 9, 2) := by decide +kernel
theorem dX12_drops_165 : decode cX12_drops 165 = .ok (.iload 4, 2) := by decide +kernel
theorem dX12_drops_167 : decode cX12_drops 167 = .ok (.if_icmp .ge 7, 3) := by decide +kernel
theorem dX12_drops_170 : decode cX12_drops 170 = .ok (.iconst 1, 1) := by decide +kernel
theorem dX12_drops_171 : decode cX12_drops 171 = .ok (.goto 4, 3) := by decide +kernel
theorem dX12_drops_174 : decode cX12_drops 174 = .ok (.iconst 0, 1) := by decide +kernel
theorem dX12_drops_175 : decode cX12_drops 175 = .ok (.bastore, 1) := by decide +kernel
theorem dX12_drops_176 : decode cX12_drops 176 = .ok (.aload_n 0, 1) := by decide +kernel
theorem dX12_drops_177 : decode cX12_drops 177 = .ok (.dup, 1) := by decide +kernel
theorem dX12_drops_178 : decode cX12_drops 178 = .ok (.getfield 277, 3) := by decide +kernel
theorem dX12_drops_181 : decode cX12_drops 181 = .ok (.iload 10, 2) := by decide +kernel
theorem dX12_drops_183 : decode cX12_drops 183 = .ok (.ifCond .eq 17, 3) := by decide +kernel
theorem dX12_drops_186 : decode cX12_drops 186 = .ok (.aload_n 0, 1) := by decide +kernel
theorem dX12_drops_187 : decode cX12_drops 187 = .ok (.getfield 93, 3) := by decide +kernel
theorem dX12_drops_190 : decode cX12_drops 190 = .ok (.iload 8, 2) := by decide +kernel
theorem dX12_drops_192 : decode cX12_drops 192 = .ok (.baload, 1) := by decide +kernel
theorem dX12_drops_193 : decode cX12_drops 193 = .ok (.ifCond .ne 7, 3) := by decide +kernel
theorem dX12_drops_196 : decode cX12_drops 196 = .ok (.lconst 1, 1) := by decide +kernel
theorem dX12_drops_197 : decode cX12_drops 197 = .ok (.goto 4, 3) := by decide +kernel
theorem dX12_drops_200 : decode cX12_drops 200 = .ok (.lconst 0, 1) := by decide +kernel
theorem dX12_drops_201 : decode cX12_drops 201 = .ok (.ladd, 1) := by decide +kernel
theorem dX12_drops_202 : decode cX12_drops 202 = .ok (.putfield 277, 3) := by decide +kernel
theorem dX12_drops_205 : decode cX12_drops 205 = .ok (.iinc 7 1, 3) := by decide +kernel
theorem dX12_drops_208 : decode cX12_drops 208 = .ok (.goto (-164), 3) := by decide +kernel
theorem dX12_drops_211 : decode cX12_drops 211 = .ok (.return_, 1) := by decide +kernel
def J_X12_drops_b8 (v1 v2 v4 v5 v7 : Int) (st : z_St) : Option ((Int × Int) ⊕ Int) :=
  z_g (z32 v7 ∧ z32 20) (if v7 < 20 then
    z_g (0 ≤ (20 * v1) + v7 ∧ (20 * v1) + v7 < 340) <|
    z_b (J_X12_least v5 (st 192 ((20 * v1) + v7)) st) fun r2 =>
    some (.inl (r2, v7 + 1))
  else
    some (.inr v5))
set_option maxRecDepth 100000 in
set_option maxHeartbeats 4000000 in
theorem w_X12_drops_b8 {κ : zK} {a : Nat → Nat} {v1 v2 v4 v5 v7 : Int} {st : z_St} {mc9 ms9 : Nat} {o : (Int × Int) ⊕ Int} (hc : z_C κ RX12 cX12_drops 11 9 mc9 ms9) (hap : z_AP κ a z_N) (k1 : ∀ s9 : (Int × Int), o = .inl s9 → z_V κ z_T z_N a 0 0 8 [(0, .ref (a 168)), (1, .int (zI v1)), (2, .long (zJ v2)), (4, .int (zI v4)), (5, .long (zJ s9.1)), (7, .int (zI s9.2))] [] st) (k2 : ∀ x9 : Int, o = .inr x9 → z_V κ z_T z_N a 0 0 41 [(0, .ref (a 168)), (1, .int (zI v1)), (2, .long (zJ v2)), (4, .int (zI v4)), (5, .long (zJ x9))] [] st) (h : J_X12_drops_b8 v1 v2 v4 v5 v7 st = some o) : z_V κ z_T z_N a 0 0 8 [(0, .ref (a 168)), (1, .int (zI v1)), (2, .long (zJ v2)), (4, .int (zI v4)), (5, .long (zJ v5)), (7, .int (zI v7))] [] st := by
  unfold J_X12_drops_b8 at h
  refine z_iload 5 hc dX12_drops_8 rfl ?_
  refine z_bipush hc dX12_drops_10 rfl ?_
  refine z_icmp_ge (tgt := 41) hc dX12_drops_12 (by decide) h (fun c12 h => ?_) (fun c12 h => ?_)
  · refine z_aload_n (i := 0) 0 hc dX12_drops_15 rfl rfl ?_
    refine z_lload 4 hc dX12_drops_16 rfl ?_
    refine z_aload_n (i := 0) 0 hc dX12_drops_18 rfl rfl ?_
    refine z_getA (k' := 192) hc fl_RX12_87 tT_168 (by decide) rfl rfl dX12_drops_19 ?_
    refine z_bipush hc dX12_drops_22 rfl ?_
    refine z_iload_n (i := 1) 1 hc dX12_drops_24 rfl rfl ?_
    refine z_imul hc dX12_drops_25 ?_
    refine z_iload 5 hc dX12_drops_26 rfl ?_
    refine z_iadd hc dX12_drops_28 ?_
    refine z_lald (kI := 192) (nI9 := 340) hc tT_192 (by decide) rfl rfl (by decide) dX12_drops_29 h (fun g1 h => ?_)
    obtain ⟨r2, hr2, h⟩ := z_b_some h
    refine z_callVJ [.long (zJ v5), .long (zJ (st 192 ((20 * v1) + v7)))] hc hap o_X12_least ml_RX12_207 (fun l hl => c_X12_least hl  hr2) (by decide) tT_168 (by decide) ⟨_, rfl, rfl⟩ rfl rfl (Nat.le_of_ble_eq_true rfl) (Nat.zero_le _) (Nat.zero_le _) dX12_drops_30 ?_
    refine z_lstore [(5, .long (zJ r2)), (0, .ref (a 168)), (1, .int (zI v1)), (2, .long (zJ v2)), (4, .int (zI v4)), (7, .int (zI v7))] hc dX12_drops_33 (by decide) rfl ?_
    refine z_iinc [(7, .int (zI (v7 + 1))), (5, .long (zJ r2)), (0, .ref (a 168)), (1, .int (zI v1)), (2, .long (zJ v2)), (4, .int (zI v4))] 5 hc dX12_drops_35 rfl (by decide) rfl ?_
    refine z_goto (tgt := 8) hc dX12_drops_38 (by decide) ?_
    refine z_sub [(0, .ref (a 168)), (1, .int (zI v1)), (2, .long (zJ v2)), (4, .int (zI v4)), (5, .long (zJ r2)), (7, .int (zI (v7 + 1)))] [2, 3, 4, 5, 1, 0] rfl ?_
    exact k1 _ (Option.some.inj h).symm
  · refine z_sub [(0, .ref (a 168)), (1, .int (zI v1)), (2, .long (zJ v2)), (4, .int (zI v4)), (5, .long (zJ v5))] [0, 1, 2, 3, 4] rfl ?_
    exact k2 v5 (Option.some.inj h).symm
def J_X12_drops_111 (v1 v2 v4 v5 v7 v8 v10 s0 s1 : Int) (st : z_St) : Option ((Int × Int) ⊕ Int) :=
  some (.inl (s1 + s0, v10 + 1))
set_option maxRecDepth 100000 in
set_option maxHeartbeats 4000000 in
theorem w_X12_drops_111 {κ : zK} {a : Nat → Nat} {v1 v2 v4 v5 v7 v8 v10 s0 s1 : Int} {st : z_St} {mc9 ms9 : Nat} {o : (Int × Int) ⊕ Int} (hc : z_C κ RX12 cX12_drops 11 9 mc9 ms9) (hap : z_AP κ a z_N) (k1 : ∀ s9 : (Int × Int), o = .inl s9 → z_V κ z_T z_N a 0 0 66 [(0, .ref (a 168)), (1, .int (zI v1)), (2, .long (zJ v2)), (4, .int (zI v4)), (5, .long (zJ v5)), (7, .int (zI v7)), (8, .int (zI v8)), (9, .int (zI s9.1)), (10, .int (zI s9.2))] [] st) (k2 : ∀ x9 : Int, o = .inr x9 → z_V κ z_T z_N a 0 0 120 [(0, .ref (a 168)), (1, .int (zI v1)), (2, .long (zJ v2)), (4, .int (zI v4)), (5, .long (zJ v5)), (7, .int (zI v7)), (8, .int (zI v8)), (9, .int (zI x9))] [] st) (h : J_X12_drops_111 v1 v2 v4 v5 v7 v8 v10 s0 s1 st = some o) : z_V κ z_T z_N a 0 0 111 [(0, .ref (a 168)), (1, .int (zI v1)), (2, .long (zJ v2)), (4, .int (zI v4)), (5, .long (zJ v5)), (7, .int (zI v7)), (8, .int (zI v8)), (10, .int (zI v10))] [.int (zI s0), .int (zI s1)] st := by
  unfold J_X12_drops_111 at h
  refine z_iadd hc dX12_drops_111 ?_
  refine z_istore [(9, .int (zI (s1 + s0))), (0, .ref (a 168)), (1, .int (zI v1)), (2, .long (zJ v2)), (4, .int (zI v4)), (5, .long (zJ v5)), (7, .int (zI v7)), (8, .int (zI v8)), (10, .int (zI v10))] hc dX12_drops_112 (by decide) rfl ?_
  refine z_iinc [(10, .int (zI (v10 + 1))), (9, .int (zI (s1 + s0))), (0, .ref (a 168)), (1, .int (zI v1)), (2, .long (zJ v2)), (4, .int (zI v4)), (5, .long (zJ v5)), (7, .int (zI v7)), (8, .int (zI v8))] 8 hc dX12_drops_114 rfl (by decide) rfl ?_
  refine z_goto (tgt := 66) hc dX12_drops_117 (by decide) ?_
  refine z_sub [(0, .ref (a 168)), (1, .int (zI v1)), (2, .long (zJ v2)), (4, .int (zI v4)), (5, .long (zJ v5)), (7, .int (zI v7)), (8, .int (zI v8)), (9, .int (zI (s1 + s0))), (10, .int (zI (v10 + 1)))] [2, 3, 4, 5, 6, 7, 8, 1, 0] rfl ?_
  exact k1 _ (Option.some.inj h).symm
def J_X12_drops_110 (v1 v2 v4 v5 v7 v8 v10 s0 : Int) (st : z_St) : Option ((Int × Int) ⊕ Int) :=
  J_X12_drops_111 v1 v2 v4 v5 v7 v8 v10 0 s0 st
set_option maxRecDepth 100000 in
set_option maxHeartbeats 4000000 in
theorem w_X12_drops_110 {κ : zK} {a : Nat → Nat} {v1 v2 v4 v5 v7 v8 v10 s0 : Int} {st : z_St} {mc9 ms9 : Nat} {o : (Int × Int) ⊕ Int} (hc : z_C κ RX12 cX12_drops 11 9 mc9 ms9) (hap : z_AP κ a z_N) (k1 : ∀ s9 : (Int × Int), o = .inl s9 → z_V κ z_T z_N a 0 0 66 [(0, .ref (a 168)), (1, .int (zI v1)), (2, .long (zJ v2)), (4, .int (zI v4)), (5, .long (zJ v5)), (7, .int (zI v7)), (8, .int (zI v8)), (9, .int (zI s9.1)), (10, .int (zI s9.2))] [] st) (k2 : ∀ x9 : Int, o = .inr x9 → z_V κ z_T z_N a 0 0 120 [(0, .ref (a 168)), (1, .int (zI v1)), (2, .long (zJ v2)), (4, .int (zI v4)), (5, .long (zJ v5)), (7, .int (zI v7)), (8, .int (zI v8)), (9, .int (zI x9))] [] st) (h : J_X12_drops_110 v1 v2 v4 v5 v7 v8 v10 s0 st = some o) : z_V κ z_T z_N a 0 0 110 [(0, .ref (a 168)), (1, .int (zI v1)), (2, .long (zJ v2)), (4, .int (zI v4)), (5, .long (zJ v5)), (7, .int (zI v7)), (8, .int (zI v8)), (10, .int (zI v10))] [.int (zI s0)] st := by
  unfold J_X12_drops_110 at h
  refine z_iconst hc dX12_drops_110 ?_
  refine z_sub [(0, .ref (a 168)), (1, .int (zI v1)), (2, .long (zJ v2)), (4, .int (zI v4)), (5, .long (zJ v5)), (7, .int (zI v7)), (8, .int (zI v8)), (10, .int (zI v10))] [0, 1, 2, 3, 4, 5, 6, 7] rfl ?_
  exact w_X12_drops_111 hc hap k1 k2 h
def J_X12_drops_b66 (v1 v2 v4 v5 v7 v8 v9 v10 : Int) (st : z_St) : Option ((Int × Int) ⊕ Int) :=
  z_g (z32 v10 ∧ z32 20) (if v10 < 20 then
    z_g (0 ≤ (20 * v1) + v10 ∧ (20 * v1) + v10 < 340) <|
    z_g (z32 (st 193 ((20 * v1) + v10))) (if 0 < st 193 ((20 * v1) + v10) then
      z_b (J_X12_isAhead ((20 * v1) + v10) v8 st) fun r6 =>
      z_g (z32 r6) (if r6 = 0 then
        J_X12_drops_110 v1 v2 v4 v5 v7 v8 v10 v9 st
      else
        J_X12_drops_111 v1 v2 v4 v5 v7 v8 v10 1 v9 st)
    else
      J_X12_drops_110 v1 v2 v4 v5 v7 v8 v10 v9 st)
  else
    some (.inr v9))
set_option maxRecDepth 100000 in
set_option maxHeartbeats 4000000 in
theorem w_X12_drops_b66 {κ : zK} {a : Nat → Nat} {v1 v2 v4 v5 v7 v8 v9 v10 : Int} {st : z_St} {mc9 ms9 : Nat} {o : (Int × Int) ⊕ Int} (hc : z_C κ RX12 cX12_drops 11 9 mc9 ms9) (hap : z_AP κ a z_N) (k1 : ∀ s9 : (Int × Int), o = .inl s9 → z_V κ z_T z_N a 0 0 66 [(0, .ref (a 168)), (1, .int (zI v1)), (2, .long (zJ v2)), (4, .int (zI v4)), (5, .long (zJ v5)), (7, .int (zI v7)), (8, .int (zI v8)), (9, .int (zI s9.1)), (10, .int (zI s9.2))] [] st) (k2 : ∀ x9 : Int, o = .inr x9 → z_V κ z_T z_N a 0 0 120 [(0, .ref (a 168)), (1, .int (zI v1)), (2, .long (zJ v2)), (4, .int (zI v4)), (5, .long (zJ v5)), (7, .int (zI v7)), (8, .int (zI v8)), (9, .int (zI x9))] [] st) (h : J_X12_drops_b66 v1 v2 v4 v5 v7 v8 v9 v10 st = some o) : z_V κ z_T z_N a 0 0 66 [(0, .ref (a 168)), (1, .int (zI v1)), (2, .long (zJ v2)), (4, .int (zI v4)), (5, .long (zJ v5)), (7, .int (zI v7)), (8, .int (zI v8)), (9, .int (zI v9)), (10, .int (zI v10))] [] st := by
  unfold J_X12_drops_b66 at h
  refine z_iload 8 hc dX12_drops_66 rfl ?_
  refine z_bipush hc dX12_drops_68 rfl ?_
  refine z_icmp_ge (tgt := 120) hc dX12_drops_70 (by decide) h (fun c70 h => ?_) (fun c70 h => ?_)
  · refine z_iload 7 hc dX12_drops_73 rfl ?_
    refine z_aload_n (i := 0) 0 hc dX12_drops_75 rfl rfl ?_
    refine z_getA (k' := 193) hc fl_RX12_90 tT_168 (by decide) rfl rfl dX12_drops_76 ?_
    refine z_bipush hc dX12_drops_79 rfl ?_
    refine z_iload_n (i := 1) 1 hc dX12_drops_81 rfl rfl ?_
    refine z_imul hc dX12_drops_82 ?_
    refine z_iload 8 hc dX12_drops_83 rfl ?_
    refine z_iadd hc dX12_drops_85 ?_
    refine z_iald (kI := 193) (nI9 := 340) hc tT_193 (by decide) rfl rfl (by decide) dX12_drops_86 h (fun g5 h => ?_)
    refine z_if_le (tgt := 110) hc dX12_drops_87 (by decide) h (fun c87 h => ?_) (fun c87 h => ?_)
    · refine z_aload_n (i := 0) 0 hc dX12_drops_90 rfl rfl ?_
      refine z_bipush hc dX12_drops_91 rfl ?_
      refine z_iload_n (i := 1) 1 hc dX12_drops_93 rfl rfl ?_
      refine z_imul hc dX12_drops_94 ?_
      refine z_iload 8 hc dX12_drops_95 rfl ?_
      refine z_iadd hc dX12_drops_97 ?_
      refine z_iload 6 hc dX12_drops_98 rfl ?_
      obtain ⟨r6, hr6, h⟩ := z_b_some h
      refine z_callVI [.int (zI ((20 * v1) + v10)), .int (zI v8)] hc hap o_X12_isAhead ml_RX12_273 (fun l hl => c_X12_isAhead hl  hr6) (by decide) tT_168 (by decide) ⟨_, rfl, rfl⟩ rfl rfl (Nat.le_of_ble_eq_true rfl) (Nat.zero_le _) (Nat.zero_le _) dX12_drops_100 ?_
      refine z_if_eq (tgt := 110) hc dX12_drops_103 (by decide) h (fun c103 h => ?_) (fun c103 h => ?_)
      · refine z_sub [(0, .ref (a 168)), (1, .int (zI v1)), (2, .long (zJ v2)), (4, .int (zI v4)), (5, .long (zJ v5)), (7, .int (zI v7)), (8, .int (zI v8)), (10, .int (zI v10))] [0, 1, 2, 3, 4, 5, 6, 8] rfl ?_
        exact w_X12_drops_110 hc hap k1 k2 h
      · refine z_iconst hc dX12_drops_106 ?_
        refine z_goto (tgt := 111) hc dX12_drops_107 (by decide) ?_
        refine z_sub [(0, .ref (a 168)), (1, .int (zI v1)), (2, .long (zJ v2)), (4, .int (zI v4)), (5, .long (zJ v5)), (7, .int (zI v7)), (8, .int (zI v8)), (10, .int (zI v10))] [0, 1, 2, 3, 4, 5, 6, 8] rfl ?_
        exact w_X12_drops_111 hc hap k1 k2 h
    · refine z_sub [(0, .ref (a 168)), (1, .int (zI v1)), (2, .long (zJ v2)), (4, .int (zI v4)), (5, .long (zJ v5)), (7, .int (zI v7)), (8, .int (zI v8)), (10, .int (zI v10))] [0, 1, 2, 3, 4, 5, 6, 8] rfl ?_
      exact w_X12_drops_110 hc hap k1 k2 h
  · refine z_sub [(0, .ref (a 168)), (1, .int (zI v1)), (2, .long (zJ v2)), (4, .int (zI v4)), (5, .long (zJ v5)), (7, .int (zI v7)), (8, .int (zI v8)), (9, .int (zI v9))] [0, 1, 2, 3, 4, 5, 6, 7] rfl ?_
    exact k2 v9 (Option.some.inj h).symm
def J_X12_drops_201 (v1 v2 v4 v5 v7 s0 s1 : Int) (st : z_St) : Option ((Int × z_St) ⊕ z_St) :=
  z_let (z_up st 168 36 (s1 + s0)) fun st11 =>
  some (.inl (v7 + 1, st11))
set_option maxRecDepth 100000 in
set_option maxHeartbeats 4000000 in
theorem w_X12_drops_201 {κ : zK} {a : Nat → Nat} {v1 v2 v4 v5 v7 s0 s1 : Int} {st : z_St} {mc9 ms9 : Nat} {o : (Int × z_St) ⊕ z_St} (hc : z_C κ RX12 cX12_drops 11 9 mc9 ms9) (hap : z_AP κ a z_N) (k1 : ∀ s9 : (Int × z_St), o = .inl s9 → z_V κ z_T z_N a 0 0 44 [(0, .ref (a 168)), (1, .int (zI v1)), (2, .long (zJ v2)), (4, .int (zI v4)), (5, .long (zJ v5)), (7, .int (zI s9.1))] [] s9.2) (k2 : ∀ x9 : z_St, o = .inr x9 → z_V κ z_T z_N a 0 0 211 [] [] x9) (h : J_X12_drops_201 v1 v2 v4 v5 v7 s0 s1 st = some o) : z_V κ z_T z_N a 0 0 201 [(0, .ref (a 168)), (1, .int (zI v1)), (2, .long (zJ v2)), (4, .int (zI v4)), (5, .long (zJ v5)), (7, .int (zI v7))] [.long (zJ s0), .long (zJ s1), .ref (a 168)] st := by
  unfold J_X12_drops_201 at h
  refine z_ladd hc dX12_drops_201 ?_
  refine z_putJ (kI := 168) (jI := 36) hc hap fp_RX12_277 tT_168 (by decide) rfl rfl rfl dX12_drops_202 h (fun st11 h => ?_)
  refine z_iinc [(7, .int (zI (v7 + 1))), (0, .ref (a 168)), (1, .int (zI v1)), (2, .long (zJ v2)), (4, .int (zI v4)), (5, .long (zJ v5))] 5 hc dX12_drops_205 rfl (by decide) rfl ?_
  refine z_goto (tgt := 44) hc dX12_drops_208 (by decide) ?_
  refine z_sub [(0, .ref (a 168)), (1, .int (zI v1)), (2, .long (zJ v2)), (4, .int (zI v4)), (5, .long (zJ v5)), (7, .int (zI (v7 + 1)))] [1, 2, 3, 4, 5, 0] rfl ?_
  exact k1 _ (Option.some.inj h).symm
def J_X12_drops_200 (v1 v2 v4 v5 v7 s0 : Int) (st : z_St) : Option ((Int × z_St) ⊕ z_St) :=
  J_X12_drops_201 v1 v2 v4 v5 v7 0 s0 st
set_option maxRecDepth 100000 in
set_option maxHeartbeats 4000000 in
theorem w_X12_drops_200 {κ : zK} {a : Nat → Nat} {v1 v2 v4 v5 v7 s0 : Int} {st : z_St} {mc9 ms9 : Nat} {o : (Int × z_St) ⊕ z_St} (hc : z_C κ RX12 cX12_drops 11 9 mc9 ms9) (hap : z_AP κ a z_N) (k1 : ∀ s9 : (Int × z_St), o = .inl s9 → z_V κ z_T z_N a 0 0 44 [(0, .ref (a 168)), (1, .int (zI v1)), (2, .long (zJ v2)), (4, .int (zI v4)), (5, .long (zJ v5)), (7, .int (zI s9.1))] [] s9.2) (k2 : ∀ x9 : z_St, o = .inr x9 → z_V κ z_T z_N a 0 0 211 [] [] x9) (h : J_X12_drops_200 v1 v2 v4 v5 v7 s0 st = some o) : z_V κ z_T z_N a 0 0 200 [(0, .ref (a 168)), (1, .int (zI v1)), (2, .long (zJ v2)), (4, .int (zI v4)), (5, .long (zJ v5)), (7, .int (zI v7))] [.long (zJ s0), .ref (a 168)] st := by
  unfold J_X12_drops_200 at h
  refine z_lconst 0 hc dX12_drops_200 rfl ?_
  refine z_sub [(0, .ref (a 168)), (1, .int (zI v1)), (2, .long (zJ v2)), (4, .int (zI v4)), (5, .long (zJ v5)), (7, .int (zI v7))] [0, 1, 2, 3, 4, 5] rfl ?_
  exact w_X12_drops_201 hc hap k1 k2 h
def J_X12_drops_175 (v1 v2 v4 v5 v7 v8 v10 s0 s1 : Int) (st : z_St) : Option ((Int × z_St) ⊕ z_St) :=
  z_g ((0 ≤ s1 ∧ s1 < 340) ∧ ((s0 : Int) = 0 ∨ (s0 : Int) = 1)) <|
  z_let (z_up st 194 s1 s0) fun st10 =>
  z_g (z32 v10) (if v10 = 0 then
    J_X12_drops_200 v1 v2 v4 v5 v7 (st10 168 36) st10
  else
    z_g (0 ≤ v8 ∧ v8 < 340) <|
    z_g (z32 (st10 194 v8)) (if st10 194 v8 = 0 then
      J_X12_drops_201 v1 v2 v4 v5 v7 1 (st10 168 36) st10
    else
      J_X12_drops_200 v1 v2 v4 v5 v7 (st10 168 36) st10))
set_option maxRecDepth 100000 in
set_option maxHeartbeats 4000000 in
theorem w_X12_drops_175 {κ : zK} {a : Nat → Nat} {v1 v2 v4 v5 v7 v8 v10 s0 s1 : Int} {st : z_St} {mc9 ms9 : Nat} {o : (Int × z_St) ⊕ z_St} (hc : z_C κ RX12 cX12_drops 11 9 mc9 ms9) (hap : z_AP κ a z_N) (k1 : ∀ s9 : (Int × z_St), o = .inl s9 → z_V κ z_T z_N a 0 0 44 [(0, .ref (a 168)), (1, .int (zI v1)), (2, .long (zJ v2)), (4, .int (zI v4)), (5, .long (zJ v5)), (7, .int (zI s9.1))] [] s9.2) (k2 : ∀ x9 : z_St, o = .inr x9 → z_V κ z_T z_N a 0 0 211 [] [] x9) (h : J_X12_drops_175 v1 v2 v4 v5 v7 v8 v10 s0 s1 st = some o) : z_V κ z_T z_N a 0 0 175 [(0, .ref (a 168)), (1, .int (zI v1)), (2, .long (zJ v2)), (4, .int (zI v4)), (5, .long (zJ v5)), (7, .int (zI v7)), (8, .int (zI v8)), (10, .int (zI v10))] [.int (zI s0), .int (zI s1), .ref (a 194)] st := by
  unfold J_X12_drops_175 at h
  refine z_zast (kI := 194) (nI9 := 340) hc hap tT_194 (by decide) rfl rfl (by decide) dX12_drops_175 h (fun st10 h => ?_)
  refine z_aload_n (i := 0) 0 hc dX12_drops_176 rfl rfl ?_
  refine z_dup hc dX12_drops_177 rfl ?_
  refine z_getJ (kI := 168) (jI := 36) hc fl_RX12_277 tT_168 (by decide) rfl rfl rfl dX12_drops_178 ?_
  refine z_iload 7 hc dX12_drops_181 rfl ?_
  refine z_if_eq (tgt := 200) hc dX12_drops_183 (by decide) h (fun c183 h => ?_) (fun c183 h => ?_)
  · refine z_sub [(0, .ref (a 168)), (1, .int (zI v1)), (2, .long (zJ v2)), (4, .int (zI v4)), (5, .long (zJ v5)), (7, .int (zI v7))] [0, 1, 2, 3, 4, 5] rfl ?_
    exact w_X12_drops_200 hc hap k1 k2 h
  · refine z_aload_n (i := 0) 0 hc dX12_drops_186 rfl rfl ?_
    refine z_getA (k' := 194) hc fl_RX12_93 tT_168 (by decide) rfl rfl dX12_drops_187 ?_
    refine z_iload 6 hc dX12_drops_190 rfl ?_
    refine z_zald (kI := 194) (nI9 := 340) hc tT_194 (by decide) rfl rfl (by decide) dX12_drops_192 h (fun g12 h => ?_)
    refine z_if_ne (tgt := 200) hc dX12_drops_193 (by decide) h (fun c193 h => ?_) (fun c193 h => ?_)
    · refine z_lconst 1 hc dX12_drops_196 rfl ?_
      refine z_goto (tgt := 201) hc dX12_drops_197 (by decide) ?_
      refine z_sub [(0, .ref (a 168)), (1, .int (zI v1)), (2, .long (zJ v2)), (4, .int (zI v4)), (5, .long (zJ v5)), (7, .int (zI v7))] [0, 1, 2, 3, 4, 5] rfl ?_
      exact w_X12_drops_201 hc hap k1 k2 h
    · refine z_sub [(0, .ref (a 168)), (1, .int (zI v1)), (2, .long (zJ v2)), (4, .int (zI v4)), (5, .long (zJ v5)), (7, .int (zI v7))] [0, 1, 2, 3, 4, 5] rfl ?_
      exact w_X12_drops_200 hc hap k1 k2 h
def J_X12_drops_174 (v1 v2 v4 v5 v7 v8 v10 s0 : Int) (st : z_St) : Option ((Int × z_St) ⊕ z_St) :=
  J_X12_drops_175 v1 v2 v4 v5 v7 v8 v10 0 s0 st
set_option maxRecDepth 100000 in
set_option maxHeartbeats 4000000 in
theorem w_X12_drops_174 {κ : zK} {a : Nat → Nat} {v1 v2 v4 v5 v7 v8 v10 s0 : Int} {st : z_St} {mc9 ms9 : Nat} {o : (Int × z_St) ⊕ z_St} (hc : z_C κ RX12 cX12_drops 11 9 mc9 ms9) (hap : z_AP κ a z_N) (k1 : ∀ s9 : (Int × z_St), o = .inl s9 → z_V κ z_T z_N a 0 0 44 [(0, .ref (a 168)), (1, .int (zI v1)), (2, .long (zJ v2)), (4, .int (zI v4)), (5, .long (zJ v5)), (7, .int (zI s9.1))] [] s9.2) (k2 : ∀ x9 : z_St, o = .inr x9 → z_V κ z_T z_N a 0 0 211 [] [] x9) (h : J_X12_drops_174 v1 v2 v4 v5 v7 v8 v10 s0 st = some o) : z_V κ z_T z_N a 0 0 174 [(0, .ref (a 168)), (1, .int (zI v1)), (2, .long (zJ v2)), (4, .int (zI v4)), (5, .long (zJ v5)), (7, .int (zI v7)), (8, .int (zI v8)), (10, .int (zI v10))] [.int (zI s0), .ref (a 194)] st := by
  unfold J_X12_drops_174 at h
  refine z_iconst hc dX12_drops_174 ?_
  refine z_sub [(0, .ref (a 168)), (1, .int (zI v1)), (2, .long (zJ v2)), (4, .int (zI v4)), (5, .long (zJ v5)), (7, .int (zI v7)), (8, .int (zI v8)), (10, .int (zI v10))] [0, 1, 2, 3, 4, 5, 6, 7] rfl ?_
  exact w_X12_drops_175 hc hap k1 k2 h
def J_X12_drops_135 (v1 v2 v4 v5 v7 v8 v9 s0 : Int) (st : z_St) : Option ((Int × z_St) ⊕ z_St) :=
  z_g (z32 s0) (if s0 = 0 then
    J_X12_drops_174 v1 v2 v4 v5 v7 v8 s0 v8 st
  else
    z_g (0 ≤ v8 ∧ v8 < 340) <|
    z_g (z64 ((st 192 v8) - v5) ∧ z64 v2) (if v2 < (st 192 v8) - v5 then
      J_X12_drops_174 v1 v2 v4 v5 v7 v8 s0 v8 st
    else
      z_g (z32 v9 ∧ z32 v4) (if v9 < v4 then
        J_X12_drops_175 v1 v2 v4 v5 v7 v8 s0 1 v8 st
      else
        J_X12_drops_174 v1 v2 v4 v5 v7 v8 s0 v8 st)))
set_option maxRecDepth 100000 in
set_option maxHeartbeats 4000000 in
theorem w_X12_drops_135 {κ : zK} {a : Nat → Nat} {v1 v2 v4 v5 v7 v8 v9 s0 : Int} {st : z_St} {mc9 ms9 : Nat} {o : (Int × z_St) ⊕ z_St} (hc : z_C κ RX12 cX12_drops 11 9 mc9 ms9) (hap : z_AP κ a z_N) (k1 : ∀ s9 : (Int × z_St), o = .inl s9 → z_V κ z_T z_N a 0 0 44 [(0, .ref (a 168)), (1, .int (zI v1)), (2, .long (zJ v2)), (4, .int (zI v4)), (5, .long (zJ v5)), (7, .int (zI s9.1))] [] s9.2) (k2 : ∀ x9 : z_St, o = .inr x9 → z_V κ z_T z_N a 0 0 211 [] [] x9) (h : J_X12_drops_135 v1 v2 v4 v5 v7 v8 v9 s0 st = some o) : z_V κ z_T z_N a 0 0 135 [(0, .ref (a 168)), (1, .int (zI v1)), (2, .long (zJ v2)), (4, .int (zI v4)), (5, .long (zJ v5)), (7, .int (zI v7)), (8, .int (zI v8)), (9, .int (zI v9))] [.int (zI s0)] st := by
  unfold J_X12_drops_135 at h
  refine z_istore [(10, .int (zI s0)), (0, .ref (a 168)), (1, .int (zI v1)), (2, .long (zJ v2)), (4, .int (zI v4)), (5, .long (zJ v5)), (7, .int (zI v7)), (8, .int (zI v8)), (9, .int (zI v9))] hc dX12_drops_135 (by decide) rfl ?_
  refine z_aload_n (i := 0) 1 hc dX12_drops_137 rfl rfl ?_
  refine z_getA (k' := 194) hc fl_RX12_93 tT_168 (by decide) rfl rfl dX12_drops_138 ?_
  refine z_iload 7 hc dX12_drops_141 rfl ?_
  refine z_iload 0 hc dX12_drops_143 rfl ?_
  refine z_if_eq (tgt := 174) hc dX12_drops_145 (by decide) h (fun c145 h => ?_) (fun c145 h => ?_)
  · refine z_sub [(0, .ref (a 168)), (1, .int (zI v1)), (2, .long (zJ v2)), (4, .int (zI v4)), (5, .long (zJ v5)), (7, .int (zI v7)), (8, .int (zI v8)), (10, .int (zI s0))] [1, 2, 3, 4, 5, 6, 7, 0] rfl ?_
    exact w_X12_drops_174 hc hap k1 k2 h
  · refine z_aload_n (i := 0) 1 hc dX12_drops_148 rfl rfl ?_
    refine z_getA (k' := 192) hc fl_RX12_87 tT_168 (by decide) rfl rfl dX12_drops_149 ?_
    refine z_iload 7 hc dX12_drops_152 rfl ?_
    refine z_lald (kI := 192) (nI9 := 340) hc tT_192 (by decide) rfl rfl (by decide) dX12_drops_154 h (fun g13 h => ?_)
    refine z_lload 5 hc dX12_drops_155 rfl ?_
    refine z_lsub hc dX12_drops_157 ?_
    refine z_lload_n (i := 2) 3 hc dX12_drops_158 rfl rfl ?_
    refine z_lcmp_gt (tgt := 174) hc dX12_drops_159 dX12_drops_160 (by decide) h (fun c159 h => ?_) (fun c159 h => ?_)
    · refine z_sub [(0, .ref (a 168)), (1, .int (zI v1)), (2, .long (zJ v2)), (4, .int (zI v4)), (5, .long (zJ v5)), (7, .int (zI v7)), (8, .int (zI v8)), (10, .int (zI s0))] [1, 2, 3, 4, 5, 6, 7, 0] rfl ?_
      exact w_X12_drops_174 hc hap k1 k2 h
    · refine z_iload 8 hc dX12_drops_163 rfl ?_
      refine z_iload 4 hc dX12_drops_165 rfl ?_
      refine z_icmp_ge (tgt := 174) hc dX12_drops_167 (by decide) h (fun c167 h => ?_) (fun c167 h => ?_)
      · refine z_iconst hc dX12_drops_170 ?_
        refine z_goto (tgt := 175) hc dX12_drops_171 (by decide) ?_
        refine z_sub [(0, .ref (a 168)), (1, .int (zI v1)), (2, .long (zJ v2)), (4, .int (zI v4)), (5, .long (zJ v5)), (7, .int (zI v7)), (8, .int (zI v8)), (10, .int (zI s0))] [1, 2, 3, 4, 5, 6, 7, 0] rfl ?_
        exact w_X12_drops_175 hc hap k1 k2 h
      · refine z_sub [(0, .ref (a 168)), (1, .int (zI v1)), (2, .long (zJ v2)), (4, .int (zI v4)), (5, .long (zJ v5)), (7, .int (zI v7)), (8, .int (zI v8)), (10, .int (zI s0))] [1, 2, 3, 4, 5, 6, 7, 0] rfl ?_
        exact w_X12_drops_174 hc hap k1 k2 h
def J_X12_drops_b44 (v1 v2 v4 v5 v7 : Int) (st : z_St) : Option ((Int × z_St) ⊕ z_St) :=
  z_g (z32 v7 ∧ z32 20) (if v7 < 20 then
    z_b (z_iter z_F (fun q9 : (Int × Int) => J_X12_drops_b66 v1 v2 v4 v5 v7 ((20 * v1) + v7) q9.1 q9.2 st) (0, 0)) fun lx8 =>
      z_g (0 ≤ (20 * v1) + v7 ∧ (20 * v1) + v7 < 340) <|
      z_g (z32 (st 193 ((20 * v1) + v7))) (if 0 < st 193 ((20 * v1) + v7) then
        J_X12_drops_135 v1 v2 v4 v5 v7 ((20 * v1) + v7) lx8 1 st
      else
        J_X12_drops_135 v1 v2 v4 v5 v7 ((20 * v1) + v7) lx8 0 st)
  else
    some (.inr st))
set_option maxRecDepth 100000 in
set_option maxHeartbeats 4000000 in
theorem w_X12_drops_b44 {κ : zK} {a : Nat → Nat} {v1 v2 v4 v5 v7 : Int} {st : z_St} {mc9 ms9 : Nat} {o : (Int × z_St) ⊕ z_St} (hc : z_C κ RX12 cX12_drops 11 9 mc9 ms9) (hap : z_AP κ a z_N) (k1 : ∀ s9 : (Int × z_St), o = .inl s9 → z_V κ z_T z_N a 0 0 44 [(0, .ref (a 168)), (1, .int (zI v1)), (2, .long (zJ v2)), (4, .int (zI v4)), (5, .long (zJ v5)), (7, .int (zI s9.1))] [] s9.2) (k2 : ∀ x9 : z_St, o = .inr x9 → z_V κ z_T z_N a 0 0 211 [] [] x9) (h : J_X12_drops_b44 v1 v2 v4 v5 v7 st = some o) : z_V κ z_T z_N a 0 0 44 [(0, .ref (a 168)), (1, .int (zI v1)), (2, .long (zJ v2)), (4, .int (zI v4)), (5, .long (zJ v5)), (7, .int (zI v7))] [] st := by
  unfold J_X12_drops_b44 at h
  refine z_iload 5 hc dX12_drops_44 rfl ?_
  refine z_bipush hc dX12_drops_46 rfl ?_
  refine z_icmp_ge (tgt := 211) hc dX12_drops_48 (by decide) h (fun c48 h => ?_) (fun c48 h => ?_)
  · refine z_bipush hc dX12_drops_51 rfl ?_
    refine z_iload_n (i := 1) 1 hc dX12_drops_53 rfl rfl ?_
    refine z_imul hc dX12_drops_54 ?_
    refine z_iload 5 hc dX12_drops_55 rfl ?_
    refine z_iadd hc dX12_drops_57 ?_
    refine z_istore [(8, .int (zI ((20 * v1) + v7))), (0, .ref (a 168)), (1, .int (zI v1)), (2, .long (zJ v2)), (4, .int (zI v4)), (5, .long (zJ v5)), (7, .int (zI v7))] hc dX12_drops_58 (by decide) rfl ?_
    refine z_iconst hc dX12_drops_60 ?_
    refine z_istore [(9, .int (zI 0)), (8, .int (zI ((20 * v1) + v7))), (0, .ref (a 168)), (1, .int (zI v1)), (2, .long (zJ v2)), (4, .int (zI v4)), (5, .long (zJ v5)), (7, .int (zI v7))] hc dX12_drops_61 (by decide) rfl ?_
    refine z_iconst hc dX12_drops_63 ?_
    refine z_istore [(10, .int (zI 0)), (9, .int (zI 0)), (8, .int (zI ((20 * v1) + v7))), (0, .ref (a 168)), (1, .int (zI v1)), (2, .long (zJ v2)), (4, .int (zI v4)), (5, .long (zJ v5)), (7, .int (zI v7))] hc dX12_drops_64 (by decide) rfl ?_
    obtain ⟨lx8, hlx8, h⟩ := z_b_some h
    refine z_sub [(0, .ref (a 168)), (1, .int (zI v1)), (2, .long (zJ v2)), (4, .int (zI v4)), (5, .long (zJ v5)), (7, .int (zI v7)), (8, .int (zI ((20 * v1) + v7))), (9, .int (zI 0)), (10, .int (zI 0))] [3, 4, 5, 6, 7, 8, 2, 1, 0] rfl ?_
    refine z_loop (fun q9 : (Int × Int) => J_X12_drops_b66 v1 v2 v4 v5 v7 ((20 * v1) + v7) q9.1 q9.2 st) (fun q9 : (Int × Int) => z_V κ z_T z_N a 0 0 66 [(0, .ref (a 168)), (1, .int (zI v1)), (2, .long (zJ v2)), (4, .int (zI v4)), (5, .long (zJ v5)), (7, .int (zI v7)), (8, .int (zI ((20 * v1) + v7))), (9, .int (zI q9.1)), (10, .int (zI q9.2))] [] st) (fun x9 : Int => z_V κ z_T z_N a 0 0 120 [(0, .ref (a 168)), (1, .int (zI v1)), (2, .long (zJ v2)), (4, .int (zI v4)), (5, .long (zJ v5)), (7, .int (zI v7)), (8, .int (zI ((20 * v1) + v7))), (9, .int (zI x9))] [] st) (fun q9 o9 hb k1 k2 => ?_) _ _ _ hlx8 ?_
    · exact w_X12_drops_b66 hc hap k1 k2 hb
    · show z_V κ z_T z_N a 0 0 120 [(0, .ref (a 168)), (1, .int (zI v1)), (2, .long (zJ v2)), (4, .int (zI v4)), (5, .long (zJ v5)), (7, .int (zI v7)), (8, .int (zI ((20 * v1) + v7))), (9, .int (zI lx8))] [] st
      refine z_aload_n (i := 0) 0 hc dX12_drops_120 rfl rfl ?_
      refine z_getA (k' := 193) hc fl_RX12_90 tT_168 (by decide) rfl rfl dX12_drops_121 ?_
      refine z_iload 6 hc dX12_drops_124 rfl ?_
      refine z_iald (kI := 193) (nI9 := 340) hc tT_193 (by decide) rfl rfl (by decide) dX12_drops_126 h (fun g9 h => ?_)
      refine z_if_le (tgt := 134) hc dX12_drops_127 (by decide) h (fun c127 h => ?_) (fun c127 h => ?_)
      · refine z_iconst hc dX12_drops_130 ?_
        refine z_goto (tgt := 135) hc dX12_drops_131 (by decide) ?_
        refine z_sub [(0, .ref (a 168)), (1, .int (zI v1)), (2, .long (zJ v2)), (4, .int (zI v4)), (5, .long (zJ v5)), (7, .int (zI v7)), (8, .int (zI ((20 * v1) + v7))), (9, .int (zI lx8))] [0, 1, 2, 3, 4, 5, 6, 7] rfl ?_
        exact w_X12_drops_135 hc hap k1 k2 h
      · refine z_iconst hc dX12_drops_134 ?_
        refine z_sub [(0, .ref (a 168)), (1, .int (zI v1)), (2, .long (zJ v2)), (4, .int (zI v4)), (5, .long (zJ v5)), (7, .int (zI v7)), (8, .int (zI ((20 * v1) + v7))), (9, .int (zI lx8))] [0, 1, 2, 3, 4, 5, 6, 7] rfl ?_
        exact w_X12_drops_135 hc hap k1 k2 h
  · refine z_sub [] [] rfl ?_
    exact k2 st (Option.some.inj h).symm
def J_X12_drops (x1 x2 x4 : Int) (st : z_St) : Option (z_St) :=
  z_b (z_iter z_F (fun q9 : (Int × Int) => J_X12_drops_b8 x1 x2 x4 q9.1 q9.2 st) (1000000000000000000, 0)) fun lx4 =>
    z_b (z_iter z_F (fun q9 : (Int × z_St) => J_X12_drops_b44 x1 x2 x4 lx4 q9.1 q9.2) (0, st)) fun lx14 =>
      some lx14
set_option maxRecDepth 100000 in
set_option maxHeartbeats 4000000 in
theorem w_X12_drops {κ : zK} {a : Nat → Nat} {x1 x2 x4 : Int} {st : z_St} {o : z_St} (hc : z_C κ RX12 cX12_drops 11 9 0 0) (hap : z_AP κ a z_N) (he : z_E 2 κ none z_T z_N a 0 o) (h : J_X12_drops x1 x2 x4 st = some o) : z_V κ z_T z_N a 0 0 0 [(0, .ref (a 168)), (1, .int (zI x1)), (2, .long (zJ x2)), (4, .int (zI x4))] [] st := by
  unfold J_X12_drops at h
  refine z_ldc2 1000000000000000000 hc kc_RX12_205 dX12_drops_0 rfl ?_
  refine z_lstore [(5, .long (zJ 1000000000000000000)), (0, .ref (a 168)), (1, .int (zI x1)), (2, .long (zJ x2)), (4, .int (zI x4))] hc dX12_drops_3 (by decide) rfl ?_
  refine z_iconst hc dX12_drops_5 ?_
  refine z_istore [(7, .int (zI 0)), (5, .long (zJ 1000000000000000000)), (0, .ref (a 168)), (1, .int (zI x1)), (2, .long (zJ x2)), (4, .int (zI x4))] hc dX12_drops_6 (by decide) rfl ?_
  obtain ⟨lx4, hlx4, h⟩ := z_b_some h
  refine z_sub [(0, .ref (a 168)), (1, .int (zI x1)), (2, .long (zJ x2)), (4, .int (zI x4)), (5, .long (zJ 1000000000000000000)), (7, .int (zI 0))] [2, 3, 4, 5, 1, 0] rfl ?_
  refine z_loop (fun q9 : (Int × Int) => J_X12_drops_b8 x1 x2 x4 q9.1 q9.2 st) (fun q9 : (Int × Int) => z_V κ z_T z_N a 0 0 8 [(0, .ref (a 168)), (1, .int (zI x1)), (2, .long (zJ x2)), (4, .int (zI x4)), (5, .long (zJ q9.1)), (7, .int (zI q9.2))] [] st) (fun x9 : Int => z_V κ z_T z_N a 0 0 41 [(0, .ref (a 168)), (1, .int (zI x1)), (2, .long (zJ x2)), (4, .int (zI x4)), (5, .long (zJ x9))] [] st) (fun q9 o9 hb k1 k2 => ?_) _ _ _ hlx4 ?_
  · exact w_X12_drops_b8 hc hap k1 k2 hb
  · show z_V κ z_T z_N a 0 0 41 [(0, .ref (a 168)), (1, .int (zI x1)), (2, .long (zJ x2)), (4, .int (zI x4)), (5, .long (zJ lx4))] [] st
    refine z_iconst hc dX12_drops_41 ?_
    refine z_istore [(7, .int (zI 0)), (0, .ref (a 168)), (1, .int (zI x1)), (2, .long (zJ x2)), (4, .int (zI x4)), (5, .long (zJ lx4))] hc dX12_drops_42 (by decide) rfl ?_
    obtain ⟨lx14, hlx14, h⟩ := z_b_some h
    refine z_sub [(0, .ref (a 168)), (1, .int (zI x1)), (2, .long (zJ x2)), (4, .int (zI x4)), (5, .long (zJ lx4)), (7, .int (zI 0))] [1, 2, 3, 4, 5, 0] rfl ?_
    refine z_loop (fun q9 : (Int × z_St) => J_X12_drops_b44 x1 x2 x4 lx4 q9.1 q9.2) (fun q9 : (Int × z_St) => z_V κ z_T z_N a 0 0 44 [(0, .ref (a 168)), (1, .int (zI x1)), (2, .long (zJ x2)), (4, .int (zI x4)), (5, .long (zJ lx4)), (7, .int (zI q9.1))] [] q9.2) (fun x9 : z_St => z_V κ z_T z_N a 0 0 211 [] [] x9) (fun q9 o9 hb k1 k2 => ?_) _ _ _ hlx14 ?_
    · exact w_X12_drops_b44 hc hap k1 k2 hb
    · show z_V κ z_T z_N a 0 0 211 [] [] lx14
      have h := Option.some.inj h
      subst h
      exact z_retV hc he dX12_drops_211
set_option maxRecDepth 100000 in
set_option maxHeartbeats 4000000 in
theorem c_X12_drops {l : Launch} (hl : l.stackTraces = false) {a : Nat → Nat} {x1 x2 x4 : Int} {st : z_St} {o : z_St} (h : J_X12_drops x1 x2 x4 st = some o) : z_M 2 l yX12_drops cX12_drops 11 none 9 z_T z_N a [.ref (a 168), .int (zI x1), .long (zJ x2), .int (zI x4)] st 0 o := z_of hl (by decide +kernel) (Nat.le_of_ble_eq_true rfl) (fun κ hc hap he => w_X12_drops hc hap he h)
theorem dX12_found_0 : decode cX12_found 0 = .ok (.aload_n 0, 1) := by decide +kernel
theorem dX12_found_1 : decode cX12_found 1 = .ok (.lload_n 1, 1) := by decide +kernel
theorem dX12_found_2 : decode cX12_found 2 = .ok (.lconst 0, 1) := by decide +kernel
theorem dX12_found_3 : decode cX12_found 3 = .ok (.lcmp, 1) := by decide +kernel
theorem dX12_found_4 : decode cX12_found 4 = .ok (.ifCond .lt 22, 3) := by decide +kernel
theorem dX12_found_7 : decode cX12_found 7 = .ok (.iload_n 3, 1) := by decide +kernel
theorem dX12_found_8 : decode cX12_found 8 = .ok (.iconst 1, 1) := by decide +kernel
theorem dX12_found_9 : decode cX12_found 9 = .ok (.if_icmp .lt 17, 3) := by decide +kernel
theorem dX12_found_12 : decode cX12_found 12 = .ok (.aload_n 0, 1) := by decide +kernel
theorem dX12_found_13 : decode cX12_found 13 = .ok (.iload 4, 2) := by decide +kernel
theorem dX12_found_15 : decode cX12_found 15 = .ok (.i2l, 1) := by decide +kernel
theorem dX12_found_16 : decode cX12_found 16 = .ok (.lconst 0, 1) := by decide +kernel
theorem dX12_found_17 : decode cX12_found 17 = .ok (.ldc2_w 139, 3) := by decide +kernel
theorem dX12_found_20 : decode cX12_found 20 = .ok (.invokevirtual 116, 3) := by decide +kernel
theorem dX12_found_23 : decode cX12_found 23 = .ok (.ifCond .ne 7, 3) := by decide +kernel
theorem dX12_found_26 : decode cX12_found 26 = .ok (.iconst 1, 1) := by decide +kernel
theorem dX12_found_27 : decode cX12_found 27 = .ok (.goto 4, 3) := by decide +kernel
theorem dX12_found_30 : decode cX12_found 30 = .ok (.iconst 0, 1) := by decide +kernel
theorem dX12_found_31 : decode cX12_found 31 = .ok (.invokevirtual 131, 3) := by decide +kernel
theorem dX12_found_34 : decode cX12_found 34 = .ok (.ifCond .eq 7, 3) := by decide +kernel
theorem dX12_found_37 : decode cX12_found 37 = .ok (.ldc2_w 145, 3) := by decide +kernel
theorem dX12_found_40 : decode cX12_found 40 = .ok (.lreturn, 1) := by decide +kernel
theorem dX12_found_41 : decode cX12_found 41 = .ok (.aload_n 0, 1) := by decide +kernel
theorem dX12_found_42 : decode cX12_found 42 = .ok (.invokevirtual 218, 3) := by decide +kernel
theorem dX12_found_45 : decode cX12_found 45 = .ok (.aload_n 0, 1) := by decide +kernel
theorem dX12_found_46 : decode cX12_found 46 = .ok (.lconst 0, 1) := by decide +kernel
theorem dX12_found_47 : decode cX12_found 47 = .ok (.putfield 277, 3) := by decide +kernel
theorem dX12_found_50 : decode cX12_found 50 = .ok (.iconst 1, 1) := by decide +kernel
theorem dX12_found_51 : decode cX12_found 51 = .ok (.istore 5, 2) := by decide +kernel
theorem dX12_found_53 : decode cX12_found 53 = .ok (.iload 5, 2) := by decide +kernel
theorem dX12_found_55 : decode cX12_found 55 = .ok (.aload_n 0, 1) := by decide +kernel
theorem dX12_found_56 : decode cX12_found 56 = .ok (.getfield 128, 3) := by decide +kernel
theorem dX12_found_59 : decode cX12_found 59 = .ok (.if_icmp .gt 23, 3) := by decide +kernel
theorem dX12_found_62 : decode cX12_found 62 = .ok (.aload_n 0, 1) := by decide +kernel
theorem dX12_found_63 : decode cX12_found 63 = .ok (.iload 5, 2) := by decide +kernel
theorem dX12_found_65 : decode cX12_found 65 = .ok (.invokevirtual 281, 3) := by decide +kernel
theorem dX12_found_68 : decode cX12_found 68 = .ok (.aload_n 0, 1) := by decide +kernel
theorem dX12_found_69 : decode cX12_found 69 = .ok (.iload 5, 2) := by decide +kernel
theorem dX12_found_71 : decode cX12_found 71 = .ok (.lload_n 1, 1) := by decide +kernel
theorem dX12_found_72 : decode cX12_found 72 = .ok (.iload_n 3, 1) := by decide +kernel
theorem dX12_found_73 : decode cX12_found 73 = .ok (.invokevirtual 285, 3) := by decide +kernel
theorem dX12_found_76 : decode cX12_found 76 = .ok (.iinc 5 1, 3) := by decide +kernel
theorem dX12_found_79 : decode cX12_found 79 = .ok (.goto (-26), 3) := by decide +kernel
theorem dX12_found_82 : decode cX12_found 82 = .ok (.ldc2_w 205, 3) := by decide +kernel
theorem dX12_found_85 : decode cX12_found 85 = .ok (.lstore 5, 2) := by decide +kernel
theorem dX12_found_87 : decode cX12_found 87 = .ok (.iconst (-1), 1) := by decide +kernel
theorem dX12_found_88 : decode cX12_found 88 = .ok (.istore 7, 2) := by decide +kernel
theorem dX12_found_90 : decode cX12_found 90 = .ok (.iconst 0, 1) := by decide +kernel
theorem dX12_found_91 : decode cX12_found 91 = .ok (.istore 8, 2) := by decide +kernel
theorem dX12_found_93 : decode cX12_found 93 = .ok (.iload 8, 2) := by decide +kernel
theorem dX12_found_95 : decode cX12_found 95 = .ok (.bipush 20, 2) := by decide +kernel
theorem dX12_found_97 : decode cX12_found 97 = .ok (.if_icmp .ge 141, 3) := by decide +kernel
theorem dX12_found_100 : decode cX12_found 100 = .ok (.aload_n 0, 1) := by decide +kernel
theorem dX12_found_101 : decode cX12_found 101 = .ok (.getfield 128, 3) := by decide +kernel
theorem dX12_found_104 : decode cX12_found 104 = .ok (.ifCond .le 134, 3) := by decide +kernel
theorem dX12_found_107 : decode cX12_found 107 = .ok (.bipush 20, 2) := by decide +kernel
theorem dX12_found_109 : decode cX12_found 109 = .ok (.aload_n 0, 1) := by decide +kernel
theorem dX12_found_110 : decode cX12_found 110 = .ok (.getfield 128, 3) := by decide +kernel
theorem dX12_found_113 : decode cX12_found 113 = .ok (.imul, 1) := by decide +kernel
theorem dX12_found_114 : decode cX12_found 114 = .ok (.iload 8, 2) := by decide +kernel
theorem dX12_found_116 : decode cX12_found 116 = .ok (.iadd, 1) := by decide +kernel
theorem dX12_found_117 : decode cX12_found 117 = .ok (.istore 9, 2) := by decide +kernel
theorem dX12_found_119 : decode cX12_found 119 = .ok (.aload_n 0, 1) := by decide +kernel
theorem dX12_found_120 : decode cX12_found 120 = .ok (.getfield 93, 3) := by decide +kernel
theorem dX12_found_123 : decode cX12_found 123 = .ok (.iload 9, 2) := by decide +kernel
theorem dX12_found_125 : decode cX12_found 125 = .ok (.baload, 1) := by decide +kernel
theorem dX12_found_126 : decode cX12_found 126 = .ok (.ifCond .eq 23, 3) := by decide +kernel
theorem dX12_found_129 : decode cX12_found 129 = .ok (.aload_n 0, 1) := by decide +kernel
theorem dX12_found_130 : decode cX12_found 130 = .ok (.getfield 87, 3) := by decide +kernel
theorem dX12_found_133 : decode cX12_found 133 = .ok (.iload 9, 2) := by decide +kernel
theorem dX12_found_135 : decode cX12_found 135 = .ok (.laload, 1) := by decide +kernel
theorem dX12_found_136 : decode cX12_found 136 = .ok (.aload_n 0, 1) := by decide +kernel
theorem dX12_found_137 : decode cX12_found 137 = .ok (.iload 8, 2) := by decide +kernel
theorem dX12_found_139 : decode cX12_found 139 = .ok (.iconst 5, 1) := by decide +kernel
theorem dX12_found_140 : decode cX12_found 140 = .ok (.irem, 1) := by decide +kernel
theorem dX12_found_141 : decode cX12_found 141 = .ok (.iconst 5, 1) := by decide +kernel
theorem dX12_found_142 : decode cX12_found 142 = .ok (.invokevirtual 253, 3) := by decide +kernel
theorem dX12_found_145 : decode cX12_found 145 = .ok (.ladd, 1) := by decide +kernel
theorem dX12_found_146 : decode cX12_found 146 = .ok (.goto 6, 3) := by decide +kernel
theorem dX12_found_149 : decode cX12_found 149 = .ok (.ldc2_w 205, 3) := by decide +kernel
theorem dX12_found_152 : decode cX12_found 152 = .ok (.lstore 10, 2) := by decide +kernel
theorem dX12_found_154 : decode cX12_found 154 = .ok (.aload_n 0, 1) := by decide +kernel
theorem dX12_found_155 : decode cX12_found 155 = .ok (.getfield 93, 3) := by decide +kernel
theorem dX12_found_158 : decode cX12_found 158 = .ok (.iload 9, 2) := by decide +kernel
theorem dX12_found_160 : decode cX12_found 160 = .ok (.baload, 1) := by decide +kernel
theorem dX12_found_161 : decode cX12_found 161 = .ok (.ifCond .eq 35, 3) := by decide +kernel
theorem dX12_found_164 : decode cX12_found 164 = .ok (.lload 10, 2) := by decide +kernel
theorem dX12_found_166 : decode cX12_found 166 = .ok (.lload 5, 2) := by decide +kernel
theorem dX12_found_168 : decode cX12_found 168 = .ok (.lcmp, 1) := by decide +kernel
theorem dX12_found_169 : decode cX12_found 169 = .ok (.ifCond .lt 23, 3) := by decide +kernel
theorem dX12_found_172 : decode cX12_found 172 = .ok (.lload 10, 2) := by decide +kernel
theorem dX12_found_174 : decode cX12_found 174 = .ok (.lload 5, 2) := by decide +kernel
theorem dX12_found_176 : decode cX12_found 176 = .ok (.lcmp, 1) := by decide +kernel
theorem dX12_found_177 : decode cX12_found 177 = .ok (.ifCond .ne 19, 3) := by decide +kernel
theorem dX12_found_180 : decode cX12_found 180 = .ok (.aload_n 0, 1) := by decide +kernel
theorem dX12_found_181 : decode cX12_found 181 = .ok (.getfield 90, 3) := by decide +kernel
theorem dX12_found_184 : decode cX12_found 184 = .ok (.iload 9, 2) := by decide +kernel
theorem dX12_found_186 : decode cX12_found 186 = .ok (.iaload, 1) := by decide +kernel
theorem dX12_found_187 : decode cX12_found 187 = .ok (.iload 7, 2) := by decide +kernel
theorem dX12_found_189 : decode cX12_found 189 = .ok (.if_icmp .ge 7, 3) := by decide +kernel
theorem dX12_found_192 : decode cX12_found 192 = .ok (.iconst 1, 1) := by decide +kernel
theorem dX12_found_193 : decode cX12_found 193 = .ok (.goto 4, 3) := by decide +kernel
theorem dX12_found_196 : decode cX12_found 196 = .ok (.iconst 0, 1) := by decide +kernel
theorem dX12_found_197 : decode cX12_found 197 = .ok (.istore 12, 2) := by decide +kernel
theorem dX12_found_199 : decode cX12_found 199 = .ok (.iload 12, 2) := by decide +kernel
theorem dX12_found_201 : decode cX12_found 201 = .ok (.ifCond .eq 8, 3) := by decide +kernel
theorem dX12_found_204 : decode cX12_found 204 = .ok (.lload 10, 2) := by decide +kernel
theorem dX12_found_206 : decode cX12_found 206 = .ok (.goto 5, 3) := by decide +kernel
theorem dX12_found_209 : decode cX12_found 209 = .ok (.lload 5, 2) := by decide +kernel
theorem dX12_found_211 : decode cX12_found 211 = .ok (.lstore 5, 2) := by decide +kernel
theorem dX12_found_213 : decode cX12_found 213 = .ok (.iload 12, 2) := by decide +kernel
theorem dX12_found_215 : decode cX12_found 215 = .ok (.ifCond .eq 13, 3) := by decide +kernel
theorem dX12_found_218 : decode cX12_found 218 = .ok (.aload_n 0, 1) := by decide +kernel
theorem dX12_found_219 : decode cX12_found 219 = .ok (.getfield 90, 3) := by decide +kernel
theorem dX12_found_222 : decode cX12_found 222 = .ok (.iload 9, 2) := by decide +kernel
theorem dX12_found_224 : decode cX12_found 224 = .ok (.iaload, 1) := by decide +kernel
theorem dX12_found_225 : decode cX12_found 225 = .ok (.goto 5, 3) := by decide +kernel
theorem dX12_found_228 : decode cX12_found 228 = .ok (.iload 7, 2) := by decide +kernel
theorem dX12_found_230 : decode cX12_found 230 = .ok (.istore 7, 2) := by decide +kernel
theorem dX12_found_232 : decode cX12_found 232 = .ok (.iinc 8 1, 3) := by decide +kernel
theorem dX12_found_235 : decode cX12_found 235 = .ok (.goto (-142), 3) := by decide +kernel
theorem dX12_found_238 : decode cX12_found 238 = .ok (.iload 4, 2) := by decide +kernel
theorem dX12_found_240 : decode cX12_found 240 = .ok (.iconst 2, 1) := by decide +kernel
theorem dX12_found_241 : decode cX12_found 241 = .ok (.if_icmp .ne 10, 3) := by decide +kernel
theorem dX12_found_244 : decode cX12_found 244 = .ok (.aload_n 0, 1) := by decide +kernel
theorem dX12_found_245 : decode cX12_found 245 = .ok (.getfield 277, 3) := by decide +kernel
theorem dX12_found_248 : decode cX12_found 248 = .ok (.goto 20, 3) := by decide +kernel
theorem dX12_found_251 : decode cX12_found 251 = .ok (.iload 4, 2) := by decide +kernel
theorem dX12_found_253 : decode cX12_found 253 = .ok (.ifCond .ne 9, 3) := by decide +kernel
theorem dX12_found_256 : decode cX12_found 256 = .ok (.iload 7, 2) := by decide +kernel
theorem dX12_found_258 : decode cX12_found 258 = .ok (.i2l, 1) := by decide +kernel
theorem dX12_found_259 : decode cX12_found 259 = .ok (.goto 9, 3) := by decide +kernel
theorem dX12_found_262 : decode cX12_found 262 = .ok (.aload_n 0, 1) := by decide +kernel
theorem dX12_found_263 : decode cX12_found 263 = .ok (.lload 5, 2) := by decide +kernel
theorem dX12_found_265 : decode cX12_found 265 = .ok (.invokevirtual 224, 3) := by decide +kernel
theorem dX12_found_268 : decode cX12_found 268 = .ok (.lreturn, 1) := by decide +kernel
def J_X12_found_b53 (v1 v3 v4 v5 : Int) (st : z_St) : Option ((Int × z_St) ⊕ z_St) :=
  z_g (z32 v5 ∧ z32 (st 168 2)) (if st 168 2 < v5 then
    some (.inr st)
  else
    z_b (J_X12_laysEnds v5 st) fun st7 =>
    z_b (J_X12_drops v5 v1 v3 st7) fun st9 =>
    some (.inl (v5 + 1, st9)))
set_option maxRecDepth 100000 in
set_option maxHeartbeats 4000000 in
theorem w_X12_found_b53 {κ : zK} {a : Nat → Nat} {v1 v3 v4 v5 : Int} {st : z_St} {mc9 ms9 : Nat} {o : (Int × z_St) ⊕ z_St} (hc : z_C κ RX12 cX12_found 13 12 mc9 ms9) (hap : z_AP κ a z_N) (k1 : ∀ s9 : (Int × z_St), o = .inl s9 → z_V κ z_T z_N a 0 0 53 [(0, .ref (a 168)), (1, .long (zJ v1)), (3, .int (zI v3)), (4, .int (zI v4)), (5, .int (zI s9.1))] [] s9.2) (k2 : ∀ x9 : z_St, o = .inr x9 → z_V κ z_T z_N a 0 0 82 [(0, .ref (a 168)), (4, .int (zI v4))] [] x9) (h : J_X12_found_b53 v1 v3 v4 v5 st = some o) : z_V κ z_T z_N a 0 0 53 [(0, .ref (a 168)), (1, .long (zJ v1)), (3, .int (zI v3)), (4, .int (zI v4)), (5, .int (zI v5))] [] st := by
  unfold J_X12_found_b53 at h
  refine z_iload 4 hc dX12_found_53 rfl ?_
  refine z_aload_n (i := 0) 0 hc dX12_found_55 rfl rfl ?_
  refine z_getI (kI := 168) (jI := 2) hc fl_RX12_128 tT_168 (by decide) rfl rfl rfl dX12_found_56 ?_
  refine z_icmp_gt (tgt := 82) hc dX12_found_59 (by decide) h (fun c59 h => ?_) (fun c59 h => ?_)
  · refine z_sub [(0, .ref (a 168)), (4, .int (zI v4))] [0, 3] rfl ?_
    exact k2 st (Option.some.inj h).symm
  · refine z_aload_n (i := 0) 0 hc dX12_found_62 rfl rfl ?_
    refine z_iload 4 hc dX12_found_63 rfl ?_
    obtain ⟨st7, hr6, h⟩ := z_b_some h
    refine z_callVV [.int (zI v5)] hc hap o_X12_laysEnds ml_RX12_281 (fun l hl => c_X12_laysEnds hl  hr6) (by decide) tT_168 (by decide) ⟨_, rfl, rfl⟩ rfl rfl (Nat.le_of_ble_eq_true rfl) (Nat.zero_le _) (Nat.zero_le _) dX12_found_65 ?_
    refine z_aload_n (i := 0) 0 hc dX12_found_68 rfl rfl ?_
    refine z_iload 4 hc dX12_found_69 rfl ?_
    refine z_lload_n (i := 1) 1 hc dX12_found_71 rfl rfl ?_
    refine z_iload_n (i := 3) 2 hc dX12_found_72 rfl rfl ?_
    obtain ⟨st9, hr8, h⟩ := z_b_some h
    refine z_callVV [.int (zI v5), .long (zJ v1), .int (zI v3)] hc hap o_X12_drops ml_RX12_285 (fun l hl => c_X12_drops hl  hr8) (by decide) tT_168 (by decide) ⟨_, rfl, rfl⟩ rfl rfl (Nat.le_of_ble_eq_true rfl) (Nat.zero_le _) (Nat.zero_le _) dX12_found_73 ?_
    refine z_iinc [(5, .int (zI (v5 + 1))), (0, .ref (a 168)), (1, .long (zJ v1)), (3, .int (zI v3)), (4, .int (zI v4))] 4 hc dX12_found_76 rfl (by decide) rfl ?_
    refine z_goto (tgt := 53) hc dX12_found_79 (by decide) ?_
    refine z_sub [(0, .ref (a 168)), (1, .long (zJ v1)), (3, .int (zI v3)), (4, .int (zI v4)), (5, .int (zI (v5 + 1)))] [1, 2, 3, 4, 0] rfl ?_
    exact k1 _ (Option.some.inj h).symm
def J_X12_found_230 (v4 v5 v8 s0 : Int) (st : z_St) : Option ((Int × Int × Int) ⊕ (Int × Int)) :=
  some (.inl (v5, s0, v8 + 1))
set_option maxRecDepth 100000 in
set_option maxHeartbeats 4000000 in
theorem w_X12_found_230 {κ : zK} {a : Nat → Nat} {v4 v5 v8 s0 : Int} {st : z_St} {mc9 ms9 : Nat} {o : (Int × Int × Int) ⊕ (Int × Int)} (hc : z_C κ RX12 cX12_found 13 12 mc9 ms9) (hap : z_AP κ a z_N) (k1 : ∀ s9 : (Int × Int × Int), o = .inl s9 → z_V κ z_T z_N a 0 0 93 [(0, .ref (a 168)), (4, .int (zI v4)), (5, .long (zJ s9.1)), (7, .int (zI s9.2.1)), (8, .int (zI s9.2.2))] [] st) (k2 : ∀ x9 : (Int × Int), o = .inr x9 → z_V κ z_T z_N a 0 0 238 [(0, .ref (a 168)), (4, .int (zI v4)), (5, .long (zJ x9.1)), (7, .int (zI x9.2))] [] st) (h : J_X12_found_230 v4 v5 v8 s0 st = some o) : z_V κ z_T z_N a 0 0 230 [(0, .ref (a 168)), (4, .int (zI v4)), (5, .long (zJ v5)), (8, .int (zI v8))] [.int (zI s0)] st := by
  unfold J_X12_found_230 at h
  refine z_istore [(7, .int (zI s0)), (0, .ref (a 168)), (4, .int (zI v4)), (5, .long (zJ v5)), (8, .int (zI v8))] hc dX12_found_230 (by decide) rfl ?_
  refine z_iinc [(8, .int (zI (v8 + 1))), (7, .int (zI s0)), (0, .ref (a 168)), (4, .int (zI v4)), (5, .long (zJ v5))] 4 hc dX12_found_232 rfl (by decide) rfl ?_
  refine z_goto (tgt := 93) hc dX12_found_235 (by decide) ?_
  refine z_sub [(0, .ref (a 168)), (4, .int (zI v4)), (5, .long (zJ v5)), (7, .int (zI s0)), (8, .int (zI (v8 + 1)))] [2, 3, 4, 1, 0] rfl ?_
  exact k1 _ (Option.some.inj h).symm
def J_X12_found_211 (v4 v7 v8 v9 v12 s0 : Int) (st : z_St) : Option ((Int × Int × Int) ⊕ (Int × Int)) :=
  z_g (z32 v12) (if v12 = 0 then
    J_X12_found_230 v4 s0 v8 v7 st
  else
    z_g (0 ≤ v9 ∧ v9 < 340) <|
    J_X12_found_230 v4 s0 v8 (st 193 v9) st)
set_option maxRecDepth 100000 in
set_option maxHeartbeats 4000000 in
theorem w_X12_found_211 {κ : zK} {a : Nat → Nat} {v4 v7 v8 v9 v12 s0 : Int} {st : z_St} {mc9 ms9 : Nat} {o : (Int × Int × Int) ⊕ (Int × Int)} (hc : z_C κ RX12 cX12_found 13 12 mc9 ms9) (hap : z_AP κ a z_N) (k1 : ∀ s9 : (Int × Int × Int), o = .inl s9 → z_V κ z_T z_N a 0 0 93 [(0, .ref (a 168)), (4, .int (zI v4)), (5, .long (zJ s9.1)), (7, .int (zI s9.2.1)), (8, .int (zI s9.2.2))] [] st) (k2 : ∀ x9 : (Int × Int), o = .inr x9 → z_V κ z_T z_N a 0 0 238 [(0, .ref (a 168)), (4, .int (zI v4)), (5, .long (zJ x9.1)), (7, .int (zI x9.2))] [] st) (h : J_X12_found_211 v4 v7 v8 v9 v12 s0 st = some o) : z_V κ z_T z_N a 0 0 211 [(0, .ref (a 168)), (4, .int (zI v4)), (7, .int (zI v7)), (8, .int (zI v8)), (9, .int (zI v9)), (12, .int (zI v12))] [.long (zJ s0)] st := by
  unfold J_X12_found_211 at h
  refine z_lstore [(5, .long (zJ s0)), (0, .ref (a 168)), (4, .int (zI v4)), (7, .int (zI v7)), (8, .int (zI v8)), (9, .int (zI v9)), (12, .int (zI v12))] hc dX12_found_211 (by decide) rfl ?_
  refine z_iload 6 hc dX12_found_213 rfl ?_
  refine z_if_eq (tgt := 228) hc dX12_found_215 (by decide) h (fun c215 h => ?_) (fun c215 h => ?_)
  · refine z_iload 3 hc dX12_found_228 rfl ?_
    refine z_sub [(0, .ref (a 168)), (4, .int (zI v4)), (5, .long (zJ s0)), (8, .int (zI v8))] [1, 2, 0, 4] rfl ?_
    exact w_X12_found_230 hc hap k1 k2 h
  · refine z_aload_n (i := 0) 1 hc dX12_found_218 rfl rfl ?_
    refine z_getA (k' := 193) hc fl_RX12_90 tT_168 (by decide) rfl rfl dX12_found_219 ?_
    refine z_iload 5 hc dX12_found_222 rfl ?_
    refine z_iald (kI := 193) (nI9 := 340) hc tT_193 (by decide) rfl rfl (by decide) dX12_found_224 h (fun g13 h => ?_)
    refine z_goto (tgt := 230) hc dX12_found_225 (by decide) ?_
    refine z_sub [(0, .ref (a 168)), (4, .int (zI v4)), (5, .long (zJ s0)), (8, .int (zI v8))] [1, 2, 0, 4] rfl ?_
    exact w_X12_found_230 hc hap k1 k2 h
def J_X12_found_197 (v4 v5 v7 v8 v9 v10 s0 : Int) (st : z_St) : Option ((Int × Int × Int) ⊕ (Int × Int)) :=
  z_g (z32 s0) (if s0 = 0 then
    J_X12_found_211 v4 v7 v8 v9 s0 v5 st
  else
    J_X12_found_211 v4 v7 v8 v9 s0 v10 st)
set_option maxRecDepth 100000 in
set_option maxHeartbeats 4000000 in
theorem w_X12_found_197 {κ : zK} {a : Nat → Nat} {v4 v5 v7 v8 v9 v10 s0 : Int} {st : z_St} {mc9 ms9 : Nat} {o : (Int × Int × Int) ⊕ (Int × Int)} (hc : z_C κ RX12 cX12_found 13 12 mc9 ms9) (hap : z_AP κ a z_N) (k1 : ∀ s9 : (Int × Int × Int), o = .inl s9 → z_V κ z_T z_N a 0 0 93 [(0, .ref (a 168)), (4, .int (zI v4)), (5, .long (zJ s9.1)), (7, .int (zI s9.2.1)), (8, .int (zI s9.2.2))] [] st) (k2 : ∀ x9 : (Int × Int), o = .inr x9 → z_V κ z_T z_N a 0 0 238 [(0, .ref (a 168)), (4, .int (zI v4)), (5, .long (zJ x9.1)), (7, .int (zI x9.2))] [] st) (h : J_X12_found_197 v4 v5 v7 v8 v9 v10 s0 st = some o) : z_V κ z_T z_N a 0 0 197 [(0, .ref (a 168)), (4, .int (zI v4)), (5, .long (zJ v5)), (7, .int (zI v7)), (8, .int (zI v8)), (9, .int (zI v9)), (10, .long (zJ v10))] [.int (zI s0)] st := by
  unfold J_X12_found_197 at h
  refine z_istore [(12, .int (zI s0)), (0, .ref (a 168)), (4, .int (zI v4)), (5, .long (zJ v5)), (7, .int (zI v7)), (8, .int (zI v8)), (9, .int (zI v9)), (10, .long (zJ v10))] hc dX12_found_197 (by decide) rfl ?_
  refine z_iload 0 hc dX12_found_199 rfl ?_
  refine z_if_eq (tgt := 209) hc dX12_found_201 (by decide) h (fun c201 h => ?_) (fun c201 h => ?_)
  · refine z_lload 3 hc dX12_found_209 rfl ?_
    refine z_sub [(0, .ref (a 168)), (4, .int (zI v4)), (7, .int (zI v7)), (8, .int (zI v8)), (9, .int (zI v9)), (12, .int (zI s0))] [1, 2, 4, 5, 6, 0] rfl ?_
    exact w_X12_found_211 hc hap k1 k2 h
  · refine z_lload 7 hc dX12_found_204 rfl ?_
    refine z_goto (tgt := 211) hc dX12_found_206 (by decide) ?_
    refine z_sub [(0, .ref (a 168)), (4, .int (zI v4)), (7, .int (zI v7)), (8, .int (zI v8)), (9, .int (zI v9)), (12, .int (zI s0))] [1, 2, 4, 5, 6, 0] rfl ?_
    exact w_X12_found_211 hc hap k1 k2 h
def J_X12_found_196 (v4 v5 v7 v8 v9 v10 : Int) (st : z_St) : Option ((Int × Int × Int) ⊕ (Int × Int)) :=
  J_X12_found_197 v4 v5 v7 v8 v9 v10 0 st
set_option maxRecDepth 100000 in
set_option maxHeartbeats 4000000 in
theorem w_X12_found_196 {κ : zK} {a : Nat → Nat} {v4 v5 v7 v8 v9 v10 : Int} {st : z_St} {mc9 ms9 : Nat} {o : (Int × Int × Int) ⊕ (Int × Int)} (hc : z_C κ RX12 cX12_found 13 12 mc9 ms9) (hap : z_AP κ a z_N) (k1 : ∀ s9 : (Int × Int × Int), o = .inl s9 → z_V κ z_T z_N a 0 0 93 [(0, .ref (a 168)), (4, .int (zI v4)), (5, .long (zJ s9.1)), (7, .int (zI s9.2.1)), (8, .int (zI s9.2.2))] [] st) (k2 : ∀ x9 : (Int × Int), o = .inr x9 → z_V κ z_T z_N a 0 0 238 [(0, .ref (a 168)), (4, .int (zI v4)), (5, .long (zJ x9.1)), (7, .int (zI x9.2))] [] st) (h : J_X12_found_196 v4 v5 v7 v8 v9 v10 st = some o) : z_V κ z_T z_N a 0 0 196 [(0, .ref (a 168)), (4, .int (zI v4)), (5, .long (zJ v5)), (7, .int (zI v7)), (8, .int (zI v8)), (9, .int (zI v9)), (10, .long (zJ v10))] [] st := by
  unfold J_X12_found_196 at h
  refine z_iconst hc dX12_found_196 ?_
  refine z_sub [(0, .ref (a 168)), (4, .int (zI v4)), (5, .long (zJ v5)), (7, .int (zI v7)), (8, .int (zI v8)), (9, .int (zI v9)), (10, .long (zJ v10))] [0, 1, 2, 3, 4, 5, 6] rfl ?_
  exact w_X12_found_197 hc hap k1 k2 h
def J_X12_found_192 (v4 v5 v7 v8 v9 v10 : Int) (st : z_St) : Option ((Int × Int × Int) ⊕ (Int × Int)) :=
  J_X12_found_197 v4 v5 v7 v8 v9 v10 1 st
set_option maxRecDepth 100000 in
set_option maxHeartbeats 4000000 in
theorem w_X12_found_192 {κ : zK} {a : Nat → Nat} {v4 v5 v7 v8 v9 v10 : Int} {st : z_St} {mc9 ms9 : Nat} {o : (Int × Int × Int) ⊕ (Int × Int)} (hc : z_C κ RX12 cX12_found 13 12 mc9 ms9) (hap : z_AP κ a z_N) (k1 : ∀ s9 : (Int × Int × Int), o = .inl s9 → z_V κ z_T z_N a 0 0 93 [(0, .ref (a 168)), (4, .int (zI v4)), (5, .long (zJ s9.1)), (7, .int (zI s9.2.1)), (8, .int (zI s9.2.2))] [] st) (k2 : ∀ x9 : (Int × Int), o = .inr x9 → z_V κ z_T z_N a 0 0 238 [(0, .ref (a 168)), (4, .int (zI v4)), (5, .long (zJ x9.1)), (7, .int (zI x9.2))] [] st) (h : J_X12_found_192 v4 v5 v7 v8 v9 v10 st = some o) : z_V κ z_T z_N a 0 0 192 [(0, .ref (a 168)), (4, .int (zI v4)), (5, .long (zJ v5)), (7, .int (zI v7)), (8, .int (zI v8)), (9, .int (zI v9)), (10, .long (zJ v10))] [] st := by
  unfold J_X12_found_192 at h
  refine z_iconst hc dX12_found_192 ?_
  refine z_goto (tgt := 197) hc dX12_found_193 (by decide) ?_
  refine z_sub [(0, .ref (a 168)), (4, .int (zI v4)), (5, .long (zJ v5)), (7, .int (zI v7)), (8, .int (zI v8)), (9, .int (zI v9)), (10, .long (zJ v10))] [0, 1, 2, 3, 4, 5, 6] rfl ?_
  exact w_X12_found_197 hc hap k1 k2 h
def J_X12_found_152 (v4 v5 v7 v8 v9 s0 : Int) (st : z_St) : Option ((Int × Int × Int) ⊕ (Int × Int)) :=
  z_g (0 ≤ v9 ∧ v9 < 340) <|
  z_g (z32 (st 194 v9)) (if st 194 v9 = 0 then
    J_X12_found_196 v4 v5 v7 v8 v9 s0 st
  else
    z_g (z64 s0 ∧ z64 v5) (if s0 < v5 then
      J_X12_found_192 v4 v5 v7 v8 v9 s0 st
    else
      z_g (z64 s0 ∧ z64 v5) (if s0 = v5 then
        z_g (0 ≤ v9 ∧ v9 < 340) <|
        z_g (z32 (st 193 v9) ∧ z32 v7) (if st 193 v9 < v7 then
          J_X12_found_192 v4 v5 v7 v8 v9 s0 st
        else
          J_X12_found_196 v4 v5 v7 v8 v9 s0 st)
      else
        J_X12_found_196 v4 v5 v7 v8 v9 s0 st)))
set_option maxRecDepth 100000 in
set_option maxHeartbeats 4000000 in
theorem w_X12_found_152 {κ : zK} {a : Nat → Nat} {v4 v5 v7 v8 v9 s0 : Int} {st : z_St} {mc9 ms9 : Nat} {o : (Int × Int × Int) ⊕ (Int × Int)} (hc : z_C κ RX12 cX12_found 13 12 mc9 ms9) (hap : z_AP κ a z_N) (k1 : ∀ s9 : (Int × Int × Int), o = .inl s9 → z_V κ z_T z_N a 0 0 93 [(0, .ref (a 168)), (4, .int (zI v4)), (5, .long (zJ s9.1)), (7, .int (zI s9.2.1)), (8, .int (zI s9.2.2))] [] st) (k2 : ∀ x9 : (Int × Int), o = .inr x9 → z_V κ z_T z_N a 0 0 238 [(0, .ref (a 168)), (4, .int (zI v4)), (5, .long (zJ x9.1)), (7, .int (zI x9.2))] [] st) (h : J_X12_found_152 v4 v5 v7 v8 v9 s0 st = some o) : z_V κ z_T z_N a 0 0 152 [(0, .ref (a 168)), (4, .int (zI v4)), (5, .long (zJ v5)), (7, .int (zI v7)), (8, .int (zI v8)), (9, .int (zI v9))] [.long (zJ s0)] st := by
  unfold J_X12_found_152 at h
  refine z_lstore [(10, .long (zJ s0)), (0, .ref (a 168)), (4, .int (zI v4)), (5, .long (zJ v5)), (7, .int (zI v7)), (8, .int (zI v8)), (9, .int (zI v9))] hc dX12_found_152 (by decide) rfl ?_
  refine z_aload_n (i := 0) 1 hc dX12_found_154 rfl rfl ?_
  refine z_getA (k' := 194) hc fl_RX12_93 tT_168 (by decide) rfl rfl dX12_found_155 ?_
  refine z_iload 6 hc dX12_found_158 rfl ?_
  refine z_zald (kI := 194) (nI9 := 340) hc tT_194 (by decide) rfl rfl (by decide) dX12_found_160 h (fun g12 h => ?_)
  refine z_if_eq (tgt := 196) hc dX12_found_161 (by decide) h (fun c161 h => ?_) (fun c161 h => ?_)
  · refine z_sub [(0, .ref (a 168)), (4, .int (zI v4)), (5, .long (zJ v5)), (7, .int (zI v7)), (8, .int (zI v8)), (9, .int (zI v9)), (10, .long (zJ s0))] [1, 2, 3, 4, 5, 6, 0] rfl ?_
    exact w_X12_found_196 hc hap k1 k2 h
  · refine z_lload 0 hc dX12_found_164 rfl ?_
    refine z_lload 3 hc dX12_found_166 rfl ?_
    refine z_lcmp_lt (tgt := 192) hc dX12_found_168 dX12_found_169 (by decide) h (fun c168 h => ?_) (fun c168 h => ?_)
    · refine z_sub [(0, .ref (a 168)), (4, .int (zI v4)), (5, .long (zJ v5)), (7, .int (zI v7)), (8, .int (zI v8)), (9, .int (zI v9)), (10, .long (zJ s0))] [1, 2, 3, 4, 5, 6, 0] rfl ?_
      exact w_X12_found_192 hc hap k1 k2 h
    · refine z_lload 0 hc dX12_found_172 rfl ?_
      refine z_lload 3 hc dX12_found_174 rfl ?_
      refine z_lcmp_ne (tgt := 196) hc dX12_found_176 dX12_found_177 (by decide) h (fun c176 h => ?_) (fun c176 h => ?_)
      · refine z_aload_n (i := 0) 1 hc dX12_found_180 rfl rfl ?_
        refine z_getA (k' := 193) hc fl_RX12_90 tT_168 (by decide) rfl rfl dX12_found_181 ?_
        refine z_iload 6 hc dX12_found_184 rfl ?_
        refine z_iald (kI := 193) (nI9 := 340) hc tT_193 (by decide) rfl rfl (by decide) dX12_found_186 h (fun g14 h => ?_)
        refine z_iload 4 hc dX12_found_187 rfl ?_
        refine z_icmp_ge (tgt := 196) hc dX12_found_189 (by decide) h (fun c189 h => ?_) (fun c189 h => ?_)
        · refine z_sub [(0, .ref (a 168)), (4, .int (zI v4)), (5, .long (zJ v5)), (7, .int (zI v7)), (8, .int (zI v8)), (9, .int (zI v9)), (10, .long (zJ s0))] [1, 2, 3, 4, 5, 6, 0] rfl ?_
          exact w_X12_found_192 hc hap k1 k2 h
        · refine z_sub [(0, .ref (a 168)), (4, .int (zI v4)), (5, .long (zJ v5)), (7, .int (zI v7)), (8, .int (zI v8)), (9, .int (zI v9)), (10, .long (zJ s0))] [1, 2, 3, 4, 5, 6, 0] rfl ?_
          exact w_X12_found_196 hc hap k1 k2 h
      · refine z_sub [(0, .ref (a 168)), (4, .int (zI v4)), (5, .long (zJ v5)), (7, .int (zI v7)), (8, .int (zI v8)), (9, .int (zI v9)), (10, .long (zJ s0))] [1, 2, 3, 4, 5, 6, 0] rfl ?_
        exact w_X12_found_196 hc hap k1 k2 h
def J_X12_found_b93 (v4 v5 v7 v8 : Int) (st : z_St) : Option ((Int × Int × Int) ⊕ (Int × Int)) :=
  z_g (z32 v8 ∧ z32 20) (if v8 < 20 then
    z_g (z32 (st 168 2)) (if 0 < st 168 2 then
      z_g (0 ≤ (20 * (st 168 2)) + v8 ∧ (20 * (st 168 2)) + v8 < 340) <|
      z_g (z32 (st 194 ((20 * (st 168 2)) + v8))) (if st 194 ((20 * (st 168 2)) + v8) = 0 then
        J_X12_found_152 v4 v5 v7 v8 ((20 * (st 168 2)) + v8) 1000000000000000000 st
      else
        z_g (0 ≤ (20 * (st 168 2)) + v8 ∧ (20 * (st 168 2)) + v8 < 340) <|
        z_g (z32 v8 ∧ z32 5 ∧ (5 : Int) ≠ 0) <|
        z_b (J_X12_dear (v8.tmod 5) 5 st) fun r16 =>
        J_X12_found_152 v4 v5 v7 v8 ((20 * (st 168 2)) + v8) ((st 192 ((20 * (st 168 2)) + v8)) + r16) st)
    else
      some (.inr (v5, v7)))
  else
    some (.inr (v5, v7)))
set_option maxRecDepth 100000 in
set_option maxHeartbeats 4000000 in
theorem w_X12_found_b93 {κ : zK} {a : Nat → Nat} {v4 v5 v7 v8 : Int} {st : z_St} {mc9 ms9 : Nat} {o : (Int × Int × Int) ⊕ (Int × Int)} (hc : z_C κ RX12 cX12_found 13 12 mc9 ms9) (hap : z_AP κ a z_N) (k1 : ∀ s9 : (Int × Int × Int), o = .inl s9 → z_V κ z_T z_N a 0 0 93 [(0, .ref (a 168)), (4, .int (zI v4)), (5, .long (zJ s9.1)), (7, .int (zI s9.2.1)), (8, .int (zI s9.2.2))] [] st) (k2 : ∀ x9 : (Int × Int), o = .inr x9 → z_V κ z_T z_N a 0 0 238 [(0, .ref (a 168)), (4, .int (zI v4)), (5, .long (zJ x9.1)), (7, .int (zI x9.2))] [] st) (h : J_X12_found_b93 v4 v5 v7 v8 st = some o) : z_V κ z_T z_N a 0 0 93 [(0, .ref (a 168)), (4, .int (zI v4)), (5, .long (zJ v5)), (7, .int (zI v7)), (8, .int (zI v8))] [] st := by
  unfold J_X12_found_b93 at h
  refine z_iload 4 hc dX12_found_93 rfl ?_
  refine z_bipush hc dX12_found_95 rfl ?_
  refine z_icmp_ge (tgt := 238) hc dX12_found_97 (by decide) h (fun c97 h => ?_) (fun c97 h => ?_)
  · refine z_aload_n (i := 0) 0 hc dX12_found_100 rfl rfl ?_
    refine z_getI (kI := 168) (jI := 2) hc fl_RX12_128 tT_168 (by decide) rfl rfl rfl dX12_found_101 ?_
    refine z_if_le (tgt := 238) hc dX12_found_104 (by decide) h (fun c104 h => ?_) (fun c104 h => ?_)
    · refine z_bipush hc dX12_found_107 rfl ?_
      refine z_aload_n (i := 0) 0 hc dX12_found_109 rfl rfl ?_
      refine z_getI (kI := 168) (jI := 2) hc fl_RX12_128 tT_168 (by decide) rfl rfl rfl dX12_found_110 ?_
      refine z_imul hc dX12_found_113 ?_
      refine z_iload 4 hc dX12_found_114 rfl ?_
      refine z_iadd hc dX12_found_116 ?_
      refine z_istore [(9, .int (zI ((20 * (st 168 2)) + v8))), (0, .ref (a 168)), (4, .int (zI v4)), (5, .long (zJ v5)), (7, .int (zI v7)), (8, .int (zI v8))] hc dX12_found_117 (by decide) rfl ?_
      refine z_aload_n (i := 0) 1 hc dX12_found_119 rfl rfl ?_
      refine z_getA (k' := 194) hc fl_RX12_93 tT_168 (by decide) rfl rfl dX12_found_120 ?_
      refine z_iload 0 hc dX12_found_123 rfl ?_
      refine z_zald (kI := 194) (nI9 := 340) hc tT_194 (by decide) rfl rfl (by decide) dX12_found_125 h (fun g11 h => ?_)
      refine z_if_eq (tgt := 149) hc dX12_found_126 (by decide) h (fun c126 h => ?_) (fun c126 h => ?_)
      · refine z_ldc2 1000000000000000000 hc kc_RX12_205 dX12_found_149 rfl ?_
        refine z_sub [(0, .ref (a 168)), (4, .int (zI v4)), (5, .long (zJ v5)), (7, .int (zI v7)), (8, .int (zI v8)), (9, .int (zI ((20 * (st 168 2)) + v8)))] [1, 2, 3, 4, 5, 0] rfl ?_
        exact w_X12_found_152 hc hap k1 k2 h
      · refine z_aload_n (i := 0) 1 hc dX12_found_129 rfl rfl ?_
        refine z_getA (k' := 192) hc fl_RX12_87 tT_168 (by decide) rfl rfl dX12_found_130 ?_
        refine z_iload 0 hc dX12_found_133 rfl ?_
        refine z_lald (kI := 192) (nI9 := 340) hc tT_192 (by decide) rfl rfl (by decide) dX12_found_135 h (fun g15 h => ?_)
        refine z_aload_n (i := 0) 1 hc dX12_found_136 rfl rfl ?_
        refine z_iload 5 hc dX12_found_137 rfl ?_
        refine z_iconst hc dX12_found_139 ?_
        refine z_irem hc dX12_found_140 h (fun h => ?_)
        refine z_iconst hc dX12_found_141 ?_
        obtain ⟨r16, hr16, h⟩ := z_b_some h
        refine z_callVJ [.int (zI (v8.tmod 5)), .int (zI 5)] hc hap o_X12_dear ml_RX12_253 (fun l hl => c_X12_dear hl  hr16) (by decide) tT_168 (by decide) ⟨_, rfl, rfl⟩ rfl rfl (Nat.le_of_ble_eq_true rfl) (Nat.zero_le _) (Nat.zero_le _) dX12_found_142 ?_
        refine z_ladd hc dX12_found_145 ?_
        refine z_goto (tgt := 152) hc dX12_found_146 (by decide) ?_
        refine z_sub [(0, .ref (a 168)), (4, .int (zI v4)), (5, .long (zJ v5)), (7, .int (zI v7)), (8, .int (zI v8)), (9, .int (zI ((20 * (st 168 2)) + v8)))] [1, 2, 3, 4, 5, 0] rfl ?_
        exact w_X12_found_152 hc hap k1 k2 h
    · refine z_sub [(0, .ref (a 168)), (4, .int (zI v4)), (5, .long (zJ v5)), (7, .int (zI v7))] [0, 1, 2, 3] rfl ?_
      exact k2 (v5, v7) (Option.some.inj h).symm
  · refine z_sub [(0, .ref (a 168)), (4, .int (zI v4)), (5, .long (zJ v5)), (7, .int (zI v7))] [0, 1, 2, 3] rfl ?_
    exact k2 (v5, v7) (Option.some.inj h).symm
def J_X12_found_268 (s0 : Int) (st : z_St) : Option (Int × z_St) :=
  some (s0, st)
set_option maxRecDepth 100000 in
set_option maxHeartbeats 4000000 in
theorem w_X12_found_268 {κ : zK} {a : Nat → Nat} {s0 : Int} {st : z_St} {o : Int × z_St} (hc : z_C κ RX12 cX12_found 13 12 0 0) (hap : z_AP κ a z_N) (he : z_E 1 κ (some .long) z_T z_N a o.1 o.2) (h : J_X12_found_268 s0 st = some o) : z_V κ z_T z_N a 0 0 268 [] [.long (zJ s0)] st := by
  unfold J_X12_found_268 at h
  have h := Option.some.inj h
  subst h
  exact z_retJ hc he dX12_found_268
def J_X12_found_31 (v1 v3 v4 s0 : Int) (st : z_St) : Option (Int × z_St) :=
  z_b (J_X12_holds s0 st) fun r1 =>
  z_g (z32 r1.1) (if r1.1 = 0 then
    z_b (J_X12_laysTable r1.2) fun st4 =>
    z_let (z_up st4 168 36 0) fun st5 =>
    z_b (z_iter z_F (fun q9 : (Int × z_St) => J_X12_found_b53 v1 v3 v4 q9.1 q9.2) (1, st5)) fun lx10 =>
      z_b (z_iter z_F (fun q9 : (Int × Int × Int) => J_X12_found_b93 v4 q9.1 q9.2.1 q9.2.2 lx10) (1000000000000000000, (-1), 0)) fun lx18 =>
        z_g (z32 v4 ∧ z32 2) (if v4 = 2 then
          J_X12_found_268 (lx10 168 36) lx10
        else
          z_g (z32 v4) (if v4 = 0 then
            z_g (z32 lx18.2) <|
            J_X12_found_268 lx18.2 lx10
          else
            z_b (J_X12_told lx18.1 lx10) fun r19 =>
            J_X12_found_268 r19 lx10))
  else
    some ((-1), r1.2))
set_option maxRecDepth 100000 in
set_option maxHeartbeats 4000000 in
theorem w_X12_found_31 {κ : zK} {a : Nat → Nat} {v1 v3 v4 s0 : Int} {st : z_St} {o : Int × z_St} (hc : z_C κ RX12 cX12_found 13 12 0 0) (hap : z_AP κ a z_N) (he : z_E 1 κ (some .long) z_T z_N a o.1 o.2) (h : J_X12_found_31 v1 v3 v4 s0 st = some o) : z_V κ z_T z_N a 0 0 31 [(0, .ref (a 168)), (1, .long (zJ v1)), (3, .int (zI v3)), (4, .int (zI v4))] [.int (zI s0), .ref (a 168)] st := by
  unfold J_X12_found_31 at h
  obtain ⟨r1, hr1, h⟩ := z_b_some h
  refine z_callVI [.int (zI s0)] hc hap o_X12_holds ml_RX12_131 (fun l hl => c_X12_holds hl  hr1) (by decide) tT_168 (by decide) ⟨_, rfl, rfl⟩ rfl rfl (Nat.le_of_ble_eq_true rfl) (Nat.zero_le _) (Nat.zero_le _) dX12_found_31 ?_
  refine z_if_eq (tgt := 41) hc dX12_found_34 (by decide) h (fun c34 h => ?_) (fun c34 h => ?_)
  · refine z_aload_n (i := 0) 0 hc dX12_found_41 rfl rfl ?_
    obtain ⟨st4, hr3, h⟩ := z_b_some h
    refine z_callVV [] hc hap o_X12_laysTable ml_RX12_218 (fun l hl => c_X12_laysTable hl  hr3) (by decide) tT_168 (by decide) ⟨_, rfl, rfl⟩ rfl rfl (Nat.le_of_ble_eq_true rfl) (Nat.zero_le _) (Nat.zero_le _) dX12_found_42 ?_
    refine z_aload_n (i := 0) 0 hc dX12_found_45 rfl rfl ?_
    refine z_lconst 0 hc dX12_found_46 rfl ?_
    refine z_putJ (kI := 168) (jI := 36) hc hap fp_RX12_277 tT_168 (by decide) rfl rfl rfl dX12_found_47 h (fun st5 h => ?_)
    refine z_iconst hc dX12_found_50 ?_
    refine z_istore [(5, .int (zI 1)), (0, .ref (a 168)), (1, .long (zJ v1)), (3, .int (zI v3)), (4, .int (zI v4))] hc dX12_found_51 (by decide) rfl ?_
    obtain ⟨lx10, hlx10, h⟩ := z_b_some h
    refine z_sub [(0, .ref (a 168)), (1, .long (zJ v1)), (3, .int (zI v3)), (4, .int (zI v4)), (5, .int (zI 1))] [1, 2, 3, 4, 0] rfl ?_
    refine z_loop (fun q9 : (Int × z_St) => J_X12_found_b53 v1 v3 v4 q9.1 q9.2) (fun q9 : (Int × z_St) => z_V κ z_T z_N a 0 0 53 [(0, .ref (a 168)), (1, .long (zJ v1)), (3, .int (zI v3)), (4, .int (zI v4)), (5, .int (zI q9.1))] [] q9.2) (fun x9 : z_St => z_V κ z_T z_N a 0 0 82 [(0, .ref (a 168)), (4, .int (zI v4))] [] x9) (fun q9 o9 hb k1 k2 => ?_) _ _ _ hlx10 ?_
    · exact w_X12_found_b53 hc hap k1 k2 hb
    · show z_V κ z_T z_N a 0 0 82 [(0, .ref (a 168)), (4, .int (zI v4))] [] lx10
      refine z_ldc2 1000000000000000000 hc kc_RX12_205 dX12_found_82 rfl ?_
      refine z_lstore [(5, .long (zJ 1000000000000000000)), (0, .ref (a 168)), (4, .int (zI v4))] hc dX12_found_85 (by decide) rfl ?_
      refine z_iconst hc dX12_found_87 ?_
      refine z_istore [(7, .int (zI (-1))), (5, .long (zJ 1000000000000000000)), (0, .ref (a 168)), (4, .int (zI v4))] hc dX12_found_88 (by decide) rfl ?_
      refine z_iconst hc dX12_found_90 ?_
      refine z_istore [(8, .int (zI 0)), (7, .int (zI (-1))), (5, .long (zJ 1000000000000000000)), (0, .ref (a 168)), (4, .int (zI v4))] hc dX12_found_91 (by decide) rfl ?_
      obtain ⟨lx18, hlx18, h⟩ := z_b_some h
      refine z_sub [(0, .ref (a 168)), (4, .int (zI v4)), (5, .long (zJ 1000000000000000000)), (7, .int (zI (-1))), (8, .int (zI 0))] [3, 4, 2, 1, 0] rfl ?_
      refine z_loop (fun q9 : (Int × Int × Int) => J_X12_found_b93 v4 q9.1 q9.2.1 q9.2.2 lx10) (fun q9 : (Int × Int × Int) => z_V κ z_T z_N a 0 0 93 [(0, .ref (a 168)), (4, .int (zI v4)), (5, .long (zJ q9.1)), (7, .int (zI q9.2.1)), (8, .int (zI q9.2.2))] [] lx10) (fun x9 : (Int × Int) => z_V κ z_T z_N a 0 0 238 [(0, .ref (a 168)), (4, .int (zI v4)), (5, .long (zJ x9.1)), (7, .int (zI x9.2))] [] lx10) (fun q9 o9 hb k1 k2 => ?_) _ _ _ hlx18 ?_
      · exact w_X12_found_b93 hc hap k1 k2 hb
      · show z_V κ z_T z_N a 0 0 238 [(0, .ref (a 168)), (4, .int (zI v4)), (5, .long (zJ lx18.1)), (7, .int (zI lx18.2))] [] lx10
        refine z_iload 1 hc dX12_found_238 rfl ?_
        refine z_iconst hc dX12_found_240 ?_
        refine z_icmp_ne (tgt := 251) hc dX12_found_241 (by decide) h (fun c241 h => ?_) (fun c241 h => ?_)
        · refine z_aload_n (i := 0) 0 hc dX12_found_244 rfl rfl ?_
          refine z_getJ (kI := 168) (jI := 36) hc fl_RX12_277 tT_168 (by decide) rfl rfl rfl dX12_found_245 ?_
          refine z_goto (tgt := 268) hc dX12_found_248 (by decide) ?_
          refine z_sub [] [] rfl ?_
          exact w_X12_found_268 hc hap he h
        · refine z_iload 1 hc dX12_found_251 rfl ?_
          refine z_if_ne (tgt := 262) hc dX12_found_253 (by decide) h (fun c253 h => ?_) (fun c253 h => ?_)
          · refine z_iload 3 hc dX12_found_256 rfl ?_
            refine z_i2l hc dX12_found_258 h (fun h => ?_)
            refine z_goto (tgt := 268) hc dX12_found_259 (by decide) ?_
            refine z_sub [] [] rfl ?_
            exact w_X12_found_268 hc hap he h
          · refine z_aload_n (i := 0) 0 hc dX12_found_262 rfl rfl ?_
            refine z_lload 2 hc dX12_found_263 rfl ?_
            obtain ⟨r19, hr19, h⟩ := z_b_some h
            refine z_callVJ [.long (zJ lx18.1)] hc hap o_X12_told ml_RX12_224 (fun l hl => c_X12_told hl  hr19) (by decide) tT_168 (by decide) ⟨_, rfl, rfl⟩ rfl rfl (Nat.le_of_ble_eq_true rfl) (Nat.zero_le _) (Nat.zero_le _) dX12_found_265 ?_
            refine z_sub [] [] rfl ?_
            exact w_X12_found_268 hc hap he h
  · refine z_ldc2 (-1) hc kc_RX12_145 dX12_found_37 rfl ?_
    have h := Option.some.inj h
    subst h
    exact z_retJ hc he dX12_found_40
def J_X12_found_26 (v1 v3 v4 : Int) (st : z_St) : Option (Int × z_St) :=
  J_X12_found_31 v1 v3 v4 1 st
set_option maxRecDepth 100000 in
set_option maxHeartbeats 4000000 in
theorem w_X12_found_26 {κ : zK} {a : Nat → Nat} {v1 v3 v4 : Int} {st : z_St} {o : Int × z_St} (hc : z_C κ RX12 cX12_found 13 12 0 0) (hap : z_AP κ a z_N) (he : z_E 1 κ (some .long) z_T z_N a o.1 o.2) (h : J_X12_found_26 v1 v3 v4 st = some o) : z_V κ z_T z_N a 0 0 26 [(0, .ref (a 168)), (1, .long (zJ v1)), (3, .int (zI v3)), (4, .int (zI v4))] [.ref (a 168)] st := by
  unfold J_X12_found_26 at h
  refine z_iconst hc dX12_found_26 ?_
  refine z_goto (tgt := 31) hc dX12_found_27 (by decide) ?_
  refine z_sub [(0, .ref (a 168)), (1, .long (zJ v1)), (3, .int (zI v3)), (4, .int (zI v4))] [0, 1, 2, 3] rfl ?_
  exact w_X12_found_31 hc hap he h
def J_X12_found (x1 x3 x4 : Int) (st : z_St) : Option (Int × z_St) :=
  z_g (z64 x1 ∧ z64 0) (if x1 < 0 then
    J_X12_found_26 x1 x3 x4 st
  else
    z_g (z32 x3 ∧ z32 1) (if x3 < 1 then
      J_X12_found_26 x1 x3 x4 st
    else
      z_g (z32 x4) <|
      z_b (J_X12_in x4 0 2 st) fun r21 =>
      z_g (z32 r21) (if r21 = 0 then
        J_X12_found_26 x1 x3 x4 st
      else
        J_X12_found_31 x1 x3 x4 0 st)))
set_option maxRecDepth 100000 in
set_option maxHeartbeats 4000000 in
theorem w_X12_found {κ : zK} {a : Nat → Nat} {x1 x3 x4 : Int} {st : z_St} {o : Int × z_St} (hc : z_C κ RX12 cX12_found 13 12 0 0) (hap : z_AP κ a z_N) (he : z_E 1 κ (some .long) z_T z_N a o.1 o.2) (h : J_X12_found x1 x3 x4 st = some o) : z_V κ z_T z_N a 0 0 0 [(0, .ref (a 168)), (1, .long (zJ x1)), (3, .int (zI x3)), (4, .int (zI x4))] [] st := by
  unfold J_X12_found at h
  refine z_aload_n (i := 0) 0 hc dX12_found_0 rfl rfl ?_
  refine z_lload_n (i := 1) 1 hc dX12_found_1 rfl rfl ?_
  refine z_lconst 0 hc dX12_found_2 rfl ?_
  refine z_lcmp_lt (tgt := 26) hc dX12_found_3 dX12_found_4 (by decide) h (fun c3 h => ?_) (fun c3 h => ?_)
  · refine z_sub [(0, .ref (a 168)), (1, .long (zJ x1)), (3, .int (zI x3)), (4, .int (zI x4))] [0, 1, 2, 3] rfl ?_
    exact w_X12_found_26 hc hap he h
  · refine z_iload_n (i := 3) 2 hc dX12_found_7 rfl rfl ?_
    refine z_iconst hc dX12_found_8 ?_
    refine z_icmp_lt (tgt := 26) hc dX12_found_9 (by decide) h (fun c9 h => ?_) (fun c9 h => ?_)
    · refine z_sub [(0, .ref (a 168)), (1, .long (zJ x1)), (3, .int (zI x3)), (4, .int (zI x4))] [0, 1, 2, 3] rfl ?_
      exact w_X12_found_26 hc hap he h
    · refine z_aload_n (i := 0) 0 hc dX12_found_12 rfl rfl ?_
      refine z_iload 3 hc dX12_found_13 rfl ?_
      refine z_i2l hc dX12_found_15 h (fun h => ?_)
      refine z_lconst 0 hc dX12_found_16 rfl ?_
      refine z_ldc2 2 hc kc_RX12_139 dX12_found_17 rfl ?_
      obtain ⟨r21, hr21, h⟩ := z_b_some h
      refine z_callVI [.long (zJ x4), .long (zJ 0), .long (zJ 2)] hc hap o_X12_in ml_RX12_116 (fun l hl => c_X12_in hl  hr21) (by decide) tT_168 (by decide) ⟨_, rfl, rfl⟩ rfl rfl (Nat.le_of_ble_eq_true rfl) (Nat.zero_le _) (Nat.zero_le _) dX12_found_20 ?_
      refine z_if_ne (tgt := 30) hc dX12_found_23 (by decide) h (fun c23 h => ?_) (fun c23 h => ?_)
      · refine z_sub [(0, .ref (a 168)), (1, .long (zJ x1)), (3, .int (zI x3)), (4, .int (zI x4))] [0, 1, 2, 3] rfl ?_
        exact w_X12_found_26 hc hap he h
      · refine z_iconst hc dX12_found_30 ?_
        refine z_sub [(0, .ref (a 168)), (1, .long (zJ x1)), (3, .int (zI x3)), (4, .int (zI x4))] [0, 1, 2, 3] rfl ?_
        exact w_X12_found_31 hc hap he h
set_option maxRecDepth 100000 in
set_option maxHeartbeats 4000000 in
theorem c_X12_found {l : Launch} (hl : l.stackTraces = false) {a : Nat → Nat} {x1 x3 x4 : Int} {st : z_St} {o : Int × z_St} (h : J_X12_found x1 x3 x4 st = some o) : z_M 1 l yX12_found cX12_found 13 (some .long) 12 z_T z_N a [.ref (a 168), .long (zJ x1), .int (zI x3), .int (zI x4)] st o.1 o.2 := z_of hl (by decide +kernel) (Nat.le_of_ble_eq_true rfl) (fun κ hc hap he => w_X12_found hc hap he h)
