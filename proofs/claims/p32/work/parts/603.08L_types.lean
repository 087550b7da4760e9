theorem dL_types_0 : decode cL_types 0 = .ok (.iconst 1, 1) := by decide +kernel
theorem dL_types_1 : decode cL_types 1 = .ok (.iload_n 1, 1) := by decide +kernel
theorem dL_types_2 : decode cL_types 2 = .ok (.iconst 2, 1) := by decide +kernel
theorem dL_types_3 : decode cL_types 3 = .ok (.invokestatic 129, 3) := by decide +kernel
theorem dL_types_6 : decode cL_types 6 = .ok (.iadd, 1) := by decide +kernel
theorem dL_types_7 : decode cL_types 7 = .ok (.istore_n 3, 1) := by decide +kernel
theorem dL_types_8 : decode cL_types 8 = .ok (.iconst 1, 1) := by decide +kernel
theorem dL_types_9 : decode cL_types 9 = .ok (.istore 4, 2) := by decide +kernel
theorem dL_types_11 : decode cL_types 11 = .ok (.iconst 0, 1) := by decide +kernel
theorem dL_types_12 : decode cL_types 12 = .ok (.istore 5, 2) := by decide +kernel
theorem dL_types_14 : decode cL_types 14 = .ok (.iload 5, 2) := by decide +kernel
theorem dL_types_16 : decode cL_types 16 = .ok (.iload_n 3, 1) := by decide +kernel
theorem dL_types_17 : decode cL_types 17 = .ok (.if_icmp .ge 50, 3) := by decide +kernel
theorem dL_types_20 : decode cL_types 20 = .ok (.iload 4, 2) := by decide +kernel
theorem dL_types_22 : decode cL_types 22 = .ok (.aload_n 0, 1) := by decide +kernel
theorem dL_types_23 : decode cL_types 23 = .ok (.iconst 5, 1) := by decide +kernel
theorem dL_types_24 : decode cL_types 24 = .ok (.bipush 97, 2) := by decide +kernel
theorem dL_types_26 : decode cL_types 26 = .ok (.iload_n 1, 1) := by decide +kernel
theorem dL_types_27 : decode cL_types 27 = .ok (.iconst 2, 1) := by decide +kernel
theorem dL_types_28 : decode cL_types 28 = .ok (.iconst 3, 1) := by decide +kernel
theorem dL_types_29 : decode cL_types 29 = .ok (.iload 5, 2) := by decide +kernel
theorem dL_types_31 : decode cL_types 31 = .ok (.imul, 1) := by decide +kernel
theorem dL_types_32 : decode cL_types 32 = .ok (.iadd, 1) := by decide +kernel
theorem dL_types_33 : decode cL_types 33 = .ok (.ishr, 1) := by decide +kernel
theorem dL_types_34 : decode cL_types 34 = .ok (.iload_n 2, 1) := by decide +kernel
theorem dL_types_35 : decode cL_types 35 = .ok (.invokestatic 129, 3) := by decide +kernel
theorem dL_types_38 : decode cL_types 38 = .ok (.iadd, 1) := by decide +kernel
theorem dL_types_39 : decode cL_types 39 = .ok (.i2l, 1) := by decide +kernel
theorem dL_types_40 : decode cL_types 40 = .ok (.iconst 0, 1) := by decide +kernel
theorem dL_types_41 : decode cL_types 41 = .ok (.invokestatic 125, 3) := by decide +kernel
theorem dL_types_44 : decode cL_types 44 = .ok (.iload 5, 2) := by decide +kernel
theorem dL_types_46 : decode cL_types 46 = .ok (.i2l, 1) := by decide +kernel
theorem dL_types_47 : decode cL_types 47 = .ok (.lconst 1, 1) := by decide +kernel
theorem dL_types_48 : decode cL_types 48 = .ok (.ladd, 1) := by decide +kernel
theorem dL_types_49 : decode cL_types 49 = .ok (.lcmp, 1) := by decide +kernel
theorem dL_types_50 : decode cL_types 50 = .ok (.ifCond .ne 7, 3) := by decide +kernel
theorem dL_types_53 : decode cL_types 53 = .ok (.iconst 1, 1) := by decide +kernel
theorem dL_types_54 : decode cL_types 54 = .ok (.goto 4, 3) := by decide +kernel
theorem dL_types_57 : decode cL_types 57 = .ok (.iconst 0, 1) := by decide +kernel
theorem dL_types_58 : decode cL_types 58 = .ok (.iand, 1) := by decide +kernel
theorem dL_types_59 : decode cL_types 59 = .ok (.istore 4, 2) := by decide +kernel
theorem dL_types_61 : decode cL_types 61 = .ok (.iinc 5 1, 3) := by decide +kernel
theorem dL_types_64 : decode cL_types 64 = .ok (.goto (-50), 3) := by decide +kernel
theorem dL_types_67 : decode cL_types 67 = .ok (.iload 4, 2) := by decide +kernel
theorem dL_types_69 : decode cL_types 69 = .ok (.ireturn, 1) := by decide +kernel
noncomputable def J_L_types_58 (v1 v2 v3 v5 s0 s1 : Int) (st : z_St) : Option ((Int × Int × z_St) ⊕ (Int × z_St)) :=
  some (.inl (z_iand s1 s0, v5 + 1, st))
set_option maxRecDepth 100000 in
set_option maxHeartbeats 4000000 in
theorem w_L_types_58 {κ : zK} {a : Nat → Nat} {v1 v2 v3 v5 s0 s1 : Int} {st : z_St} {o : (Int × Int × z_St) ⊕ (Int × z_St)} (hc : z_C κ RL cL_types 6 28 5 (6 * 5)) (hap : z_AP κ a z_N) (k1 : ∀ s9 : (Int × Int × z_St), o = .inl s9 → z_V κ z_T z_N a (0 + 1 * (s9.2.1 : Int).toNat) (6 * (0 + 1 * (s9.2.1 : Int).toNat)) 14 [(0, .ref (a 0)), (1, .int (zI v1)), (2, .int (zI v2)), (3, .int (zI v3)), (4, .int (zI s9.1)), (5, .int (zI s9.2.1))] [] s9.2.2) (k2 : ∀ x9 : (Int × z_St), o = .inr x9 → z_V κ z_T z_N a 5 (6 * 5) 67 [(4, .int (zI x9.1))] [] x9.2) (hv9 : 0 ≤ v5 ∧ v5 ≤ 4) (h : J_L_types_58 v1 v2 v3 v5 s0 s1 st = some o) : z_V κ z_T z_N a ((0 + 1 * (v5 : Int).toNat) + 1) (6 * ((0 + 1 * (v5 : Int).toNat) + 1)) 58 [(0, .ref (a 0)), (1, .int (zI v1)), (2, .int (zI v2)), (3, .int (zI v3)), (5, .int (zI v5))] [.int (zI s0), .int (zI s1)] st := by
  unfold J_L_types_58 at h
  refine z_iand_r hc dL_types_58 ?_
  refine z_istore [(4, .int (zI (z_iand s1 s0))), (0, .ref (a 0)), (1, .int (zI v1)), (2, .int (zI v2)), (3, .int (zI v3)), (5, .int (zI v5))] hc dL_types_59 (by decide) rfl ?_
  refine z_iinc [(5, .int (zI (v5 + 1))), (4, .int (zI (z_iand s1 s0))), (0, .ref (a 0)), (1, .int (zI v1)), (2, .int (zI v2)), (3, .int (zI v3))] 5 hc dL_types_61 rfl (by decide) rfl ?_
  refine z_goto (tgt := 14) hc dL_types_64 (by decide) ?_
  refine z_sub [(0, .ref (a 0)), (1, .int (zI v1)), (2, .int (zI v2)), (3, .int (zI v3)), (4, .int (zI (z_iand s1 s0))), (5, .int (zI (v5 + 1)))] [2, 3, 4, 5, 1, 0] rfl ?_
  refine z_wide (cells' := (0 + 1 * (v5 + 1 : Int).toNat)) (slots' := 6 * (0 + 1 * (v5 + 1 : Int).toNat)) (by omega) (by omega) ?_
  exact k1 _ (Option.some.inj h).symm
noncomputable def J_L_types_b14 (v1 v2 v3 v4 v5 : Int) (st : z_St) : Option ((Int × Int × z_St) ⊕ (Int × z_St)) :=
  z_g (0 ≤ v5 ∧ v5 ≤ 4) <|
  z_g (z32 v5 ∧ z32 v3) (if v5 < v3 then
    z_b (J_L_low (z_ishr v1 (2 + (3 * v5))) v2 st) fun r2 =>
    z_g (z32 (97 + r2)) <|
    z_b (J_L_ask 5 (97 + r2) 0 st) fun r3 =>
    z_g (z32 v5) <|
    z_g (z64 r3.1 ∧ z64 (v5 + 1)) (if r3.1 = v5 + 1 then
      J_L_types_58 v1 v2 v3 v5 1 v4 r3.2
    else
      J_L_types_58 v1 v2 v3 v5 0 v4 r3.2)
  else
    some (.inr (v4, st)))
set_option maxRecDepth 100000 in
set_option maxHeartbeats 4000000 in
theorem w_L_types_b14 {κ : zK} {a : Nat → Nat} {v1 v2 v3 v4 v5 : Int} {st : z_St} {o : (Int × Int × z_St) ⊕ (Int × z_St)} (hc : z_C κ RL cL_types 6 28 5 (6 * 5)) (hap : z_AP κ a z_N) (k1 : ∀ s9 : (Int × Int × z_St), o = .inl s9 → z_V κ z_T z_N a (0 + 1 * (s9.2.1 : Int).toNat) (6 * (0 + 1 * (s9.2.1 : Int).toNat)) 14 [(0, .ref (a 0)), (1, .int (zI v1)), (2, .int (zI v2)), (3, .int (zI v3)), (4, .int (zI s9.1)), (5, .int (zI s9.2.1))] [] s9.2.2) (k2 : ∀ x9 : (Int × z_St), o = .inr x9 → z_V κ z_T z_N a 5 (6 * 5) 67 [(4, .int (zI x9.1))] [] x9.2) (h : J_L_types_b14 v1 v2 v3 v4 v5 st = some o) : z_V κ z_T z_N a (0 + 1 * (v5 : Int).toNat) (6 * (0 + 1 * (v5 : Int).toNat)) 14 [(0, .ref (a 0)), (1, .int (zI v1)), (2, .int (zI v2)), (3, .int (zI v3)), (4, .int (zI v4)), (5, .int (zI v5))] [] st := by
  unfold J_L_types_b14 at h
  obtain ⟨hv9, h⟩ := z_g_some h
  refine z_iload 5 hc dL_types_14 rfl ?_
  refine z_iload_n (i := 3) 3 hc dL_types_16 rfl rfl ?_
  refine z_icmp_ge (tgt := 67) hc dL_types_17 (by decide) h (fun c17 h => ?_) (fun c17 h => ?_)
  · refine z_iload 4 hc dL_types_20 rfl ?_
    refine z_aload_n (i := 0) 0 hc dL_types_22 rfl rfl ?_
    refine z_iconst hc dL_types_23 ?_
    refine z_bipush hc dL_types_24 rfl ?_
    refine z_iload_n (i := 1) 1 hc dL_types_26 rfl rfl ?_
    refine z_iconst hc dL_types_27 ?_
    refine z_iconst hc dL_types_28 ?_
    refine z_iload 5 hc dL_types_29 rfl ?_
    refine z_imul hc dL_types_31 ?_
    refine z_iadd hc dL_types_32 ?_
    refine z_ishr_r hc dL_types_33 ?_
    refine z_iload_n (i := 2) 2 hc dL_types_34 rfl rfl ?_
    obtain ⟨r2, hr2, h⟩ := z_b_some h
    refine z_callSI [.int (zI (z_ishr v1 (2 + (3 * v5)))), .int (zI v2)] hc hap o_L_low ml_RL_129 (fun l hl => c_L_low hl hr2) (by decide) rfl rfl (Nat.le_of_ble_eq_true rfl) (by omega) (by omega) dL_types_35 ?_
    refine z_iadd hc dL_types_38 ?_
    refine z_i2l hc dL_types_39 h (fun h => ?_)
    refine z_iconst hc dL_types_40 ?_
    obtain ⟨r3, hr3, h⟩ := z_b_some h
    refine z_callUJ ((0 + 1 * (v5 : Int).toNat) + 1) (6 * ((0 + 1 * (v5 : Int).toNat) + 1)) (mu := 1) [.ref (a 0), .int (zI 5), .long (zJ (97 + r2)), .int (zI 0)] hc hap o_L_ask ml_RL_125 (fun l hl => c_L_ask hl hr3) (by decide) rfl rfl (Nat.le_of_ble_eq_true rfl) (by omega) (by omega) (by omega) (by omega) dL_types_41 ?_
    refine z_iload 5 hc dL_types_44 rfl ?_
    refine z_i2l hc dL_types_46 h (fun h => ?_)
    refine z_lconst 1 hc dL_types_47 rfl ?_
    refine z_ladd hc dL_types_48 ?_
    refine z_lcmp_ne (tgt := 57) hc dL_types_49 dL_types_50 (by decide) h (fun c49 h => ?_) (fun c49 h => ?_)
    · refine z_iconst hc dL_types_53 ?_
      refine z_goto (tgt := 58) hc dL_types_54 (by decide) ?_
      refine z_sub [(0, .ref (a 0)), (1, .int (zI v1)), (2, .int (zI v2)), (3, .int (zI v3)), (5, .int (zI v5))] [0, 1, 2, 3, 5] rfl ?_
      exact w_L_types_58 hc hap k1 k2 hv9 h
    · refine z_iconst hc dL_types_57 ?_
      refine z_sub [(0, .ref (a 0)), (1, .int (zI v1)), (2, .int (zI v2)), (3, .int (zI v3)), (5, .int (zI v5))] [0, 1, 2, 3, 5] rfl ?_
      exact w_L_types_58 hc hap k1 k2 hv9 h
  · refine z_sub [(4, .int (zI v4))] [4] rfl ?_
    refine z_wide (cells' := 5) (slots' := 6 * 5) (by omega) (by omega) ?_
    exact k2 (v4, st) (Option.some.inj h).symm
noncomputable def J_L_types (x1 x2 : Int) (st : z_St) : Option (Int × z_St) :=
  z_b (J_L_low x1 2 st) fun r1 =>
  z_b (z_iter z_F (fun q9 : (Int × Int × z_St) => J_L_types_b14 x1 x2 (1 + r1) q9.1 q9.2.1 q9.2.2) (1, 0, st)) fun lx4 =>
    z_g (lx4.1 = 0 ∨ lx4.1 = 1) <|
    some (lx4.1, lx4.2)
set_option maxRecDepth 100000 in
set_option maxHeartbeats 4000000 in
theorem w_L_types {κ : zK} {a : Nat → Nat} {x1 x2 : Int} {st : z_St} {o : Int × z_St} (hc : z_C κ RL cL_types 6 28 5 (6 * 5)) (hap : z_AP κ a z_N) (he : z_EU 0 5 κ (some .boolean) z_T z_N a o.1 o.2) (h : J_L_types x1 x2 st = some o) : z_V κ z_T z_N a 0 (6 * 0) 0 [(0, .ref (a 0)), (1, .int (zI x1)), (2, .int (zI x2))] [] st := by
  unfold J_L_types at h
  refine z_iconst hc dL_types_0 ?_
  refine z_iload_n (i := 1) 1 hc dL_types_1 rfl rfl ?_
  refine z_iconst hc dL_types_2 ?_
  obtain ⟨r1, hr1, h⟩ := z_b_some h
  refine z_callSI [.int (zI x1), .int (zI 2)] hc hap o_L_low ml_RL_129 (fun l hl => c_L_low hl hr1) (by decide) rfl rfl (Nat.le_of_ble_eq_true rfl) (by omega) (by omega) dL_types_3 ?_
  refine z_iadd hc dL_types_6 ?_
  refine z_istore_n (i := 3) [(3, .int (zI (1 + r1))), (0, .ref (a 0)), (1, .int (zI x1)), (2, .int (zI x2))] hc dL_types_7 rfl (by decide) rfl ?_
  refine z_iconst hc dL_types_8 ?_
  refine z_istore [(4, .int (zI 1)), (3, .int (zI (1 + r1))), (0, .ref (a 0)), (1, .int (zI x1)), (2, .int (zI x2))] hc dL_types_9 (by decide) rfl ?_
  refine z_iconst hc dL_types_11 ?_
  refine z_istore [(5, .int (zI 0)), (4, .int (zI 1)), (3, .int (zI (1 + r1))), (0, .ref (a 0)), (1, .int (zI x1)), (2, .int (zI x2))] hc dL_types_12 (by decide) rfl ?_
  obtain ⟨lx4, hlx4, h⟩ := z_b_some h
  refine z_sub [(0, .ref (a 0)), (1, .int (zI x1)), (2, .int (zI x2)), (3, .int (zI (1 + r1))), (4, .int (zI 1)), (5, .int (zI 0))] [3, 4, 5, 2, 1, 0] rfl ?_
  refine z_wide (cells' := (0 + 1 * (0 : Int).toNat)) (slots' := 6 * (0 + 1 * (0 : Int).toNat)) (by omega) (by omega) ?_
  refine z_loop (fun q9 : (Int × Int × z_St) => J_L_types_b14 x1 x2 (1 + r1) q9.1 q9.2.1 q9.2.2) (fun q9 : (Int × Int × z_St) => z_V κ z_T z_N a (0 + 1 * (q9.2.1 : Int).toNat) (6 * (0 + 1 * (q9.2.1 : Int).toNat)) 14 [(0, .ref (a 0)), (1, .int (zI x1)), (2, .int (zI x2)), (3, .int (zI (1 + r1))), (4, .int (zI q9.1)), (5, .int (zI q9.2.1))] [] q9.2.2) (fun x9 : (Int × z_St) => z_V κ z_T z_N a 5 (6 * 5) 67 [(4, .int (zI x9.1))] [] x9.2) (fun q9 o9 hb k1 k2 => ?_) _ _ _ hlx4 ?_
  · exact w_L_types_b14 hc hap k1 k2 hb
  · show z_V κ z_T z_N a 5 (6 * 5) 67 [(4, .int (zI lx4.1))] [] lx4.2
    refine z_iload 0 hc dL_types_67 rfl ?_
    obtain ⟨hz, h⟩ := z_g_some h
    have h := Option.some.inj h
    subst h
    exact z_retUZ hc he hz dL_types_69
set_option maxRecDepth 100000 in
set_option maxHeartbeats 4000000 in
theorem c_L_types {l : Launch} (hl : l.stackTraces = false) {a : Nat → Nat} {x1 x2 : Int} {st : z_St} {o : Int × z_St} (h : J_L_types x1 x2 st = some o) : z_MU 0 5 l yL_types (z_w yL_types cL_types 6 (some .boolean)) 28 z_T z_N a [.ref (a 0), .int (zI x1), .int (zI x2)] st o.1 o.2 := z_ofU hl (by decide +kernel) (Nat.le_of_ble_eq_true rfl) (fun κ hc hap he => w_L_types hc hap he h)
