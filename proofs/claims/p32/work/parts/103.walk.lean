theorem dX10_firstCut_0 : decode cX10_firstCut 0 = .ok (.iload 4, 2) := by decide +kernel
theorem dX10_firstCut_2 : decode cX10_firstCut 2 = .ok (.iconst 1, 1) := by decide +kernel
theorem dX10_firstCut_3 : decode cX10_firstCut 3 = .ok (.iadd, 1) := by decide +kernel
theorem dX10_firstCut_4 : decode cX10_firstCut 4 = .ok (.istore 6, 2) := by decide +kernel
theorem dX10_firstCut_6 : decode cX10_firstCut 6 = .ok (.iload 6, 2) := by decide +kernel
theorem dX10_firstCut_8 : decode cX10_firstCut 8 = .ok (.iload 5, 2) := by decide +kernel
theorem dX10_firstCut_10 : decode cX10_firstCut 10 = .ok (.if_icmp .ge 60, 3) := by decide +kernel
theorem dX10_firstCut_13 : decode cX10_firstCut 13 = .ok (.aload_n 2, 1) := by decide +kernel
theorem dX10_firstCut_14 : decode cX10_firstCut 14 = .ok (.aload_n 1, 1) := by decide +kernel
theorem dX10_firstCut_15 : decode cX10_firstCut 15 = .ok (.iload_n 3, 1) := by decide +kernel
theorem dX10_firstCut_16 : decode cX10_firstCut 16 = .ok (.invokevirtual 41, 3) := by decide +kernel
theorem dX10_firstCut_19 : decode cX10_firstCut 19 = .ok (.iload 4, 2) := by decide +kernel
theorem dX10_firstCut_21 : decode cX10_firstCut 21 = .ok (.iload 6, 2) := by decide +kernel
theorem dX10_firstCut_23 : decode cX10_firstCut 23 = .ok (.invokevirtual 57, 3) := by decide +kernel
theorem dX10_firstCut_26 : decode cX10_firstCut 26 = .ok (.aload_n 0, 1) := by decide +kernel
theorem dX10_firstCut_27 : decode cX10_firstCut 27 = .ok (.getfield 16, 3) := by decide +kernel
theorem dX10_firstCut_30 : decode cX10_firstCut 30 = .ok (.iload_n 3, 1) := by decide +kernel
theorem dX10_firstCut_31 : decode cX10_firstCut 31 = .ok (.iconst 1, 1) := by decide +kernel
theorem dX10_firstCut_32 : decode cX10_firstCut 32 = .ok (.iadd, 1) := by decide +kernel
theorem dX10_firstCut_33 : decode cX10_firstCut 33 = .ok (.bipush 17, 2) := by decide +kernel
theorem dX10_firstCut_35 : decode cX10_firstCut 35 = .ok (.imul, 1) := by decide +kernel
theorem dX10_firstCut_36 : decode cX10_firstCut 36 = .ok (.iload 6, 2) := by decide +kernel
theorem dX10_firstCut_38 : decode cX10_firstCut 38 = .ok (.iadd, 1) := by decide +kernel
theorem dX10_firstCut_39 : decode cX10_firstCut 39 = .ok (.laload, 1) := by decide +kernel
theorem dX10_firstCut_40 : decode cX10_firstCut 40 = .ok (.ladd, 1) := by decide +kernel
theorem dX10_firstCut_41 : decode cX10_firstCut 41 = .ok (.lstore 7, 2) := by decide +kernel
theorem dX10_firstCut_43 : decode cX10_firstCut 43 = .ok (.lload 7, 2) := by decide +kernel
theorem dX10_firstCut_45 : decode cX10_firstCut 45 = .ok (.aload_n 0, 1) := by decide +kernel
theorem dX10_firstCut_46 : decode cX10_firstCut 46 = .ok (.getfield 16, 3) := by decide +kernel
theorem dX10_firstCut_49 : decode cX10_firstCut 49 = .ok (.iload_n 3, 1) := by decide +kernel
theorem dX10_firstCut_50 : decode cX10_firstCut 50 = .ok (.bipush 17, 2) := by decide +kernel
theorem dX10_firstCut_52 : decode cX10_firstCut 52 = .ok (.imul, 1) := by decide +kernel
theorem dX10_firstCut_53 : decode cX10_firstCut 53 = .ok (.iload 4, 2) := by decide +kernel
theorem dX10_firstCut_55 : decode cX10_firstCut 55 = .ok (.iadd, 1) := by decide +kernel
theorem dX10_firstCut_56 : decode cX10_firstCut 56 = .ok (.laload, 1) := by decide +kernel
theorem dX10_firstCut_57 : decode cX10_firstCut 57 = .ok (.lcmp, 1) := by decide +kernel
theorem dX10_firstCut_58 : decode cX10_firstCut 58 = .ok (.ifCond .ne 6, 3) := by decide +kernel
theorem dX10_firstCut_61 : decode cX10_firstCut 61 = .ok (.iload 6, 2) := by decide +kernel
theorem dX10_firstCut_63 : decode cX10_firstCut 63 = .ok (.ireturn, 1) := by decide +kernel
theorem dX10_firstCut_64 : decode cX10_firstCut 64 = .ok (.iinc 6 1, 3) := by decide +kernel
theorem dX10_firstCut_67 : decode cX10_firstCut 67 = .ok (.goto (-61), 3) := by decide +kernel
theorem dX10_firstCut_70 : decode cX10_firstCut 70 = .ok (.iload 5, 2) := by decide +kernel
theorem dX10_firstCut_72 : decode cX10_firstCut 72 = .ok (.ireturn, 1) := by decide +kernel
def J_X10_firstCut_b6 (v1 v3 v4 v5 v6 : Int) (st : z_St) : Option (Int ⊕ (Unit ⊕ Int)) :=
  z_g (z32 v6 ∧ z32 v5) (if v6 < v5 then
    z_b (J_X6_wordAt v1 v3 st) fun r1 =>
    z_b (J_X0_span r1 v4 v6 st) fun r3 =>
    z_g (0 ≤ ((v3 + 1) * 17) + v6 ∧ ((v3 + 1) * 17) + v6 < 85) <|
    z_g (0 ≤ (v3 * 17) + v4 ∧ (v3 * 17) + v4 < 85) <|
    z_g (z64 (r3 + (st 156 (((v3 + 1) * 17) + v6))) ∧ z64 (st 156 ((v3 * 17) + v4))) (if r3 + (st 156 (((v3 + 1) * 17) + v6)) = st 156 ((v3 * 17) + v4) then
      some (.inr (.inr v6))
    else
      some (.inl (v6 + 1)))
  else
    some (.inr (.inl ())))
set_option maxRecDepth 100000 in
set_option maxHeartbeats 4000000 in
theorem w_X10_firstCut_b6 {κ : zK} {a : Nat → Nat} {v1 v3 v4 v5 v6 : Int} {st : z_St} {mc9 ms9 : Nat} {o : Int ⊕ (Unit ⊕ Int)} (hc : z_C κ RX10 cX10_firstCut 9 9 mc9 ms9) (hap : z_AP κ a z_N) (hv1 : z_isRW v1) (k1 : ∀ s9 : Int, o = .inl s9 → z_V κ z_T z_N a 0 0 6 [(0, .ref (a 148)), (1, .ref (a v1.toNat)), (2, .ref (a 99)), (3, .int (zI v3)), (4, .int (zI v4)), (5, .int (zI v5)), (6, .int (zI s9))] [] st) (k2 : ∀ x9 : (Unit ⊕ Int), o = .inr x9 → (match x9 with | .inl y9 => z_V κ z_T z_N a 0 0 70 [(5, .int (zI v5))] [] st | .inr y9 => z_V κ z_T z_N a 0 0 61 [(6, .int (zI y9))] [] st)) (h : J_X10_firstCut_b6 v1 v3 v4 v5 v6 st = some o) : z_V κ z_T z_N a 0 0 6 [(0, .ref (a 148)), (1, .ref (a v1.toNat)), (2, .ref (a 99)), (3, .int (zI v3)), (4, .int (zI v4)), (5, .int (zI v5)), (6, .int (zI v6))] [] st := by
  unfold J_X10_firstCut_b6 at h
  refine z_iload 6 hc dX10_firstCut_6 rfl ?_
  refine z_iload 5 hc dX10_firstCut_8 rfl ?_
  refine z_icmp_ge (tgt := 70) hc dX10_firstCut_10 (by decide) h (fun c10 h => ?_) (fun c10 h => ?_)
  · refine z_aload_n (i := 2) 2 hc dX10_firstCut_13 rfl rfl ?_
    refine z_aload_n (i := 1) 1 hc dX10_firstCut_14 rfl rfl ?_
    refine z_iload_n (i := 3) 3 hc dX10_firstCut_15 rfl rfl ?_
    obtain ⟨r1, hr1, h⟩ := z_b_some h
    refine z_callVI [.int (zI v3)] hc hap o_X6_wordAt ml_RX10_41 (fun l hl => c_X6_wordAt hl hv1 hr1) (by decide) (z_RW_T hv1) (z_RW_lt hv1) ⟨_, rfl, rfl⟩ rfl rfl (Nat.le_of_ble_eq_true rfl) (Nat.zero_le _) (Nat.zero_le _) dX10_firstCut_16 ?_
    refine z_iload 4 hc dX10_firstCut_19 rfl ?_
    refine z_iload 6 hc dX10_firstCut_21 rfl ?_
    obtain ⟨r3, hr3, h⟩ := z_b_some h
    refine z_callVJ [.int (zI r1), .int (zI v4), .int (zI v6)] hc hap o_X0_span ml_RX10_57 (fun l hl => c_X0_span hl  hr3) (by decide) tT_99 (by decide) ⟨_, rfl, rfl⟩ rfl rfl (Nat.le_of_ble_eq_true rfl) (Nat.zero_le _) (Nat.zero_le _) dX10_firstCut_23 ?_
    refine z_aload_n (i := 0) 0 hc dX10_firstCut_26 rfl rfl ?_
    refine z_getA (k' := 156) hc fl_RX10_16 tT_148 (by decide) rfl rfl dX10_firstCut_27 ?_
    refine z_iload_n (i := 3) 3 hc dX10_firstCut_30 rfl rfl ?_
    refine z_iconst hc dX10_firstCut_31 ?_
    refine z_iadd hc dX10_firstCut_32 ?_
    refine z_bipush hc dX10_firstCut_33 rfl ?_
    refine z_imul hc dX10_firstCut_35 ?_
    refine z_iload 6 hc dX10_firstCut_36 rfl ?_
    refine z_iadd hc dX10_firstCut_38 ?_
    refine z_lald (kI := 156) (nI9 := 85) hc tT_156 (by decide) rfl rfl (by decide) dX10_firstCut_39 h (fun g5 h => ?_)
    refine z_ladd hc dX10_firstCut_40 ?_
    refine z_lstore [(7, .long (zJ (r3 + (st 156 (((v3 + 1) * 17) + v6))))), (0, .ref (a 148)), (1, .ref (a v1.toNat)), (2, .ref (a 99)), (3, .int (zI v3)), (4, .int (zI v4)), (5, .int (zI v5)), (6, .int (zI v6))] hc dX10_firstCut_41 (by decide) rfl ?_
    refine z_lload 0 hc dX10_firstCut_43 rfl ?_
    refine z_aload_n (i := 0) 1 hc dX10_firstCut_45 rfl rfl ?_
    refine z_getA (k' := 156) hc fl_RX10_16 tT_148 (by decide) rfl rfl dX10_firstCut_46 ?_
    refine z_iload_n (i := 3) 4 hc dX10_firstCut_49 rfl rfl ?_
    refine z_bipush hc dX10_firstCut_50 rfl ?_
    refine z_imul hc dX10_firstCut_52 ?_
    refine z_iload 5 hc dX10_firstCut_53 rfl ?_
    refine z_iadd hc dX10_firstCut_55 ?_
    refine z_lald (kI := 156) (nI9 := 85) hc tT_156 (by decide) rfl rfl (by decide) dX10_firstCut_56 h (fun g6 h => ?_)
    refine z_lcmp_ne (tgt := 64) hc dX10_firstCut_57 dX10_firstCut_58 (by decide) h (fun c57 h => ?_) (fun c57 h => ?_)
    · refine z_sub [(6, .int (zI v6))] [7] rfl ?_
      exact k2 (.inr v6) (Option.some.inj h).symm
    · refine z_iinc [(6, .int (zI (v6 + 1))), (7, .long (zJ (r3 + (st 156 (((v3 + 1) * 17) + v6))))), (0, .ref (a 148)), (1, .ref (a v1.toNat)), (2, .ref (a 99)), (3, .int (zI v3)), (4, .int (zI v4)), (5, .int (zI v5))] 7 hc dX10_firstCut_64 rfl (by decide) rfl ?_
      refine z_goto (tgt := 6) hc dX10_firstCut_67 (by decide) ?_
      refine z_sub [(0, .ref (a 148)), (1, .ref (a v1.toNat)), (2, .ref (a 99)), (3, .int (zI v3)), (4, .int (zI v4)), (5, .int (zI v5)), (6, .int (zI (v6 + 1)))] [2, 3, 4, 5, 6, 7, 0] rfl ?_
      exact k1 _ (Option.some.inj h).symm
  · refine z_sub [(5, .int (zI v5))] [5] rfl ?_
    exact k2 (.inl ()) (Option.some.inj h).symm
def J_X10_firstCut (x1 x3 x4 x5 : Int) (st : z_St) : Option (Int) :=
  z_b (z_iter z_F (fun q9 : Int => J_X10_firstCut_b6 x1 x3 x4 x5 q9 st) (x4 + 1)) fun lx7 => match lx7 with
  | .inl y8 =>
    some x5
  | .inr y9 =>
    some y9
set_option maxRecDepth 100000 in
set_option maxHeartbeats 4000000 in
theorem w_X10_firstCut {κ : zK} {a : Nat → Nat} {x1 x3 x4 x5 : Int} {st : z_St} {o : Int} (hc : z_C κ RX10 cX10_firstCut 9 9 0 0) (hap : z_AP κ a z_N) (hx1 : z_isRW x1) (he : z_E 0 κ (some .int) z_T z_N a o st) (h : J_X10_firstCut x1 x3 x4 x5 st = some o) : z_V κ z_T z_N a 0 0 0 [(0, .ref (a 148)), (1, .ref (a x1.toNat)), (2, .ref (a 99)), (3, .int (zI x3)), (4, .int (zI x4)), (5, .int (zI x5))] [] st := by
  unfold J_X10_firstCut at h
  refine z_iload 4 hc dX10_firstCut_0 rfl ?_
  refine z_iconst hc dX10_firstCut_2 ?_
  refine z_iadd hc dX10_firstCut_3 ?_
  refine z_istore [(6, .int (zI (x4 + 1))), (0, .ref (a 148)), (1, .ref (a x1.toNat)), (2, .ref (a 99)), (3, .int (zI x3)), (4, .int (zI x4)), (5, .int (zI x5))] hc dX10_firstCut_4 (by decide) rfl ?_
  obtain ⟨lx7, hlx7, h⟩ := z_b_some h
  refine z_sub [(0, .ref (a 148)), (1, .ref (a x1.toNat)), (2, .ref (a 99)), (3, .int (zI x3)), (4, .int (zI x4)), (5, .int (zI x5)), (6, .int (zI (x4 + 1)))] [1, 2, 3, 4, 5, 6, 0] rfl ?_
  refine z_loop (fun q9 : Int => J_X10_firstCut_b6 x1 x3 x4 x5 q9 st) (fun q9 : Int => z_V κ z_T z_N a 0 0 6 [(0, .ref (a 148)), (1, .ref (a x1.toNat)), (2, .ref (a 99)), (3, .int (zI x3)), (4, .int (zI x4)), (5, .int (zI x5)), (6, .int (zI q9))] [] st) (fun x9 : (Unit ⊕ Int) => (match x9 with | .inl y9 => z_V κ z_T z_N a 0 0 70 [(5, .int (zI x5))] [] st | .inr y9 => z_V κ z_T z_N a 0 0 61 [(6, .int (zI y9))] [] st)) (fun q9 o9 hb k1 k2 => ?_) _ _ _ hlx7 ?_
  · exact w_X10_firstCut_b6 hc hap hx1 k1 k2 hb
  · rcases lx7 with y8 | y9
    · show z_V κ z_T z_N a 0 0 70 [(5, .int (zI x5))] [] st
      dsimp only at h
      refine z_iload 0 hc dX10_firstCut_70 rfl ?_
      have h := Option.some.inj h
      subst h
      exact z_retI hc he dX10_firstCut_72
    · show z_V κ z_T z_N a 0 0 61 [(6, .int (zI y9))] [] st
      dsimp only at h
      refine z_iload 0 hc dX10_firstCut_61 rfl ?_
      have h := Option.some.inj h
      subst h
      exact z_retI hc he dX10_firstCut_63
set_option maxRecDepth 100000 in
set_option maxHeartbeats 4000000 in
theorem c_X10_firstCut {l : Launch} (hl : l.stackTraces = false) {a : Nat → Nat} {x1 x3 x4 x5 : Int} {st : z_St} {o : Int} (hx1 : z_isRW x1) (h : J_X10_firstCut x1 x3 x4 x5 st = some o) : z_M 0 l yX10_firstCut cX10_firstCut 9 (some .int) 9 z_T z_N a [.ref (a 148), .ref (a x1.toNat), .ref (a 99), .int (zI x3), .int (zI x4), .int (zI x5)] st o st := z_of hl (by decide +kernel) (Nat.le_of_ble_eq_true rfl) (fun κ hc hap he => w_X10_firstCut hc hap hx1 he h)
theorem dX10_fillTails_0 : decode cX10_fillTails 0 = .ok (.aload_n 0, 1) := by decide +kernel
theorem dX10_fillTails_1 : decode cX10_fillTails 1 = .ok (.getfield 20, 3) := by decide +kernel
theorem dX10_fillTails_4 : decode cX10_fillTails 4 = .ok (.ldc2_w 49, 3) := by decide +kernel
theorem dX10_fillTails_7 : decode cX10_fillTails 7 = .ok (.invokestatic 51, 3) := by decide +kernel
theorem dX10_fillTails_10 : decode cX10_fillTails 10 = .ok (.aload_n 0, 1) := by decide +kernel
theorem dX10_fillTails_11 : decode cX10_fillTails 11 = .ok (.getfield 20, 3) := by decide +kernel
theorem dX10_fillTails_14 : decode cX10_fillTails 14 = .ok (.aload_n 1, 1) := by decide +kernel
theorem dX10_fillTails_15 : decode cX10_fillTails 15 = .ok (.getfield 92, 3) := by decide +kernel
theorem dX10_fillTails_18 : decode cX10_fillTails 18 = .ok (.bipush 17, 2) := by decide +kernel
theorem dX10_fillTails_20 : decode cX10_fillTails 20 = .ok (.imul, 1) := by decide +kernel
theorem dX10_fillTails_21 : decode cX10_fillTails 21 = .ok (.iload 4, 2) := by decide +kernel
theorem dX10_fillTails_23 : decode cX10_fillTails 23 = .ok (.iadd, 1) := by decide +kernel
theorem dX10_fillTails_24 : decode cX10_fillTails 24 = .ok (.lconst 0, 1) := by decide +kernel
theorem dX10_fillTails_25 : decode cX10_fillTails 25 = .ok (.lastore, 1) := by decide +kernel
theorem dX10_fillTails_26 : decode cX10_fillTails 26 = .ok (.iload 4, 2) := by decide +kernel
theorem dX10_fillTails_28 : decode cX10_fillTails 28 = .ok (.iconst 1, 1) := by decide +kernel
theorem dX10_fillTails_29 : decode cX10_fillTails 29 = .ok (.isub, 1) := by decide +kernel
theorem dX10_fillTails_30 : decode cX10_fillTails 30 = .ok (.istore 5, 2) := by decide +kernel
theorem dX10_fillTails_32 : decode cX10_fillTails 32 = .ok (.iload 5, 2) := by decide +kernel
theorem dX10_fillTails_34 : decode cX10_fillTails 34 = .ok (.iload_n 3, 1) := by decide +kernel
theorem dX10_fillTails_35 : decode cX10_fillTails 35 = .ok (.if_icmp .lt 123, 3) := by decide +kernel
theorem dX10_fillTails_38 : decode cX10_fillTails 38 = .ok (.aload_n 1, 1) := by decide +kernel
theorem dX10_fillTails_39 : decode cX10_fillTails 39 = .ok (.getfield 92, 3) := by decide +kernel
theorem dX10_fillTails_42 : decode cX10_fillTails 42 = .ok (.iconst 1, 1) := by decide +kernel
theorem dX10_fillTails_43 : decode cX10_fillTails 43 = .ok (.isub, 1) := by decide +kernel
theorem dX10_fillTails_44 : decode cX10_fillTails 44 = .ok (.istore 6, 2) := by decide +kernel
theorem dX10_fillTails_46 : decode cX10_fillTails 46 = .ok (.iload 6, 2) := by decide +kernel
theorem dX10_fillTails_48 : decode cX10_fillTails 48 = .ok (.ifCond .lt 104, 3) := by decide +kernel
theorem dX10_fillTails_51 : decode cX10_fillTails 51 = .ok (.aload_n 0, 1) := by decide +kernel
theorem dX10_fillTails_52 : decode cX10_fillTails 52 = .ok (.getfield 20, 3) := by decide +kernel
theorem dX10_fillTails_55 : decode cX10_fillTails 55 = .ok (.iload 6, 2) := by decide +kernel
theorem dX10_fillTails_57 : decode cX10_fillTails 57 = .ok (.iconst 1, 1) := by decide +kernel
theorem dX10_fillTails_58 : decode cX10_fillTails 58 = .ok (.iadd, 1) := by decide +kernel
theorem dX10_fillTails_59 : decode cX10_fillTails 59 = .ok (.bipush 17, 2) := by decide +kernel
theorem dX10_fillTails_61 : decode cX10_fillTails 61 = .ok (.imul, 1) := by decide +kernel
theorem dX10_fillTails_62 : decode cX10_fillTails 62 = .ok (.iload 5, 2) := by decide +kernel
theorem dX10_fillTails_64 : decode cX10_fillTails 64 = .ok (.iadd, 1) := by decide +kernel
theorem dX10_fillTails_65 : decode cX10_fillTails 65 = .ok (.iconst 1, 1) := by decide +kernel
theorem dX10_fillTails_66 : decode cX10_fillTails 66 = .ok (.iadd, 1) := by decide +kernel
theorem dX10_fillTails_67 : decode cX10_fillTails 67 = .ok (.laload, 1) := by decide +kernel
theorem dX10_fillTails_68 : decode cX10_fillTails 68 = .ok (.lstore 7, 2) := by decide +kernel
theorem dX10_fillTails_70 : decode cX10_fillTails 70 = .ok (.aload_n 0, 1) := by decide +kernel
theorem dX10_fillTails_71 : decode cX10_fillTails 71 = .ok (.getfield 20, 3) := by decide +kernel
theorem dX10_fillTails_74 : decode cX10_fillTails 74 = .ok (.iload 6, 2) := by decide +kernel
theorem dX10_fillTails_76 : decode cX10_fillTails 76 = .ok (.bipush 17, 2) := by decide +kernel
theorem dX10_fillTails_78 : decode cX10_fillTails 78 = .ok (.imul, 1) := by decide +kernel
theorem dX10_fillTails_79 : decode cX10_fillTails 79 = .ok (.iload 5, 2) := by decide +kernel
theorem dX10_fillTails_81 : decode cX10_fillTails 81 = .ok (.iadd, 1) := by decide +kernel
theorem dX10_fillTails_82 : decode cX10_fillTails 82 = .ok (.iconst 1, 1) := by decide +kernel
theorem dX10_fillTails_83 : decode cX10_fillTails 83 = .ok (.iadd, 1) := by decide +kernel
theorem dX10_fillTails_84 : decode cX10_fillTails 84 = .ok (.laload, 1) := by decide +kernel
theorem dX10_fillTails_85 : decode cX10_fillTails 85 = .ok (.lstore 9, 2) := by decide +kernel
theorem dX10_fillTails_87 : decode cX10_fillTails 87 = .ok (.lload 7, 2) := by decide +kernel
theorem dX10_fillTails_89 : decode cX10_fillTails 89 = .ok (.lload 9, 2) := by decide +kernel
theorem dX10_fillTails_91 : decode cX10_fillTails 91 = .ok (.invokestatic 63, 3) := by decide +kernel
theorem dX10_fillTails_94 : decode cX10_fillTails 94 = .ok (.lstore 11, 2) := by decide +kernel
theorem dX10_fillTails_96 : decode cX10_fillTails 96 = .ok (.aload_n 2, 1) := by decide +kernel
theorem dX10_fillTails_97 : decode cX10_fillTails 97 = .ok (.getfield 93, 3) := by decide +kernel
theorem dX10_fillTails_100 : decode cX10_fillTails 100 = .ok (.aload_n 1, 1) := by decide +kernel
theorem dX10_fillTails_101 : decode cX10_fillTails 101 = .ok (.getfield 97, 3) := by decide +kernel
theorem dX10_fillTails_104 : decode cX10_fillTails 104 = .ok (.iload 6, 2) := by decide +kernel
theorem dX10_fillTails_106 : decode cX10_fillTails 106 = .ok (.iaload, 1) := by decide +kernel
theorem dX10_fillTails_107 : decode cX10_fillTails 107 = .ok (.aaload, 1) := by decide +kernel
theorem dX10_fillTails_108 : decode cX10_fillTails 108 = .ok (.iload 5, 2) := by decide +kernel
theorem dX10_fillTails_110 : decode cX10_fillTails 110 = .ok (.laload, 1) := by decide +kernel
theorem dX10_fillTails_111 : decode cX10_fillTails 111 = .ok (.lstore 13, 2) := by decide +kernel
theorem dX10_fillTails_113 : decode cX10_fillTails 113 = .ok (.aload_n 0, 1) := by decide +kernel
theorem dX10_fillTails_114 : decode cX10_fillTails 114 = .ok (.getfield 20, 3) := by decide +kernel
theorem dX10_fillTails_117 : decode cX10_fillTails 117 = .ok (.iload 6, 2) := by decide +kernel
theorem dX10_fillTails_119 : decode cX10_fillTails 119 = .ok (.bipush 17, 2) := by decide +kernel
theorem dX10_fillTails_121 : decode cX10_fillTails 121 = .ok (.imul, 1) := by decide +kernel
theorem dX10_fillTails_122 : decode cX10_fillTails 122 = .ok (.iload 5, 2) := by decide +kernel
theorem dX10_fillTails_124 : decode cX10_fillTails 124 = .ok (.iadd, 1) := by decide +kernel
theorem dX10_fillTails_125 : decode cX10_fillTails 125 = .ok (.lload 11, 2) := by decide +kernel
theorem dX10_fillTails_127 : decode cX10_fillTails 127 = .ok (.ldc2_w 49, 3) := by decide +kernel
theorem dX10_fillTails_130 : decode cX10_fillTails 130 = .ok (.lcmp, 1) := by decide +kernel
theorem dX10_fillTails_131 : decode cX10_fillTails 131 = .ok (.ifCond .lt 9, 3) := by decide +kernel
theorem dX10_fillTails_134 : decode cX10_fillTails 134 = .ok (.ldc2_w 49, 3) := by decide +kernel
theorem dX10_fillTails_137 : decode cX10_fillTails 137 = .ok (.goto 8, 3) := by decide +kernel
theorem dX10_fillTails_140 : decode cX10_fillTails 140 = .ok (.lload 11, 2) := by decide +kernel
theorem dX10_fillTails_142 : decode cX10_fillTails 142 = .ok (.lload 13, 2) := by decide +kernel
theorem dX10_fillTails_144 : decode cX10_fillTails 144 = .ok (.ladd, 1) := by decide +kernel
theorem dX10_fillTails_145 : decode cX10_fillTails 145 = .ok (.lastore, 1) := by decide +kernel
theorem dX10_fillTails_146 : decode cX10_fillTails 146 = .ok (.iinc 6 (-1), 3) := by decide +kernel
theorem dX10_fillTails_149 : decode cX10_fillTails 149 = .ok (.goto (-103), 3) := by decide +kernel
theorem dX10_fillTails_152 : decode cX10_fillTails 152 = .ok (.iinc 5 (-1), 3) := by decide +kernel
theorem dX10_fillTails_155 : decode cX10_fillTails 155 = .ok (.goto (-123), 3) := by decide +kernel
theorem dX10_fillTails_158 : decode cX10_fillTails 158 = .ok (.return_, 1) := by decide +kernel
def J_X10_fillTails_145 (v1 v3 v5 v6 s0 s1 : Int) (st : z_St) : Option ((Int × z_St) ⊕ z_St) :=
  z_g (0 ≤ s1 ∧ s1 < 85) <|
  z_let (z_up st 157 s1 s0) fun st9 =>
  some (.inl (v6 + (-1), st9))
set_option maxRecDepth 100000 in
set_option maxHeartbeats 4000000 in
theorem w_X10_fillTails_145 {κ : zK} {a : Nat → Nat} {v1 v3 v5 v6 s0 s1 : Int} {st : z_St} {mc9 ms9 : Nat} {o : (Int × z_St) ⊕ z_St} (hc : z_C κ RX10 cX10_fillTails 15 9 mc9 ms9) (hap : z_AP κ a z_N) (hv1 : z_isSaying v1) (k1 : ∀ s9 : (Int × z_St), o = .inl s9 → z_V κ z_T z_N a 0 0 46 [(0, .ref (a 148)), (1, .ref (a v1.toNat)), (2, .ref (a 99)), (3, .int (zI v3)), (5, .int (zI v5)), (6, .int (zI s9.1))] [] s9.2) (k2 : ∀ x9 : z_St, o = .inr x9 → z_V κ z_T z_N a 0 0 152 [(0, .ref (a 148)), (1, .ref (a v1.toNat)), (2, .ref (a 99)), (3, .int (zI v3)), (5, .int (zI v5))] [] x9) (h : J_X10_fillTails_145 v1 v3 v5 v6 s0 s1 st = some o) : z_V κ z_T z_N a 0 0 145 [(0, .ref (a 148)), (1, .ref (a v1.toNat)), (2, .ref (a 99)), (3, .int (zI v3)), (5, .int (zI v5)), (6, .int (zI v6))] [.long (zJ s0), .int (zI s1), .ref (a 157)] st := by
  unfold J_X10_fillTails_145 at h
  refine z_last (kI := 157) (nI9 := 85) hc hap tT_157 (by decide) rfl rfl (by decide) dX10_fillTails_145 h (fun st9 h => ?_)
  refine z_iinc [(6, .int (zI (v6 + (-1)))), (0, .ref (a 148)), (1, .ref (a v1.toNat)), (2, .ref (a 99)), (3, .int (zI v3)), (5, .int (zI v5))] 5 hc dX10_fillTails_146 rfl (by decide) rfl ?_
  refine z_goto (tgt := 46) hc dX10_fillTails_149 (by decide) ?_
  refine z_sub [(0, .ref (a 148)), (1, .ref (a v1.toNat)), (2, .ref (a 99)), (3, .int (zI v3)), (5, .int (zI v5)), (6, .int (zI (v6 + (-1))))] [1, 2, 3, 4, 5, 0] rfl ?_
  exact k1 _ (Option.some.inj h).symm
def J_X10_fillTails_b46 (v1 v3 v5 v6 : Int) (st : z_St) : Option ((Int × z_St) ⊕ z_St) :=
  z_g (z32 v6) (if v6 < 0 then
    some (.inr st)
  else
    z_g (0 ≤ (((v6 + 1) * 17) + v5) + 1 ∧ (((v6 + 1) * 17) + v5) + 1 < 85) <|
    z_g (0 ≤ ((v6 * 17) + v5) + 1 ∧ ((v6 * 17) + v5) + 1 < 85) <|
    z_g (z64 (st 157 ((((v6 + 1) * 17) + v5) + 1)) ∧ z64 (st 157 (((v6 * 17) + v5) + 1))) <|
    z_g (0 ≤ v6 ∧ v6 < 4) <|
    z_g (0 ≤ st (v1 + 2) v6 ∧ st (v1 + 2) v6 < 24) <|
    z_g (0 ≤ v5 ∧ v5 < 16) <|
    z_g (z64 (min (st 157 ((((v6 + 1) * 17) + v5) + 1)) (st 157 (((v6 * 17) + v5) + 1))) ∧ z64 1152921504606846976) (if min (st 157 ((((v6 + 1) * 17) + v5) + 1)) (st 157 (((v6 * 17) + v5) + 1)) < 1152921504606846976 then
      J_X10_fillTails_145 v1 v3 v5 v6 ((min (st 157 ((((v6 + 1) * 17) + v5) + 1)) (st 157 (((v6 * 17) + v5) + 1))) + (st (101 + (st (v1 + 2) v6)) v5)) ((v6 * 17) + v5) st
    else
      J_X10_fillTails_145 v1 v3 v5 v6 1152921504606846976 ((v6 * 17) + v5) st))
set_option maxRecDepth 100000 in
set_option maxHeartbeats 4000000 in
theorem w_X10_fillTails_b46 {κ : zK} {a : Nat → Nat} {v1 v3 v5 v6 : Int} {st : z_St} {mc9 ms9 : Nat} {o : (Int × z_St) ⊕ z_St} (hc : z_C κ RX10 cX10_fillTails 15 9 mc9 ms9) (hap : z_AP κ a z_N) (hv1 : z_isSaying v1) (k1 : ∀ s9 : (Int × z_St), o = .inl s9 → z_V κ z_T z_N a 0 0 46 [(0, .ref (a 148)), (1, .ref (a v1.toNat)), (2, .ref (a 99)), (3, .int (zI v3)), (5, .int (zI v5)), (6, .int (zI s9.1))] [] s9.2) (k2 : ∀ x9 : z_St, o = .inr x9 → z_V κ z_T z_N a 0 0 152 [(0, .ref (a 148)), (1, .ref (a v1.toNat)), (2, .ref (a 99)), (3, .int (zI v3)), (5, .int (zI v5))] [] x9) (h : J_X10_fillTails_b46 v1 v3 v5 v6 st = some o) : z_V κ z_T z_N a 0 0 46 [(0, .ref (a 148)), (1, .ref (a v1.toNat)), (2, .ref (a 99)), (3, .int (zI v3)), (5, .int (zI v5)), (6, .int (zI v6))] [] st := by
  unfold J_X10_fillTails_b46 at h
  refine z_iload 5 hc dX10_fillTails_46 rfl ?_
  refine z_if_lt (tgt := 152) hc dX10_fillTails_48 (by decide) h (fun c48 h => ?_) (fun c48 h => ?_)
  · refine z_sub [(0, .ref (a 148)), (1, .ref (a v1.toNat)), (2, .ref (a 99)), (3, .int (zI v3)), (5, .int (zI v5))] [0, 1, 2, 3, 4] rfl ?_
    exact k2 st (Option.some.inj h).symm
  · refine z_aload_n (i := 0) 0 hc dX10_fillTails_51 rfl rfl ?_
    refine z_getA (k' := 157) hc fl_RX10_20 tT_148 (by decide) rfl rfl dX10_fillTails_52 ?_
    refine z_iload 5 hc dX10_fillTails_55 rfl ?_
    refine z_iconst hc dX10_fillTails_57 ?_
    refine z_iadd hc dX10_fillTails_58 ?_
    refine z_bipush hc dX10_fillTails_59 rfl ?_
    refine z_imul hc dX10_fillTails_61 ?_
    refine z_iload 4 hc dX10_fillTails_62 rfl ?_
    refine z_iadd hc dX10_fillTails_64 ?_
    refine z_iconst hc dX10_fillTails_65 ?_
    refine z_iadd hc dX10_fillTails_66 ?_
    refine z_lald (kI := 157) (nI9 := 85) hc tT_157 (by decide) rfl rfl (by decide) dX10_fillTails_67 h (fun g4 h => ?_)
    refine z_lstore [(7, .long (zJ (st 157 ((((v6 + 1) * 17) + v5) + 1)))), (0, .ref (a 148)), (1, .ref (a v1.toNat)), (2, .ref (a 99)), (3, .int (zI v3)), (5, .int (zI v5)), (6, .int (zI v6))] hc dX10_fillTails_68 (by decide) rfl ?_
    refine z_aload_n (i := 0) 1 hc dX10_fillTails_70 rfl rfl ?_
    refine z_getA (k' := 157) hc fl_RX10_20 tT_148 (by decide) rfl rfl dX10_fillTails_71 ?_
    refine z_iload 6 hc dX10_fillTails_74 rfl ?_
    refine z_bipush hc dX10_fillTails_76 rfl ?_
    refine z_imul hc dX10_fillTails_78 ?_
    refine z_iload 5 hc dX10_fillTails_79 rfl ?_
    refine z_iadd hc dX10_fillTails_81 ?_
    refine z_iconst hc dX10_fillTails_82 ?_
    refine z_iadd hc dX10_fillTails_83 ?_
    refine z_lald (kI := 157) (nI9 := 85) hc tT_157 (by decide) rfl rfl (by decide) dX10_fillTails_84 h (fun g5 h => ?_)
    refine z_lstore [(9, .long (zJ (st 157 (((v6 * 17) + v5) + 1)))), (7, .long (zJ (st 157 ((((v6 + 1) * 17) + v5) + 1)))), (0, .ref (a 148)), (1, .ref (a v1.toNat)), (2, .ref (a 99)), (3, .int (zI v3)), (5, .int (zI v5)), (6, .int (zI v6))] hc dX10_fillTails_85 (by decide) rfl ?_
    refine z_lload 1 hc dX10_fillTails_87 rfl ?_
    refine z_lload 0 hc dX10_fillTails_89 rfl ?_
    refine z_minJ hc ml_RX10_63 h ⟨rfl, rfl, Nat.le_of_ble_eq_true rfl, by omega⟩ dX10_fillTails_91 (fun h => ?_)
    refine z_lstore [(11, .long (zJ (min (st 157 ((((v6 + 1) * 17) + v5) + 1)) (st 157 (((v6 * 17) + v5) + 1))))), (9, .long (zJ (st 157 (((v6 * 17) + v5) + 1)))), (7, .long (zJ (st 157 ((((v6 + 1) * 17) + v5) + 1)))), (0, .ref (a 148)), (1, .ref (a v1.toNat)), (2, .ref (a 99)), (3, .int (zI v3)), (5, .int (zI v5)), (6, .int (zI v6))] hc dX10_fillTails_94 (by decide) rfl ?_
    refine z_aload_n (i := 2) 5 hc dX10_fillTails_96 rfl rfl ?_
    refine z_getA (k' := 100) hc fl_RX10_93 tT_99 (by decide) rfl rfl dX10_fillTails_97 ?_
    refine z_aload_n (i := 1) 4 hc dX10_fillTails_100 rfl rfl ?_
    refine z_getA (k' := (v1.toNat + 2)) hc fl_RX10_97 (z_Saying_T hv1) (z_Saying_lt hv1) rfl rfl dX10_fillTails_101 ?_
    refine z_iload 8 hc dX10_fillTails_104 rfl ?_
    refine z_iald (kI := (v1 + 2)) (nI9 := 4) hc (z_Saying_T2 hv1) (z_Saying_lt2 hv1) (z_Saying_c2 hv1) rfl (by decide) dX10_fillTails_106 h (fun g6 h => ?_)
    refine z_aald (r := 101 + (st (v1 + 2) v6)) (nI9 := 24) hc tT_100 (by decide) (by decide) rfl (by decide) (fun j9 hj9 => by omega) dX10_fillTails_107 h (fun g7 h => ?_)
    refine z_iload 7 hc dX10_fillTails_108 rfl ?_
    refine z_lald (kI := 101 + (st (v1 + 2) v6)) (nI9 := 16) hc (z_row_100 g7).2.2 (z_row_100 g7).2.1 (Int.toNat_of_nonneg (z_row_100 g7).1) rfl (by decide) dX10_fillTails_110 h (fun g8 h => ?_)
    refine z_lstore [(13, .long (zJ (st (101 + (st (v1 + 2) v6)) v5))), (11, .long (zJ (min (st 157 ((((v6 + 1) * 17) + v5) + 1)) (st 157 (((v6 * 17) + v5) + 1))))), (9, .long (zJ (st 157 (((v6 * 17) + v5) + 1)))), (7, .long (zJ (st 157 ((((v6 + 1) * 17) + v5) + 1)))), (0, .ref (a 148)), (1, .ref (a v1.toNat)), (2, .ref (a 99)), (3, .int (zI v3)), (5, .int (zI v5)), (6, .int (zI v6))] hc dX10_fillTails_111 (by decide) rfl ?_
    refine z_aload_n (i := 0) 4 hc dX10_fillTails_113 rfl rfl ?_
    refine z_getA (k' := 157) hc fl_RX10_20 tT_148 (by decide) rfl rfl dX10_fillTails_114 ?_
    refine z_iload 9 hc dX10_fillTails_117 rfl ?_
    refine z_bipush hc dX10_fillTails_119 rfl ?_
    refine z_imul hc dX10_fillTails_121 ?_
    refine z_iload 8 hc dX10_fillTails_122 rfl ?_
    refine z_iadd hc dX10_fillTails_124 ?_
    refine z_lload 1 hc dX10_fillTails_125 rfl ?_
    refine z_ldc2 1152921504606846976 hc kc_RX10_49 dX10_fillTails_127 rfl ?_
    refine z_lcmp_lt (tgt := 140) hc dX10_fillTails_130 dX10_fillTails_131 (by decide) h (fun c130 h => ?_) (fun c130 h => ?_)
    · refine z_lload 1 hc dX10_fillTails_140 rfl ?_
      refine z_lload 0 hc dX10_fillTails_142 rfl ?_
      refine z_ladd hc dX10_fillTails_144 ?_
      refine z_sub [(0, .ref (a 148)), (1, .ref (a v1.toNat)), (2, .ref (a 99)), (3, .int (zI v3)), (5, .int (zI v5)), (6, .int (zI v6))] [4, 5, 6, 7, 8, 9] rfl ?_
      exact w_X10_fillTails_145 hc hap hv1 k1 k2 h
    · refine z_ldc2 1152921504606846976 hc kc_RX10_49 dX10_fillTails_134 rfl ?_
      refine z_goto (tgt := 145) hc dX10_fillTails_137 (by decide) ?_
      refine z_sub [(0, .ref (a 148)), (1, .ref (a v1.toNat)), (2, .ref (a 99)), (3, .int (zI v3)), (5, .int (zI v5)), (6, .int (zI v6))] [4, 5, 6, 7, 8, 9] rfl ?_
      exact w_X10_fillTails_145 hc hap hv1 k1 k2 h
def J_X10_fillTails_b32 (v1 v3 v5 : Int) (st : z_St) : Option ((Int × z_St) ⊕ z_St) :=
  z_g (z32 v5 ∧ z32 v3) (if v5 < v3 then
    some (.inr st)
  else
    z_b (z_iter z_F (fun q9 : (Int × z_St) => J_X10_fillTails_b46 v1 v3 v5 q9.1 q9.2) ((st v1 2) - 1, st)) fun lx10 =>
      some (.inl (v5 + (-1), lx10)))
set_option maxRecDepth 100000 in
set_option maxHeartbeats 4000000 in
theorem w_X10_fillTails_b32 {κ : zK} {a : Nat → Nat} {v1 v3 v5 : Int} {st : z_St} {mc9 ms9 : Nat} {o : (Int × z_St) ⊕ z_St} (hc : z_C κ RX10 cX10_fillTails 15 9 mc9 ms9) (hap : z_AP κ a z_N) (hv1 : z_isSaying v1) (k1 : ∀ s9 : (Int × z_St), o = .inl s9 → z_V κ z_T z_N a 0 0 32 [(0, .ref (a 148)), (1, .ref (a v1.toNat)), (2, .ref (a 99)), (3, .int (zI v3)), (5, .int (zI s9.1))] [] s9.2) (k2 : ∀ x9 : z_St, o = .inr x9 → z_V κ z_T z_N a 0 0 158 [] [] x9) (h : J_X10_fillTails_b32 v1 v3 v5 st = some o) : z_V κ z_T z_N a 0 0 32 [(0, .ref (a 148)), (1, .ref (a v1.toNat)), (2, .ref (a 99)), (3, .int (zI v3)), (5, .int (zI v5))] [] st := by
  unfold J_X10_fillTails_b32 at h
  refine z_iload 4 hc dX10_fillTails_32 rfl ?_
  refine z_iload_n (i := 3) 3 hc dX10_fillTails_34 rfl rfl ?_
  refine z_icmp_lt (tgt := 158) hc dX10_fillTails_35 (by decide) h (fun c35 h => ?_) (fun c35 h => ?_)
  · refine z_sub [] [] rfl ?_
    exact k2 st (Option.some.inj h).symm
  · refine z_aload_n (i := 1) 1 hc dX10_fillTails_38 rfl rfl ?_
    refine z_getI (kI := v1) (jI := 2) hc fl_RX10_92 (z_Saying_T hv1) (z_Saying_lt hv1) (z_Saying_c hv1) rfl rfl dX10_fillTails_39 ?_
    refine z_iconst hc dX10_fillTails_42 ?_
    refine z_isub hc dX10_fillTails_43 ?_
    refine z_istore [(6, .int (zI ((st v1 2) - 1))), (0, .ref (a 148)), (1, .ref (a v1.toNat)), (2, .ref (a 99)), (3, .int (zI v3)), (5, .int (zI v5))] hc dX10_fillTails_44 (by decide) rfl ?_
    obtain ⟨lx10, hlx10, h⟩ := z_b_some h
    refine z_sub [(0, .ref (a 148)), (1, .ref (a v1.toNat)), (2, .ref (a 99)), (3, .int (zI v3)), (5, .int (zI v5)), (6, .int (zI ((st v1 2) - 1)))] [1, 2, 3, 4, 5, 0] rfl ?_
    refine z_loop (fun q9 : (Int × z_St) => J_X10_fillTails_b46 v1 v3 v5 q9.1 q9.2) (fun q9 : (Int × z_St) => z_V κ z_T z_N a 0 0 46 [(0, .ref (a 148)), (1, .ref (a v1.toNat)), (2, .ref (a 99)), (3, .int (zI v3)), (5, .int (zI v5)), (6, .int (zI q9.1))] [] q9.2) (fun x9 : z_St => z_V κ z_T z_N a 0 0 152 [(0, .ref (a 148)), (1, .ref (a v1.toNat)), (2, .ref (a 99)), (3, .int (zI v3)), (5, .int (zI v5))] [] x9) (fun q9 o9 hb k1 k2 => ?_) _ _ _ hlx10 ?_
    · exact w_X10_fillTails_b46 hc hap hv1 k1 k2 hb
    · show z_V κ z_T z_N a 0 0 152 [(0, .ref (a 148)), (1, .ref (a v1.toNat)), (2, .ref (a 99)), (3, .int (zI v3)), (5, .int (zI v5))] [] lx10
      refine z_iinc [(5, .int (zI (v5 + (-1)))), (0, .ref (a 148)), (1, .ref (a v1.toNat)), (2, .ref (a 99)), (3, .int (zI v3))] 4 hc dX10_fillTails_152 rfl (by decide) rfl ?_
      refine z_goto (tgt := 32) hc dX10_fillTails_155 (by decide) ?_
      refine z_sub [(0, .ref (a 148)), (1, .ref (a v1.toNat)), (2, .ref (a 99)), (3, .int (zI v3)), (5, .int (zI (v5 + (-1))))] [1, 2, 3, 4, 0] rfl ?_
      exact k1 _ (Option.some.inj h).symm
def J_X10_fillTails (x1 x3 x4 : Int) (st : z_St) : Option (z_St) :=
  z_b (J_J7_fill_d0a16 85 157 1152921504606846976 st) fun st2 =>
  z_g (0 ≤ ((st2 x1 2) * 17) + x4 ∧ ((st2 x1 2) * 17) + x4 < 85) <|
  z_let (z_up st2 157 (((st2 x1 2) * 17) + x4) 0) fun st3 =>
  z_b (z_iter z_F (fun q9 : (Int × z_St) => J_X10_fillTails_b32 x1 x3 q9.1 q9.2) (x4 - 1, st3)) fun lx11 =>
    some lx11
set_option maxRecDepth 100000 in
set_option maxHeartbeats 4000000 in
theorem w_X10_fillTails {κ : zK} {a : Nat → Nat} {x1 x3 x4 : Int} {st : z_St} {o : z_St} (hc : z_C κ RX10 cX10_fillTails 15 9 0 0) (hap : z_AP κ a z_N) (hx1 : z_isSaying x1) (he : z_E 2 κ none z_T z_N a 0 o) (h : J_X10_fillTails x1 x3 x4 st = some o) : z_V κ z_T z_N a 0 0 0 [(0, .ref (a 148)), (1, .ref (a x1.toNat)), (2, .ref (a 99)), (3, .int (zI x3)), (4, .int (zI x4))] [] st := by
  unfold J_X10_fillTails at h
  refine z_aload_n (i := 0) 0 hc dX10_fillTails_0 rfl rfl ?_
  refine z_getA (k' := 157) hc fl_RX10_20 tT_148 (by decide) rfl rfl dX10_fillTails_1 ?_
  refine z_ldc2 1152921504606846976 hc kc_RX10_49 dX10_fillTails_4 rfl ?_
  obtain ⟨st2, hr1, h⟩ := z_b_some h
  refine z_callSV [.ref (a 157), .long (zJ 1152921504606846976)] hc hap o_J7_fill_d0a16 ml_RX10_51 (fun l hl => c_J7_fill_d0a16 hl (by decide) (z_isArr_lit (by decide) tT_157) hr1) (by decide) rfl rfl (Nat.le_of_ble_eq_true rfl) (Nat.zero_le _) (Nat.zero_le _) dX10_fillTails_7 ?_
  refine z_aload_n (i := 0) 0 hc dX10_fillTails_10 rfl rfl ?_
  refine z_getA (k' := 157) hc fl_RX10_20 tT_148 (by decide) rfl rfl dX10_fillTails_11 ?_
  refine z_aload_n (i := 1) 1 hc dX10_fillTails_14 rfl rfl ?_
  refine z_getI (kI := x1) (jI := 2) hc fl_RX10_92 (z_Saying_T hx1) (z_Saying_lt hx1) (z_Saying_c hx1) rfl rfl dX10_fillTails_15 ?_
  refine z_bipush hc dX10_fillTails_18 rfl ?_
  refine z_imul hc dX10_fillTails_20 ?_
  refine z_iload 4 hc dX10_fillTails_21 rfl ?_
  refine z_iadd hc dX10_fillTails_23 ?_
  refine z_lconst 0 hc dX10_fillTails_24 rfl ?_
  refine z_last (kI := 157) (nI9 := 85) hc hap tT_157 (by decide) rfl rfl (by decide) dX10_fillTails_25 h (fun st3 h => ?_)
  refine z_iload 4 hc dX10_fillTails_26 rfl ?_
  refine z_iconst hc dX10_fillTails_28 ?_
  refine z_isub hc dX10_fillTails_29 ?_
  refine z_istore [(5, .int (zI (x4 - 1))), (0, .ref (a 148)), (1, .ref (a x1.toNat)), (2, .ref (a 99)), (3, .int (zI x3)), (4, .int (zI x4))] hc dX10_fillTails_30 (by decide) rfl ?_
  obtain ⟨lx11, hlx11, h⟩ := z_b_some h
  refine z_sub [(0, .ref (a 148)), (1, .ref (a x1.toNat)), (2, .ref (a 99)), (3, .int (zI x3)), (5, .int (zI (x4 - 1)))] [1, 2, 3, 4, 0] rfl ?_
  refine z_loop (fun q9 : (Int × z_St) => J_X10_fillTails_b32 x1 x3 q9.1 q9.2) (fun q9 : (Int × z_St) => z_V κ z_T z_N a 0 0 32 [(0, .ref (a 148)), (1, .ref (a x1.toNat)), (2, .ref (a 99)), (3, .int (zI x3)), (5, .int (zI q9.1))] [] q9.2) (fun x9 : z_St => z_V κ z_T z_N a 0 0 158 [] [] x9) (fun q9 o9 hb k1 k2 => ?_) _ _ _ hlx11 ?_
  · exact w_X10_fillTails_b32 hc hap hx1 k1 k2 hb
  · show z_V κ z_T z_N a 0 0 158 [] [] lx11
    have h := Option.some.inj h
    subst h
    exact z_retV hc he dX10_fillTails_158
set_option maxRecDepth 100000 in
set_option maxHeartbeats 4000000 in
theorem c_X10_fillTails {l : Launch} (hl : l.stackTraces = false) {a : Nat → Nat} {x1 x3 x4 : Int} {st : z_St} {o : z_St} (hx1 : z_isSaying x1) (h : J_X10_fillTails x1 x3 x4 st = some o) : z_M 2 l yX10_fillTails cX10_fillTails 15 none 9 z_T z_N a [.ref (a 148), .ref (a x1.toNat), .ref (a 99), .int (zI x3), .int (zI x4)] st 0 o := z_of hl (by decide +kernel) (Nat.le_of_ble_eq_true rfl) (fun κ hc hap he => w_X10_fillTails hc hap hx1 he h)
theorem dX10_sayAll_0 : decode cX10_sayAll 0 = .ok (.iconst 0, 1) := by decide +kernel
theorem dX10_sayAll_1 : decode cX10_sayAll 1 = .ok (.istore 4, 2) := by decide +kernel
theorem dX10_sayAll_3 : decode cX10_sayAll 3 = .ok (.iload_n 2, 1) := by decide +kernel
theorem dX10_sayAll_4 : decode cX10_sayAll 4 = .ok (.istore 5, 2) := by decide +kernel
theorem dX10_sayAll_6 : decode cX10_sayAll 6 = .ok (.iload 5, 2) := by decide +kernel
theorem dX10_sayAll_8 : decode cX10_sayAll 8 = .ok (.iload_n 3, 1) := by decide +kernel
theorem dX10_sayAll_9 : decode cX10_sayAll 9 = .ok (.if_icmp .ge 118, 3) := by decide +kernel
theorem dX10_sayAll_12 : decode cX10_sayAll 12 = .ok (.iload 4, 2) := by decide +kernel
theorem dX10_sayAll_14 : decode cX10_sayAll 14 = .ok (.aload_n 1, 1) := by decide +kernel
theorem dX10_sayAll_15 : decode cX10_sayAll 15 = .ok (.getfield 92, 3) := by decide +kernel
theorem dX10_sayAll_18 : decode cX10_sayAll 18 = .ok (.if_icmp .ge 109, 3) := by decide +kernel
theorem dX10_sayAll_21 : decode cX10_sayAll 21 = .ok (.aload_n 1, 1) := by decide +kernel
theorem dX10_sayAll_22 : decode cX10_sayAll 22 = .ok (.getfield 97, 3) := by decide +kernel
theorem dX10_sayAll_25 : decode cX10_sayAll 25 = .ok (.iload 4, 2) := by decide +kernel
theorem dX10_sayAll_27 : decode cX10_sayAll 27 = .ok (.iaload, 1) := by decide +kernel
theorem dX10_sayAll_28 : decode cX10_sayAll 28 = .ok (.istore 6, 2) := by decide +kernel
theorem dX10_sayAll_30 : decode cX10_sayAll 30 = .ok (.aload_n 0, 1) := by decide +kernel
theorem dX10_sayAll_31 : decode cX10_sayAll 31 = .ok (.getfield 11, 3) := by decide +kernel
theorem dX10_sayAll_34 : decode cX10_sayAll 34 = .ok (.iconst 3, 1) := by decide +kernel
theorem dX10_sayAll_35 : decode cX10_sayAll 35 = .ok (.aaload, 1) := by decide +kernel
theorem dX10_sayAll_36 : decode cX10_sayAll 36 = .ok (.iload 5, 2) := by decide +kernel
theorem dX10_sayAll_38 : decode cX10_sayAll 38 = .ok (.iload 4, 2) := by decide +kernel
theorem dX10_sayAll_40 : decode cX10_sayAll 40 = .ok (.iastore, 1) := by decide +kernel
theorem dX10_sayAll_41 : decode cX10_sayAll 41 = .ok (.aload_n 0, 1) := by decide +kernel
theorem dX10_sayAll_42 : decode cX10_sayAll 42 = .ok (.getfield 11, 3) := by decide +kernel
theorem dX10_sayAll_45 : decode cX10_sayAll 45 = .ok (.iconst 4, 1) := by decide +kernel
theorem dX10_sayAll_46 : decode cX10_sayAll 46 = .ok (.aaload, 1) := by decide +kernel
theorem dX10_sayAll_47 : decode cX10_sayAll 47 = .ok (.iload 5, 2) := by decide +kernel
theorem dX10_sayAll_49 : decode cX10_sayAll 49 = .ok (.iload 6, 2) := by decide +kernel
theorem dX10_sayAll_51 : decode cX10_sayAll 51 = .ok (.iconst 4, 1) := by decide +kernel
theorem dX10_sayAll_52 : decode cX10_sayAll 52 = .ok (.idiv, 1) := by decide +kernel
theorem dX10_sayAll_53 : decode cX10_sayAll 53 = .ok (.iastore, 1) := by decide +kernel
theorem dX10_sayAll_54 : decode cX10_sayAll 54 = .ok (.aload_n 0, 1) := by decide +kernel
theorem dX10_sayAll_55 : decode cX10_sayAll 55 = .ok (.getfield 11, 3) := by decide +kernel
theorem dX10_sayAll_58 : decode cX10_sayAll 58 = .ok (.iconst 5, 1) := by decide +kernel
theorem dX10_sayAll_59 : decode cX10_sayAll 59 = .ok (.aaload, 1) := by decide +kernel
theorem dX10_sayAll_60 : decode cX10_sayAll 60 = .ok (.iload 5, 2) := by decide +kernel
theorem dX10_sayAll_62 : decode cX10_sayAll 62 = .ok (.iload 6, 2) := by decide +kernel
theorem dX10_sayAll_64 : decode cX10_sayAll 64 = .ok (.iconst 4, 1) := by decide +kernel
theorem dX10_sayAll_65 : decode cX10_sayAll 65 = .ok (.irem, 1) := by decide +kernel
theorem dX10_sayAll_66 : decode cX10_sayAll 66 = .ok (.iastore, 1) := by decide +kernel
theorem dX10_sayAll_67 : decode cX10_sayAll 67 = .ok (.aload_n 0, 1) := by decide +kernel
theorem dX10_sayAll_68 : decode cX10_sayAll 68 = .ok (.getfield 20, 3) := by decide +kernel
theorem dX10_sayAll_71 : decode cX10_sayAll 71 = .ok (.iload 4, 2) := by decide +kernel
theorem dX10_sayAll_73 : decode cX10_sayAll 73 = .ok (.iconst 1, 1) := by decide +kernel
theorem dX10_sayAll_74 : decode cX10_sayAll 74 = .ok (.iadd, 1) := by decide +kernel
theorem dX10_sayAll_75 : decode cX10_sayAll 75 = .ok (.bipush 17, 2) := by decide +kernel
theorem dX10_sayAll_77 : decode cX10_sayAll 77 = .ok (.imul, 1) := by decide +kernel
theorem dX10_sayAll_78 : decode cX10_sayAll 78 = .ok (.iload 5, 2) := by decide +kernel
theorem dX10_sayAll_80 : decode cX10_sayAll 80 = .ok (.iadd, 1) := by decide +kernel
theorem dX10_sayAll_81 : decode cX10_sayAll 81 = .ok (.iconst 1, 1) := by decide +kernel
theorem dX10_sayAll_82 : decode cX10_sayAll 82 = .ok (.iadd, 1) := by decide +kernel
theorem dX10_sayAll_83 : decode cX10_sayAll 83 = .ok (.laload, 1) := by decide +kernel
theorem dX10_sayAll_84 : decode cX10_sayAll 84 = .ok (.lstore 7, 2) := by decide +kernel
theorem dX10_sayAll_86 : decode cX10_sayAll 86 = .ok (.aload_n 0, 1) := by decide +kernel
theorem dX10_sayAll_87 : decode cX10_sayAll 87 = .ok (.getfield 20, 3) := by decide +kernel
theorem dX10_sayAll_90 : decode cX10_sayAll 90 = .ok (.iload 4, 2) := by decide +kernel
theorem dX10_sayAll_92 : decode cX10_sayAll 92 = .ok (.bipush 17, 2) := by decide +kernel
theorem dX10_sayAll_94 : decode cX10_sayAll 94 = .ok (.imul, 1) := by decide +kernel
theorem dX10_sayAll_95 : decode cX10_sayAll 95 = .ok (.iload 5, 2) := by decide +kernel
theorem dX10_sayAll_97 : decode cX10_sayAll 97 = .ok (.iadd, 1) := by decide +kernel
theorem dX10_sayAll_98 : decode cX10_sayAll 98 = .ok (.iconst 1, 1) := by decide +kernel
theorem dX10_sayAll_99 : decode cX10_sayAll 99 = .ok (.iadd, 1) := by decide +kernel
theorem dX10_sayAll_100 : decode cX10_sayAll 100 = .ok (.laload, 1) := by decide +kernel
theorem dX10_sayAll_101 : decode cX10_sayAll 101 = .ok (.lstore 9, 2) := by decide +kernel
theorem dX10_sayAll_103 : decode cX10_sayAll 103 = .ok (.iload 4, 2) := by decide +kernel
theorem dX10_sayAll_105 : decode cX10_sayAll 105 = .ok (.lload 7, 2) := by decide +kernel
theorem dX10_sayAll_107 : decode cX10_sayAll 107 = .ok (.lload 9, 2) := by decide +kernel
theorem dX10_sayAll_109 : decode cX10_sayAll 109 = .ok (.lcmp, 1) := by decide +kernel
theorem dX10_sayAll_110 : decode cX10_sayAll 110 = .ok (.ifCond .gt 7, 3) := by decide +kernel
theorem dX10_sayAll_113 : decode cX10_sayAll 113 = .ok (.iconst 1, 1) := by decide +kernel
theorem dX10_sayAll_114 : decode cX10_sayAll 114 = .ok (.goto 4, 3) := by decide +kernel
theorem dX10_sayAll_117 : decode cX10_sayAll 117 = .ok (.iconst 0, 1) := by decide +kernel
theorem dX10_sayAll_118 : decode cX10_sayAll 118 = .ok (.iadd, 1) := by decide +kernel
theorem dX10_sayAll_119 : decode cX10_sayAll 119 = .ok (.istore 4, 2) := by decide +kernel
theorem dX10_sayAll_121 : decode cX10_sayAll 121 = .ok (.iinc 5 1, 3) := by decide +kernel
theorem dX10_sayAll_124 : decode cX10_sayAll 124 = .ok (.goto (-118), 3) := by decide +kernel
theorem dX10_sayAll_127 : decode cX10_sayAll 127 = .ok (.return_, 1) := by decide +kernel
def J_X10_sayAll_118 (v1 v3 v5 s0 s1 : Int) (st : z_St) : Option ((Int × Int × z_St) ⊕ z_St) :=
  some (.inl (s1 + s0, v5 + 1, st))
set_option maxRecDepth 100000 in
set_option maxHeartbeats 4000000 in
theorem w_X10_sayAll_118 {κ : zK} {a : Nat → Nat} {v1 v3 v5 s0 s1 : Int} {st : z_St} {mc9 ms9 : Nat} {o : (Int × Int × z_St) ⊕ z_St} (hc : z_C κ RX10 cX10_sayAll 11 8 mc9 ms9) (hap : z_AP κ a z_N) (hv1 : z_isSaying v1) (k1 : ∀ s9 : (Int × Int × z_St), o = .inl s9 → z_V κ z_T z_N a 0 0 6 [(0, .ref (a 148)), (1, .ref (a v1.toNat)), (3, .int (zI v3)), (4, .int (zI s9.1)), (5, .int (zI s9.2.1))] [] s9.2.2) (k2 : ∀ x9 : z_St, o = .inr x9 → z_V κ z_T z_N a 0 0 127 [] [] x9) (h : J_X10_sayAll_118 v1 v3 v5 s0 s1 st = some o) : z_V κ z_T z_N a 0 0 118 [(0, .ref (a 148)), (1, .ref (a v1.toNat)), (3, .int (zI v3)), (5, .int (zI v5))] [.int (zI s0), .int (zI s1)] st := by
  unfold J_X10_sayAll_118 at h
  refine z_iadd hc dX10_sayAll_118 ?_
  refine z_istore [(4, .int (zI (s1 + s0))), (0, .ref (a 148)), (1, .ref (a v1.toNat)), (3, .int (zI v3)), (5, .int (zI v5))] hc dX10_sayAll_119 (by decide) rfl ?_
  refine z_iinc [(5, .int (zI (v5 + 1))), (4, .int (zI (s1 + s0))), (0, .ref (a 148)), (1, .ref (a v1.toNat)), (3, .int (zI v3))] 4 hc dX10_sayAll_121 rfl (by decide) rfl ?_
  refine z_goto (tgt := 6) hc dX10_sayAll_124 (by decide) ?_
  refine z_sub [(0, .ref (a 148)), (1, .ref (a v1.toNat)), (3, .int (zI v3)), (4, .int (zI (s1 + s0))), (5, .int (zI (v5 + 1)))] [2, 3, 4, 1, 0] rfl ?_
  exact k1 _ (Option.some.inj h).symm
def J_X10_sayAll_b6 (v1 v3 v4 v5 : Int) (st : z_St) : Option ((Int × Int × z_St) ⊕ z_St) :=
  z_g (z32 v5 ∧ z32 v3) (if v5 < v3 then
    z_g (z32 v4 ∧ z32 (st v1 2)) (if v4 < st v1 2 then
      z_g (0 ≤ v4 ∧ v4 < 4) <|
      z_g (0 ≤ 3 ∧ 3 < 6) <|
      z_g (0 ≤ v5 ∧ v5 < 16) <|
      z_let (z_up st (150 + 3) v5 v4) fun st3 =>
      z_g (0 ≤ 4 ∧ 4 < 6) <|
      z_g (z32 (st (v1 + 2) v4) ∧ z32 4 ∧ (4 : Int) ≠ 0) <|
      z_g (0 ≤ v5 ∧ v5 < 16) <|
      z_let (z_up st3 (150 + 4) v5 ((st (v1 + 2) v4).tdiv 4)) fun st5 =>
      z_g (0 ≤ 5 ∧ 5 < 6) <|
      z_g (z32 (st (v1 + 2) v4) ∧ z32 4 ∧ (4 : Int) ≠ 0) <|
      z_g (0 ≤ v5 ∧ v5 < 16) <|
      z_let (z_up st5 (150 + 5) v5 ((st (v1 + 2) v4).tmod 4)) fun st7 =>
      z_g (0 ≤ (((v4 + 1) * 17) + v5) + 1 ∧ (((v4 + 1) * 17) + v5) + 1 < 85) <|
      z_g (0 ≤ ((v4 * 17) + v5) + 1 ∧ ((v4 * 17) + v5) + 1 < 85) <|
      z_g (z64 (st7 157 ((((v4 + 1) * 17) + v5) + 1)) ∧ z64 (st7 157 (((v4 * 17) + v5) + 1))) (if st7 157 (((v4 * 17) + v5) + 1) < st7 157 ((((v4 + 1) * 17) + v5) + 1) then
        J_X10_sayAll_118 v1 v3 v5 0 v4 st7
      else
        J_X10_sayAll_118 v1 v3 v5 1 v4 st7)
    else
      some (.inr st))
  else
    some (.inr st))
set_option maxRecDepth 100000 in
set_option maxHeartbeats 4000000 in
theorem w_X10_sayAll_b6 {κ : zK} {a : Nat → Nat} {v1 v3 v4 v5 : Int} {st : z_St} {mc9 ms9 : Nat} {o : (Int × Int × z_St) ⊕ z_St} (hc : z_C κ RX10 cX10_sayAll 11 8 mc9 ms9) (hap : z_AP κ a z_N) (hv1 : z_isSaying v1) (k1 : ∀ s9 : (Int × Int × z_St), o = .inl s9 → z_V κ z_T z_N a 0 0 6 [(0, .ref (a 148)), (1, .ref (a v1.toNat)), (3, .int (zI v3)), (4, .int (zI s9.1)), (5, .int (zI s9.2.1))] [] s9.2.2) (k2 : ∀ x9 : z_St, o = .inr x9 → z_V κ z_T z_N a 0 0 127 [] [] x9) (h : J_X10_sayAll_b6 v1 v3 v4 v5 st = some o) : z_V κ z_T z_N a 0 0 6 [(0, .ref (a 148)), (1, .ref (a v1.toNat)), (3, .int (zI v3)), (4, .int (zI v4)), (5, .int (zI v5))] [] st := by
  unfold J_X10_sayAll_b6 at h
  refine z_iload 4 hc dX10_sayAll_6 rfl ?_
  refine z_iload_n (i := 3) 2 hc dX10_sayAll_8 rfl rfl ?_
  refine z_icmp_ge (tgt := 127) hc dX10_sayAll_9 (by decide) h (fun c9 h => ?_) (fun c9 h => ?_)
  · refine z_iload 3 hc dX10_sayAll_12 rfl ?_
    refine z_aload_n (i := 1) 1 hc dX10_sayAll_14 rfl rfl ?_
    refine z_getI (kI := v1) (jI := 2) hc fl_RX10_92 (z_Saying_T hv1) (z_Saying_lt hv1) (z_Saying_c hv1) rfl rfl dX10_sayAll_15 ?_
    refine z_icmp_ge (tgt := 127) hc dX10_sayAll_18 (by decide) h (fun c18 h => ?_) (fun c18 h => ?_)
    · refine z_aload_n (i := 1) 1 hc dX10_sayAll_21 rfl rfl ?_
      refine z_getA (k' := (v1.toNat + 2)) hc fl_RX10_97 (z_Saying_T hv1) (z_Saying_lt hv1) rfl rfl dX10_sayAll_22 ?_
      refine z_iload 3 hc dX10_sayAll_25 rfl ?_
      refine z_iald (kI := (v1 + 2)) (nI9 := 4) hc (z_Saying_T2 hv1) (z_Saying_lt2 hv1) (z_Saying_c2 hv1) rfl (by decide) dX10_sayAll_27 h (fun g1 h => ?_)
      refine z_istore [(6, .int (zI (st (v1 + 2) v4))), (0, .ref (a 148)), (1, .ref (a v1.toNat)), (3, .int (zI v3)), (4, .int (zI v4)), (5, .int (zI v5))] hc dX10_sayAll_28 (by decide) rfl ?_
      refine z_aload_n (i := 0) 1 hc dX10_sayAll_30 rfl rfl ?_
      refine z_getA (k' := 149) hc fl_RX10_11 tT_148 (by decide) rfl rfl dX10_sayAll_31 ?_
      refine z_iconst hc dX10_sayAll_34 ?_
      refine z_aald (r := 150 + 3) (nI9 := 6) hc tT_149 (by decide) (by decide) rfl (by decide) (fun j9 hj9 => by omega) dX10_sayAll_35 h (fun g2 h => ?_)
      refine z_iload 5 hc dX10_sayAll_36 rfl ?_
      refine z_iload 4 hc dX10_sayAll_38 rfl ?_
      refine z_iast (kI := 150 + 3) (nI9 := 16) hc hap (z_row_149 g2).2.2 (z_row_149 g2).2.1 (Int.toNat_of_nonneg (z_row_149 g2).1) rfl (by decide) dX10_sayAll_40 h (fun st3 h => ?_)
      refine z_aload_n (i := 0) 1 hc dX10_sayAll_41 rfl rfl ?_
      refine z_getA (k' := 149) hc fl_RX10_11 tT_148 (by decide) rfl rfl dX10_sayAll_42 ?_
      refine z_iconst hc dX10_sayAll_45 ?_
      refine z_aald (r := 150 + 4) (nI9 := 6) hc tT_149 (by decide) (by decide) rfl (by decide) (fun j9 hj9 => by omega) dX10_sayAll_46 h (fun g4 h => ?_)
      refine z_iload 5 hc dX10_sayAll_47 rfl ?_
      refine z_iload 0 hc dX10_sayAll_49 rfl ?_
      refine z_iconst hc dX10_sayAll_51 ?_
      refine z_idiv hc dX10_sayAll_52 h (fun h => ?_)
      refine z_iast (kI := 150 + 4) (nI9 := 16) hc hap (z_row_149 g4).2.2 (z_row_149 g4).2.1 (Int.toNat_of_nonneg (z_row_149 g4).1) rfl (by decide) dX10_sayAll_53 h (fun st5 h => ?_)
      refine z_aload_n (i := 0) 1 hc dX10_sayAll_54 rfl rfl ?_
      refine z_getA (k' := 149) hc fl_RX10_11 tT_148 (by decide) rfl rfl dX10_sayAll_55 ?_
      refine z_iconst hc dX10_sayAll_58 ?_
      refine z_aald (r := 150 + 5) (nI9 := 6) hc tT_149 (by decide) (by decide) rfl (by decide) (fun j9 hj9 => by omega) dX10_sayAll_59 h (fun g6 h => ?_)
      refine z_iload 5 hc dX10_sayAll_60 rfl ?_
      refine z_iload 0 hc dX10_sayAll_62 rfl ?_
      refine z_iconst hc dX10_sayAll_64 ?_
      refine z_irem hc dX10_sayAll_65 h (fun h => ?_)
      refine z_iast (kI := 150 + 5) (nI9 := 16) hc hap (z_row_149 g6).2.2 (z_row_149 g6).2.1 (Int.toNat_of_nonneg (z_row_149 g6).1) rfl (by decide) dX10_sayAll_66 h (fun st7 h => ?_)
      refine z_aload_n (i := 0) 1 hc dX10_sayAll_67 rfl rfl ?_
      refine z_getA (k' := 157) hc fl_RX10_20 tT_148 (by decide) rfl rfl dX10_sayAll_68 ?_
      refine z_iload 4 hc dX10_sayAll_71 rfl ?_
      refine z_iconst hc dX10_sayAll_73 ?_
      refine z_iadd hc dX10_sayAll_74 ?_
      refine z_bipush hc dX10_sayAll_75 rfl ?_
      refine z_imul hc dX10_sayAll_77 ?_
      refine z_iload 5 hc dX10_sayAll_78 rfl ?_
      refine z_iadd hc dX10_sayAll_80 ?_
      refine z_iconst hc dX10_sayAll_81 ?_
      refine z_iadd hc dX10_sayAll_82 ?_
      refine z_lald (kI := 157) (nI9 := 85) hc tT_157 (by decide) rfl rfl (by decide) dX10_sayAll_83 h (fun g8 h => ?_)
      refine z_lstore [(7, .long (zJ (st7 157 ((((v4 + 1) * 17) + v5) + 1)))), (6, .int (zI (st (v1 + 2) v4))), (0, .ref (a 148)), (1, .ref (a v1.toNat)), (3, .int (zI v3)), (4, .int (zI v4)), (5, .int (zI v5))] hc dX10_sayAll_84 (by decide) rfl ?_
      refine z_aload_n (i := 0) 2 hc dX10_sayAll_86 rfl rfl ?_
      refine z_getA (k' := 157) hc fl_RX10_20 tT_148 (by decide) rfl rfl dX10_sayAll_87 ?_
      refine z_iload 5 hc dX10_sayAll_90 rfl ?_
      refine z_bipush hc dX10_sayAll_92 rfl ?_
      refine z_imul hc dX10_sayAll_94 ?_
      refine z_iload 6 hc dX10_sayAll_95 rfl ?_
      refine z_iadd hc dX10_sayAll_97 ?_
      refine z_iconst hc dX10_sayAll_98 ?_
      refine z_iadd hc dX10_sayAll_99 ?_
      refine z_lald (kI := 157) (nI9 := 85) hc tT_157 (by decide) rfl rfl (by decide) dX10_sayAll_100 h (fun g9 h => ?_)
      refine z_lstore [(9, .long (zJ (st7 157 (((v4 * 17) + v5) + 1)))), (7, .long (zJ (st7 157 ((((v4 + 1) * 17) + v5) + 1)))), (6, .int (zI (st (v1 + 2) v4))), (0, .ref (a 148)), (1, .ref (a v1.toNat)), (3, .int (zI v3)), (4, .int (zI v4)), (5, .int (zI v5))] hc dX10_sayAll_101 (by decide) rfl ?_
      refine z_iload 6 hc dX10_sayAll_103 rfl ?_
      refine z_lload 1 hc dX10_sayAll_105 rfl ?_
      refine z_lload 0 hc dX10_sayAll_107 rfl ?_
      refine z_lcmp_gt (tgt := 117) hc dX10_sayAll_109 dX10_sayAll_110 (by decide) h (fun c109 h => ?_) (fun c109 h => ?_)
      · refine z_iconst hc dX10_sayAll_117 ?_
        refine z_sub [(0, .ref (a 148)), (1, .ref (a v1.toNat)), (3, .int (zI v3)), (5, .int (zI v5))] [3, 4, 5, 7] rfl ?_
        exact w_X10_sayAll_118 hc hap hv1 k1 k2 h
      · refine z_iconst hc dX10_sayAll_113 ?_
        refine z_goto (tgt := 118) hc dX10_sayAll_114 (by decide) ?_
        refine z_sub [(0, .ref (a 148)), (1, .ref (a v1.toNat)), (3, .int (zI v3)), (5, .int (zI v5))] [3, 4, 5, 7] rfl ?_
        exact w_X10_sayAll_118 hc hap hv1 k1 k2 h
    · refine z_sub [] [] rfl ?_
      exact k2 st (Option.some.inj h).symm
  · refine z_sub [] [] rfl ?_
    exact k2 st (Option.some.inj h).symm
def J_X10_sayAll (x1 x2 x3 : Int) (st : z_St) : Option (z_St) :=
  z_b (z_iter z_F (fun q9 : (Int × Int × z_St) => J_X10_sayAll_b6 x1 x3 q9.1 q9.2.1 q9.2.2) (0, x2, st)) fun lx10 =>
    some lx10
set_option maxRecDepth 100000 in
set_option maxHeartbeats 4000000 in
theorem w_X10_sayAll {κ : zK} {a : Nat → Nat} {x1 x2 x3 : Int} {st : z_St} {o : z_St} (hc : z_C κ RX10 cX10_sayAll 11 8 0 0) (hap : z_AP κ a z_N) (hx1 : z_isSaying x1) (he : z_E 2 κ none z_T z_N a 0 o) (h : J_X10_sayAll x1 x2 x3 st = some o) : z_V κ z_T z_N a 0 0 0 [(0, .ref (a 148)), (1, .ref (a x1.toNat)), (2, .int (zI x2)), (3, .int (zI x3))] [] st := by
  unfold J_X10_sayAll at h
  refine z_iconst hc dX10_sayAll_0 ?_
  refine z_istore [(4, .int (zI 0)), (0, .ref (a 148)), (1, .ref (a x1.toNat)), (2, .int (zI x2)), (3, .int (zI x3))] hc dX10_sayAll_1 (by decide) rfl ?_
  refine z_iload_n (i := 2) 3 hc dX10_sayAll_3 rfl rfl ?_
  refine z_istore [(5, .int (zI x2)), (4, .int (zI 0)), (0, .ref (a 148)), (1, .ref (a x1.toNat)), (2, .int (zI x2)), (3, .int (zI x3))] hc dX10_sayAll_4 (by decide) rfl ?_
  obtain ⟨lx10, hlx10, h⟩ := z_b_some h
  refine z_sub [(0, .ref (a 148)), (1, .ref (a x1.toNat)), (3, .int (zI x3)), (4, .int (zI 0)), (5, .int (zI x2))] [2, 3, 5, 1, 0] rfl ?_
  refine z_loop (fun q9 : (Int × Int × z_St) => J_X10_sayAll_b6 x1 x3 q9.1 q9.2.1 q9.2.2) (fun q9 : (Int × Int × z_St) => z_V κ z_T z_N a 0 0 6 [(0, .ref (a 148)), (1, .ref (a x1.toNat)), (3, .int (zI x3)), (4, .int (zI q9.1)), (5, .int (zI q9.2.1))] [] q9.2.2) (fun x9 : z_St => z_V κ z_T z_N a 0 0 127 [] [] x9) (fun q9 o9 hb k1 k2 => ?_) _ _ _ hlx10 ?_
  · exact w_X10_sayAll_b6 hc hap hx1 k1 k2 hb
  · show z_V κ z_T z_N a 0 0 127 [] [] lx10
    have h := Option.some.inj h
    subst h
    exact z_retV hc he dX10_sayAll_127
set_option maxRecDepth 100000 in
set_option maxHeartbeats 4000000 in
theorem c_X10_sayAll {l : Launch} (hl : l.stackTraces = false) {a : Nat → Nat} {x1 x2 x3 : Int} {st : z_St} {o : z_St} (hx1 : z_isSaying x1) (h : J_X10_sayAll x1 x2 x3 st = some o) : z_M 2 l yX10_sayAll cX10_sayAll 11 none 8 z_T z_N a [.ref (a 148), .ref (a x1.toNat), .int (zI x2), .int (zI x3)] st 0 o := z_of hl (by decide +kernel) (Nat.le_of_ble_eq_true rfl) (fun κ hc hap he => w_X10_sayAll hc hap hx1 he h)
theorem dX10_sayWord_0 : decode cX10_sayWord 0 = .ok (.iconst 0, 1) := by decide +kernel
theorem dX10_sayWord_1 : decode cX10_sayWord 1 = .ok (.istore 7, 2) := by decide +kernel
theorem dX10_sayWord_3 : decode cX10_sayWord 3 = .ok (.aload 4, 2) := by decide +kernel
theorem dX10_sayWord_5 : decode cX10_sayWord 5 = .ok (.iload_n 2, 1) := by decide +kernel
theorem dX10_sayWord_6 : decode cX10_sayWord 6 = .ok (.iconst 0, 1) := by decide +kernel
theorem dX10_sayWord_7 : decode cX10_sayWord 7 = .ok (.invokevirtual 69, 3) := by decide +kernel
theorem dX10_sayWord_10 : decode cX10_sayWord 10 = .ok (.astore 8, 2) := by decide +kernel
theorem dX10_sayWord_12 : decode cX10_sayWord 12 = .ok (.aload_n 0, 1) := by decide +kernel
theorem dX10_sayWord_13 : decode cX10_sayWord 13 = .ok (.aload 8, 2) := by decide +kernel
theorem dX10_sayWord_15 : decode cX10_sayWord 15 = .ok (.aload_n 3, 1) := by decide +kernel
theorem dX10_sayWord_16 : decode cX10_sayWord 16 = .ok (.iload 5, 2) := by decide +kernel
theorem dX10_sayWord_18 : decode cX10_sayWord 18 = .ok (.iload 6, 2) := by decide +kernel
theorem dX10_sayWord_20 : decode cX10_sayWord 20 = .ok (.invokevirtual 75, 3) := by decide +kernel
theorem dX10_sayWord_23 : decode cX10_sayWord 23 = .ok (.aload 4, 2) := by decide +kernel
theorem dX10_sayWord_25 : decode cX10_sayWord 25 = .ok (.getfield 79, 3) := by decide +kernel
theorem dX10_sayWord_28 : decode cX10_sayWord 28 = .ok (.iload_n 2, 1) := by decide +kernel
theorem dX10_sayWord_29 : decode cX10_sayWord 29 = .ok (.iaload, 1) := by decide +kernel
theorem dX10_sayWord_30 : decode cX10_sayWord 30 = .ok (.iconst 1, 1) := by decide +kernel
theorem dX10_sayWord_31 : decode cX10_sayWord 31 = .ok (.if_icmp .le 53, 3) := by decide +kernel
theorem dX10_sayWord_34 : decode cX10_sayWord 34 = .ok (.aload 8, 2) := by decide +kernel
theorem dX10_sayWord_36 : decode cX10_sayWord 36 = .ok (.getfield 83, 3) := by decide +kernel
theorem dX10_sayWord_39 : decode cX10_sayWord 39 = .ok (.i2l, 1) := by decide +kernel
theorem dX10_sayWord_40 : decode cX10_sayWord 40 = .ok (.aload_n 0, 1) := by decide +kernel
theorem dX10_sayWord_41 : decode cX10_sayWord 41 = .ok (.getfield 20, 3) := by decide +kernel
theorem dX10_sayWord_44 : decode cX10_sayWord 44 = .ok (.iload 5, 2) := by decide +kernel
theorem dX10_sayWord_46 : decode cX10_sayWord 46 = .ok (.laload, 1) := by decide +kernel
theorem dX10_sayWord_47 : decode cX10_sayWord 47 = .ok (.ladd, 1) := by decide +kernel
theorem dX10_sayWord_48 : decode cX10_sayWord 48 = .ok (.aload_n 3, 1) := by decide +kernel
theorem dX10_sayWord_49 : decode cX10_sayWord 49 = .ok (.iload_n 2, 1) := by decide +kernel
theorem dX10_sayWord_50 : decode cX10_sayWord 50 = .ok (.iload 5, 2) := by decide +kernel
theorem dX10_sayWord_52 : decode cX10_sayWord 52 = .ok (.iload 6, 2) := by decide +kernel
theorem dX10_sayWord_54 : decode cX10_sayWord 54 = .ok (.invokevirtual 57, 3) := by decide +kernel
theorem dX10_sayWord_57 : decode cX10_sayWord 57 = .ok (.lcmp, 1) := by decide +kernel
theorem dX10_sayWord_58 : decode cX10_sayWord 58 = .ok (.ifCond .le 26, 3) := by decide +kernel
theorem dX10_sayWord_61 : decode cX10_sayWord 61 = .ok (.iconst 1, 1) := by decide +kernel
theorem dX10_sayWord_62 : decode cX10_sayWord 62 = .ok (.istore 7, 2) := by decide +kernel
theorem dX10_sayWord_64 : decode cX10_sayWord 64 = .ok (.aload 4, 2) := by decide +kernel
theorem dX10_sayWord_66 : decode cX10_sayWord 66 = .ok (.iload_n 2, 1) := by decide +kernel
theorem dX10_sayWord_67 : decode cX10_sayWord 67 = .ok (.iconst 1, 1) := by decide +kernel
theorem dX10_sayWord_68 : decode cX10_sayWord 68 = .ok (.invokevirtual 69, 3) := by decide +kernel
theorem dX10_sayWord_71 : decode cX10_sayWord 71 = .ok (.astore 8, 2) := by decide +kernel
theorem dX10_sayWord_73 : decode cX10_sayWord 73 = .ok (.aload_n 0, 1) := by decide +kernel
theorem dX10_sayWord_74 : decode cX10_sayWord 74 = .ok (.aload 8, 2) := by decide +kernel
theorem dX10_sayWord_76 : decode cX10_sayWord 76 = .ok (.aload_n 3, 1) := by decide +kernel
theorem dX10_sayWord_77 : decode cX10_sayWord 77 = .ok (.iload 5, 2) := by decide +kernel
theorem dX10_sayWord_79 : decode cX10_sayWord 79 = .ok (.iload 6, 2) := by decide +kernel
theorem dX10_sayWord_81 : decode cX10_sayWord 81 = .ok (.invokevirtual 75, 3) := by decide +kernel
theorem dX10_sayWord_84 : decode cX10_sayWord 84 = .ok (.iload 5, 2) := by decide +kernel
theorem dX10_sayWord_86 : decode cX10_sayWord 86 = .ok (.istore 9, 2) := by decide +kernel
theorem dX10_sayWord_88 : decode cX10_sayWord 88 = .ok (.iload 9, 2) := by decide +kernel
theorem dX10_sayWord_90 : decode cX10_sayWord 90 = .ok (.iload 6, 2) := by decide +kernel
theorem dX10_sayWord_92 : decode cX10_sayWord 92 = .ok (.if_icmp .ge 40, 3) := by decide +kernel
theorem dX10_sayWord_95 : decode cX10_sayWord 95 = .ok (.aload_n 0, 1) := by decide +kernel
theorem dX10_sayWord_96 : decode cX10_sayWord 96 = .ok (.getfield 11, 3) := by decide +kernel
theorem dX10_sayWord_99 : decode cX10_sayWord 99 = .ok (.iconst 0, 1) := by decide +kernel
theorem dX10_sayWord_100 : decode cX10_sayWord 100 = .ok (.aaload, 1) := by decide +kernel
theorem dX10_sayWord_101 : decode cX10_sayWord 101 = .ok (.iload 9, 2) := by decide +kernel
theorem dX10_sayWord_103 : decode cX10_sayWord 103 = .ok (.iload_n 1, 1) := by decide +kernel
theorem dX10_sayWord_104 : decode cX10_sayWord 104 = .ok (.iastore, 1) := by decide +kernel
theorem dX10_sayWord_105 : decode cX10_sayWord 105 = .ok (.aload_n 0, 1) := by decide +kernel
theorem dX10_sayWord_106 : decode cX10_sayWord 106 = .ok (.getfield 11, 3) := by decide +kernel
theorem dX10_sayWord_109 : decode cX10_sayWord 109 = .ok (.iconst 1, 1) := by decide +kernel
theorem dX10_sayWord_110 : decode cX10_sayWord 110 = .ok (.aaload, 1) := by decide +kernel
theorem dX10_sayWord_111 : decode cX10_sayWord 111 = .ok (.iload 9, 2) := by decide +kernel
theorem dX10_sayWord_113 : decode cX10_sayWord 113 = .ok (.iload_n 2, 1) := by decide +kernel
theorem dX10_sayWord_114 : decode cX10_sayWord 114 = .ok (.iastore, 1) := by decide +kernel
theorem dX10_sayWord_115 : decode cX10_sayWord 115 = .ok (.aload_n 0, 1) := by decide +kernel
theorem dX10_sayWord_116 : decode cX10_sayWord 116 = .ok (.getfield 11, 3) := by decide +kernel
theorem dX10_sayWord_119 : decode cX10_sayWord 119 = .ok (.iconst 2, 1) := by decide +kernel
theorem dX10_sayWord_120 : decode cX10_sayWord 120 = .ok (.aaload, 1) := by decide +kernel
theorem dX10_sayWord_121 : decode cX10_sayWord 121 = .ok (.iload 9, 2) := by decide +kernel
theorem dX10_sayWord_123 : decode cX10_sayWord 123 = .ok (.iload 7, 2) := by decide +kernel
theorem dX10_sayWord_125 : decode cX10_sayWord 125 = .ok (.iastore, 1) := by decide +kernel
theorem dX10_sayWord_126 : decode cX10_sayWord 126 = .ok (.iinc 9 1, 3) := by decide +kernel
theorem dX10_sayWord_129 : decode cX10_sayWord 129 = .ok (.goto (-41), 3) := by decide +kernel
theorem dX10_sayWord_132 : decode cX10_sayWord 132 = .ok (.aload_n 0, 1) := by decide +kernel
theorem dX10_sayWord_133 : decode cX10_sayWord 133 = .ok (.aload 8, 2) := by decide +kernel
theorem dX10_sayWord_135 : decode cX10_sayWord 135 = .ok (.iload 5, 2) := by decide +kernel
theorem dX10_sayWord_137 : decode cX10_sayWord 137 = .ok (.iload 6, 2) := by decide +kernel
theorem dX10_sayWord_139 : decode cX10_sayWord 139 = .ok (.invokevirtual 88, 3) := by decide +kernel
theorem dX10_sayWord_142 : decode cX10_sayWord 142 = .ok (.return_, 1) := by decide +kernel
def J_X10_sayWord_b88 (v1 v2 v5 v6 v7 v8 v9 : Int) (st : z_St) : Option ((Int × z_St) ⊕ z_St) :=
  z_g (z32 v9 ∧ z32 v6) (if v9 < v6 then
    z_g (0 ≤ 0 ∧ 0 < 6) <|
    z_g (0 ≤ v9 ∧ v9 < 16) <|
    z_let (z_up st (150 + 0) v9 v1) fun st16 =>
    z_g (0 ≤ 1 ∧ 1 < 6) <|
    z_g (0 ≤ v9 ∧ v9 < 16) <|
    z_let (z_up st16 (150 + 1) v9 v2) fun st18 =>
    z_g (0 ≤ 2 ∧ 2 < 6) <|
    z_g (0 ≤ v9 ∧ v9 < 16) <|
    z_let (z_up st18 (150 + 2) v9 v7) fun st20 =>
    some (.inl (v9 + 1, st20))
  else
    some (.inr st))
set_option maxRecDepth 100000 in
set_option maxHeartbeats 4000000 in
theorem w_X10_sayWord_b88 {κ : zK} {a : Nat → Nat} {v1 v2 v5 v6 v7 v8 v9 : Int} {st : z_St} {mc9 ms9 : Nat} {o : (Int × z_St) ⊕ z_St} (hc : z_C κ RX10 cX10_sayWord 10 10 mc9 ms9) (hap : z_AP κ a z_N) (hv8 : z_isSaying v8) (k1 : ∀ s9 : (Int × z_St), o = .inl s9 → z_V κ z_T z_N a 0 0 88 [(0, .ref (a 148)), (1, .int (zI v1)), (2, .int (zI v2)), (5, .int (zI v5)), (6, .int (zI v6)), (7, .int (zI v7)), (8, .ref (a v8.toNat)), (9, .int (zI s9.1))] [] s9.2) (k2 : ∀ x9 : z_St, o = .inr x9 → z_V κ z_T z_N a 0 0 132 [(0, .ref (a 148)), (5, .int (zI v5)), (6, .int (zI v6)), (8, .ref (a v8.toNat))] [] x9) (h : J_X10_sayWord_b88 v1 v2 v5 v6 v7 v8 v9 st = some o) : z_V κ z_T z_N a 0 0 88 [(0, .ref (a 148)), (1, .int (zI v1)), (2, .int (zI v2)), (5, .int (zI v5)), (6, .int (zI v6)), (7, .int (zI v7)), (8, .ref (a v8.toNat)), (9, .int (zI v9))] [] st := by
  unfold J_X10_sayWord_b88 at h
  refine z_iload 7 hc dX10_sayWord_88 rfl ?_
  refine z_iload 4 hc dX10_sayWord_90 rfl ?_
  refine z_icmp_ge (tgt := 132) hc dX10_sayWord_92 (by decide) h (fun c92 h => ?_) (fun c92 h => ?_)
  · refine z_aload_n (i := 0) 0 hc dX10_sayWord_95 rfl rfl ?_
    refine z_getA (k' := 149) hc fl_RX10_11 tT_148 (by decide) rfl rfl dX10_sayWord_96 ?_
    refine z_iconst hc dX10_sayWord_99 ?_
    refine z_aald (r := 150 + 0) (nI9 := 6) hc tT_149 (by decide) (by decide) rfl (by decide) (fun j9 hj9 => by omega) dX10_sayWord_100 h (fun g15 h => ?_)
    refine z_iload 7 hc dX10_sayWord_101 rfl ?_
    refine z_iload_n (i := 1) 1 hc dX10_sayWord_103 rfl rfl ?_
    refine z_iast (kI := 150 + 0) (nI9 := 16) hc hap (z_row_149 g15).2.2 (z_row_149 g15).2.1 (Int.toNat_of_nonneg (z_row_149 g15).1) rfl (by decide) dX10_sayWord_104 h (fun st16 h => ?_)
    refine z_aload_n (i := 0) 0 hc dX10_sayWord_105 rfl rfl ?_
    refine z_getA (k' := 149) hc fl_RX10_11 tT_148 (by decide) rfl rfl dX10_sayWord_106 ?_
    refine z_iconst hc dX10_sayWord_109 ?_
    refine z_aald (r := 150 + 1) (nI9 := 6) hc tT_149 (by decide) (by decide) rfl (by decide) (fun j9 hj9 => by omega) dX10_sayWord_110 h (fun g17 h => ?_)
    refine z_iload 7 hc dX10_sayWord_111 rfl ?_
    refine z_iload_n (i := 2) 2 hc dX10_sayWord_113 rfl rfl ?_
    refine z_iast (kI := 150 + 1) (nI9 := 16) hc hap (z_row_149 g17).2.2 (z_row_149 g17).2.1 (Int.toNat_of_nonneg (z_row_149 g17).1) rfl (by decide) dX10_sayWord_114 h (fun st18 h => ?_)
    refine z_aload_n (i := 0) 0 hc dX10_sayWord_115 rfl rfl ?_
    refine z_getA (k' := 149) hc fl_RX10_11 tT_148 (by decide) rfl rfl dX10_sayWord_116 ?_
    refine z_iconst hc dX10_sayWord_119 ?_
    refine z_aald (r := 150 + 2) (nI9 := 6) hc tT_149 (by decide) (by decide) rfl (by decide) (fun j9 hj9 => by omega) dX10_sayWord_120 h (fun g19 h => ?_)
    refine z_iload 7 hc dX10_sayWord_121 rfl ?_
    refine z_iload 5 hc dX10_sayWord_123 rfl ?_
    refine z_iast (kI := 150 + 2) (nI9 := 16) hc hap (z_row_149 g19).2.2 (z_row_149 g19).2.1 (Int.toNat_of_nonneg (z_row_149 g19).1) rfl (by decide) dX10_sayWord_125 h (fun st20 h => ?_)
    refine z_iinc [(9, .int (zI (v9 + 1))), (0, .ref (a 148)), (1, .int (zI v1)), (2, .int (zI v2)), (5, .int (zI v5)), (6, .int (zI v6)), (7, .int (zI v7)), (8, .ref (a v8.toNat))] 7 hc dX10_sayWord_126 rfl (by decide) rfl ?_
    refine z_goto (tgt := 88) hc dX10_sayWord_129 (by decide) ?_
    refine z_sub [(0, .ref (a 148)), (1, .int (zI v1)), (2, .int (zI v2)), (5, .int (zI v5)), (6, .int (zI v6)), (7, .int (zI v7)), (8, .ref (a v8.toNat)), (9, .int (zI (v9 + 1)))] [1, 2, 3, 4, 5, 6, 7, 0] rfl ?_
    exact k1 _ (Option.some.inj h).symm
  · refine z_sub [(0, .ref (a 148)), (5, .int (zI v5)), (6, .int (zI v6)), (8, .ref (a v8.toNat))] [0, 3, 4, 6] rfl ?_
    exact k2 st (Option.some.inj h).symm
def J_X10_sayWord_84 (v1 v2 v5 v6 v7 v8 : Int) (st : z_St) : Option (z_St) :=
  z_b (z_iter z_F (fun q9 : (Int × z_St) => J_X10_sayWord_b88 v1 v2 v5 v6 v7 v8 q9.1 q9.2) (v5, st)) fun lx21 =>
    z_b (J_X10_sayAll v8 v5 v6 lx21) fun st23 =>
    some st23
set_option maxRecDepth 100000 in
set_option maxHeartbeats 4000000 in
theorem w_X10_sayWord_84 {κ : zK} {a : Nat → Nat} {v1 v2 v5 v6 v7 v8 : Int} {st : z_St} {o : z_St} (hc : z_C κ RX10 cX10_sayWord 10 10 0 0) (hap : z_AP κ a z_N) (hv8 : z_isSaying v8) (he : z_E 2 κ none z_T z_N a 0 o) (h : J_X10_sayWord_84 v1 v2 v5 v6 v7 v8 st = some o) : z_V κ z_T z_N a 0 0 84 [(0, .ref (a 148)), (1, .int (zI v1)), (2, .int (zI v2)), (5, .int (zI v5)), (6, .int (zI v6)), (7, .int (zI v7)), (8, .ref (a v8.toNat))] [] st := by
  unfold J_X10_sayWord_84 at h
  refine z_iload 3 hc dX10_sayWord_84 rfl ?_
  refine z_istore [(9, .int (zI v5)), (0, .ref (a 148)), (1, .int (zI v1)), (2, .int (zI v2)), (5, .int (zI v5)), (6, .int (zI v6)), (7, .int (zI v7)), (8, .ref (a v8.toNat))] hc dX10_sayWord_86 (by decide) rfl ?_
  obtain ⟨lx21, hlx21, h⟩ := z_b_some h
  refine z_sub [(0, .ref (a 148)), (1, .int (zI v1)), (2, .int (zI v2)), (5, .int (zI v5)), (6, .int (zI v6)), (7, .int (zI v7)), (8, .ref (a v8.toNat)), (9, .int (zI v5))] [1, 2, 3, 4, 5, 6, 7, 0] rfl ?_
  refine z_loop (fun q9 : (Int × z_St) => J_X10_sayWord_b88 v1 v2 v5 v6 v7 v8 q9.1 q9.2) (fun q9 : (Int × z_St) => z_V κ z_T z_N a 0 0 88 [(0, .ref (a 148)), (1, .int (zI v1)), (2, .int (zI v2)), (5, .int (zI v5)), (6, .int (zI v6)), (7, .int (zI v7)), (8, .ref (a v8.toNat)), (9, .int (zI q9.1))] [] q9.2) (fun x9 : z_St => z_V κ z_T z_N a 0 0 132 [(0, .ref (a 148)), (5, .int (zI v5)), (6, .int (zI v6)), (8, .ref (a v8.toNat))] [] x9) (fun q9 o9 hb k1 k2 => ?_) _ _ _ hlx21 ?_
  · exact w_X10_sayWord_b88 hc hap hv8 k1 k2 hb
  · show z_V κ z_T z_N a 0 0 132 [(0, .ref (a 148)), (5, .int (zI v5)), (6, .int (zI v6)), (8, .ref (a v8.toNat))] [] lx21
    refine z_aload_n (i := 0) 0 hc dX10_sayWord_132 rfl rfl ?_
    refine z_aload 3 hc dX10_sayWord_133 rfl ?_
    refine z_iload 1 hc dX10_sayWord_135 rfl ?_
    refine z_iload 2 hc dX10_sayWord_137 rfl ?_
    obtain ⟨st23, hr22, h⟩ := z_b_some h
    refine z_callVV [.ref (a v8.toNat), .int (zI v5), .int (zI v6)] hc hap o_X10_sayAll ml_RX10_88 (fun l hl => c_X10_sayAll hl hv8 hr22) (by decide) tT_148 (by decide) ⟨_, rfl, rfl⟩ rfl rfl (Nat.le_of_ble_eq_true rfl) (Nat.zero_le _) (Nat.zero_le _) dX10_sayWord_139 ?_
    have h := Option.some.inj h
    subst h
    exact z_retV hc he dX10_sayWord_142
def J_X10_sayWord (x1 x2 x5 x6 : Int) (st : z_St) : Option (z_St) :=
  z_b (J_X4_sayingOf x2 0 st) fun r1 =>
  z_g (z_isSaying r1) <|
  z_b (J_X10_fillTails r1 x5 x6 st) fun st5 =>
  z_g (0 ≤ x2 ∧ x2 < 5) <|
  z_g (z32 (st5 27 x2) ∧ z32 1) (if 1 < st5 27 x2 then
    z_g (z32 (st5 r1 3)) <|
    z_g (0 ≤ x5 ∧ x5 < 85) <|
    z_b (J_X0_span x2 x5 x6 st5) fun r8 =>
    z_g (z64 ((st5 r1 3) + (st5 157 x5)) ∧ z64 r8) (if r8 < (st5 r1 3) + (st5 157 x5) then
      z_b (J_X4_sayingOf x2 1 st5) fun r10 =>
      z_g (z_isSaying r10) <|
      z_b (J_X10_fillTails r10 x5 x6 st5) fun st14 =>
      J_X10_sayWord_84 x1 x2 x5 x6 1 r10 st14
    else
      J_X10_sayWord_84 x1 x2 x5 x6 0 r1 st5)
  else
    J_X10_sayWord_84 x1 x2 x5 x6 0 r1 st5)
set_option maxRecDepth 100000 in
set_option maxHeartbeats 4000000 in
theorem w_X10_sayWord {κ : zK} {a : Nat → Nat} {x1 x2 x5 x6 : Int} {st : z_St} {o : z_St} (hc : z_C κ RX10 cX10_sayWord 10 10 0 0) (hap : z_AP κ a z_N) (he : z_E 2 κ none z_T z_N a 0 o) (h : J_X10_sayWord x1 x2 x5 x6 st = some o) : z_V κ z_T z_N a 0 0 0 [(0, .ref (a 148)), (1, .int (zI x1)), (2, .int (zI x2)), (3, .ref (a 99)), (4, .ref (a 24)), (5, .int (zI x5)), (6, .int (zI x6))] [] st := by
  unfold J_X10_sayWord at h
  refine z_iconst hc dX10_sayWord_0 ?_
  refine z_istore [(7, .int (zI 0)), (0, .ref (a 148)), (1, .int (zI x1)), (2, .int (zI x2)), (3, .ref (a 99)), (4, .ref (a 24)), (5, .int (zI x5)), (6, .int (zI x6))] hc dX10_sayWord_1 (by decide) rfl ?_
  refine z_aload 5 hc dX10_sayWord_3 rfl ?_
  refine z_iload_n (i := 2) 3 hc dX10_sayWord_5 rfl rfl ?_
  refine z_iconst hc dX10_sayWord_6 ?_
  obtain ⟨r1, hr1, h⟩ := z_b_some h
  refine z_callVA [.int (zI x2), .int (zI 0)] hc hap o_X4_sayingOf ml_RX10_69 (fun l hl => c_X4_sayingOf hl  hr1) (by decide) tT_24 (by decide) ⟨_, rfl, rfl⟩ rfl rfl (Nat.le_of_ble_eq_true rfl) (Nat.zero_le _) (Nat.zero_le _) dX10_sayWord_7 ?_
  obtain ⟨g3, h⟩ := z_g_some h
  refine z_astore [(8, .ref (a r1.toNat)), (7, .int (zI 0)), (0, .ref (a 148)), (1, .int (zI x1)), (2, .int (zI x2)), (3, .ref (a 99)), (4, .ref (a 24)), (5, .int (zI x5)), (6, .int (zI x6))] hc dX10_sayWord_10 (by decide) rfl ?_
  refine z_aload_n (i := 0) 2 hc dX10_sayWord_12 rfl rfl ?_
  refine z_aload 0 hc dX10_sayWord_13 rfl ?_
  refine z_aload_n (i := 3) 5 hc dX10_sayWord_15 rfl rfl ?_
  refine z_iload 7 hc dX10_sayWord_16 rfl ?_
  refine z_iload 8 hc dX10_sayWord_18 rfl ?_
  obtain ⟨st5, hr4, h⟩ := z_b_some h
  refine z_callVV [.ref (a r1.toNat), .ref (a 99), .int (zI x5), .int (zI x6)] hc hap o_X10_fillTails ml_RX10_75 (fun l hl => c_X10_fillTails hl g3 hr4) (by decide) tT_148 (by decide) ⟨_, rfl, rfl⟩ rfl rfl (Nat.le_of_ble_eq_true rfl) (Nat.zero_le _) (Nat.zero_le _) dX10_sayWord_20 ?_
  refine z_aload 6 hc dX10_sayWord_23 rfl ?_
  refine z_getA (k' := 27) hc fl_RX10_79 tT_24 (by decide) rfl rfl dX10_sayWord_25 ?_
  refine z_iload_n (i := 2) 4 hc dX10_sayWord_28 rfl rfl ?_
  refine z_iald (kI := 27) (nI9 := 5) hc tT_27 (by decide) rfl rfl (by decide) dX10_sayWord_29 h (fun g6 h => ?_)
  refine z_iconst hc dX10_sayWord_30 ?_
  refine z_icmp_le (tgt := 84) hc dX10_sayWord_31 (by decide) h (fun c31 h => ?_) (fun c31 h => ?_)
  · refine z_aload 0 hc dX10_sayWord_34 rfl ?_
    refine z_getI (kI := r1) (jI := 3) hc fl_RX10_83 (z_Saying_T g3) (z_Saying_lt g3) (z_Saying_c g3) rfl rfl dX10_sayWord_36 ?_
    refine z_i2l hc dX10_sayWord_39 h (fun h => ?_)
    refine z_aload_n (i := 0) 2 hc dX10_sayWord_40 rfl rfl ?_
    refine z_getA (k' := 157) hc fl_RX10_20 tT_148 (by decide) rfl rfl dX10_sayWord_41 ?_
    refine z_iload 7 hc dX10_sayWord_44 rfl ?_
    refine z_lald (kI := 157) (nI9 := 85) hc tT_157 (by decide) rfl rfl (by decide) dX10_sayWord_46 h (fun g7 h => ?_)
    refine z_ladd hc dX10_sayWord_47 ?_
    refine z_aload_n (i := 3) 5 hc dX10_sayWord_48 rfl rfl ?_
    refine z_iload_n (i := 2) 4 hc dX10_sayWord_49 rfl rfl ?_
    refine z_iload 7 hc dX10_sayWord_50 rfl ?_
    refine z_iload 8 hc dX10_sayWord_52 rfl ?_
    obtain ⟨r8, hr8, h⟩ := z_b_some h
    refine z_callVJ [.int (zI x2), .int (zI x5), .int (zI x6)] hc hap o_X0_span ml_RX10_57 (fun l hl => c_X0_span hl  hr8) (by decide) tT_99 (by decide) ⟨_, rfl, rfl⟩ rfl rfl (Nat.le_of_ble_eq_true rfl) (Nat.zero_le _) (Nat.zero_le _) dX10_sayWord_54 ?_
    refine z_lcmp_le (tgt := 84) hc dX10_sayWord_57 dX10_sayWord_58 (by decide) h (fun c57 h => ?_) (fun c57 h => ?_)
    · refine z_iconst hc dX10_sayWord_61 ?_
      refine z_istore [(7, .int (zI 1)), (8, .ref (a r1.toNat)), (0, .ref (a 148)), (1, .int (zI x1)), (2, .int (zI x2)), (3, .ref (a 99)), (4, .ref (a 24)), (5, .int (zI x5)), (6, .int (zI x6))] hc dX10_sayWord_62 (by decide) rfl ?_
      refine z_aload 6 hc dX10_sayWord_64 rfl ?_
      refine z_iload_n (i := 2) 4 hc dX10_sayWord_66 rfl rfl ?_
      refine z_iconst hc dX10_sayWord_67 ?_
      obtain ⟨r10, hr10, h⟩ := z_b_some h
      refine z_callVA [.int (zI x2), .int (zI 1)] hc hap o_X4_sayingOf ml_RX10_69 (fun l hl => c_X4_sayingOf hl  hr10) (by decide) tT_24 (by decide) ⟨_, rfl, rfl⟩ rfl rfl (Nat.le_of_ble_eq_true rfl) (Nat.zero_le _) (Nat.zero_le _) dX10_sayWord_68 ?_
      obtain ⟨g12, h⟩ := z_g_some h
      refine z_astore [(8, .ref (a r10.toNat)), (7, .int (zI 1)), (0, .ref (a 148)), (1, .int (zI x1)), (2, .int (zI x2)), (3, .ref (a 99)), (4, .ref (a 24)), (5, .int (zI x5)), (6, .int (zI x6))] hc dX10_sayWord_71 (by decide) rfl ?_
      refine z_aload_n (i := 0) 2 hc dX10_sayWord_73 rfl rfl ?_
      refine z_aload 0 hc dX10_sayWord_74 rfl ?_
      refine z_aload_n (i := 3) 5 hc dX10_sayWord_76 rfl rfl ?_
      refine z_iload 7 hc dX10_sayWord_77 rfl ?_
      refine z_iload 8 hc dX10_sayWord_79 rfl ?_
      obtain ⟨st14, hr13, h⟩ := z_b_some h
      refine z_callVV [.ref (a r10.toNat), .ref (a 99), .int (zI x5), .int (zI x6)] hc hap o_X10_fillTails ml_RX10_75 (fun l hl => c_X10_fillTails hl g12 hr13) (by decide) tT_148 (by decide) ⟨_, rfl, rfl⟩ rfl rfl (Nat.le_of_ble_eq_true rfl) (Nat.zero_le _) (Nat.zero_le _) dX10_sayWord_81 ?_
      refine z_sub [(0, .ref (a 148)), (1, .int (zI x1)), (2, .int (zI x2)), (5, .int (zI x5)), (6, .int (zI x6)), (7, .int (zI 1)), (8, .ref (a r10.toNat))] [2, 3, 4, 7, 8, 1, 0] rfl ?_
      exact w_X10_sayWord_84 hc hap g12 he h
    · refine z_sub [(0, .ref (a 148)), (1, .int (zI x1)), (2, .int (zI x2)), (5, .int (zI x5)), (6, .int (zI x6)), (7, .int (zI 0)), (8, .ref (a r1.toNat))] [2, 3, 4, 7, 8, 1, 0] rfl ?_
      exact w_X10_sayWord_84 hc hap g3 he h
  · refine z_sub [(0, .ref (a 148)), (1, .int (zI x1)), (2, .int (zI x2)), (5, .int (zI x5)), (6, .int (zI x6)), (7, .int (zI 0)), (8, .ref (a r1.toNat))] [2, 3, 4, 7, 8, 1, 0] rfl ?_
    exact w_X10_sayWord_84 hc hap g3 he h
set_option maxRecDepth 100000 in
set_option maxHeartbeats 4000000 in
theorem c_X10_sayWord {l : Launch} (hl : l.stackTraces = false) {a : Nat → Nat} {x1 x2 x5 x6 : Int} {st : z_St} {o : z_St} (h : J_X10_sayWord x1 x2 x5 x6 st = some o) : z_M 2 l yX10_sayWord cX10_sayWord 10 none 10 z_T z_N a [.ref (a 148), .int (zI x1), .int (zI x2), .ref (a 99), .ref (a 24), .int (zI x5), .int (zI x6)] st 0 o := z_of hl (by decide +kernel) (Nat.le_of_ble_eq_true rfl) (fun κ hc hap he => w_X10_sayWord hc hap he h)
theorem dX10_fill_0 : decode cX10_fill 0 = .ok (.aload_n 0, 1) := by decide +kernel
theorem dX10_fill_1 : decode cX10_fill 1 = .ok (.aload_n 1, 1) := by decide +kernel
theorem dX10_fill_2 : decode cX10_fill 2 = .ok (.aload_n 2, 1) := by decide +kernel
theorem dX10_fill_3 : decode cX10_fill 3 = .ok (.iload 4, 2) := by decide +kernel
theorem dX10_fill_5 : decode cX10_fill 5 = .ok (.invokevirtual 27, 3) := by decide +kernel
theorem dX10_fill_8 : decode cX10_fill 8 = .ok (.iconst 0, 1) := by decide +kernel
theorem dX10_fill_9 : decode cX10_fill 9 = .ok (.istore 5, 2) := by decide +kernel
theorem dX10_fill_11 : decode cX10_fill 11 = .ok (.iconst 0, 1) := by decide +kernel
theorem dX10_fill_12 : decode cX10_fill 12 = .ok (.istore 6, 2) := by decide +kernel
theorem dX10_fill_14 : decode cX10_fill 14 = .ok (.iload 6, 2) := by decide +kernel
theorem dX10_fill_16 : decode cX10_fill 16 = .ok (.aload_n 1, 1) := by decide +kernel
theorem dX10_fill_17 : decode cX10_fill 17 = .ok (.getfield 31, 3) := by decide +kernel
theorem dX10_fill_20 : decode cX10_fill 20 = .ok (.if_icmp .ge 45, 3) := by decide +kernel
theorem dX10_fill_23 : decode cX10_fill 23 = .ok (.aload_n 0, 1) := by decide +kernel
theorem dX10_fill_24 : decode cX10_fill 24 = .ok (.aload_n 1, 1) := by decide +kernel
theorem dX10_fill_25 : decode cX10_fill 25 = .ok (.aload_n 2, 1) := by decide +kernel
theorem dX10_fill_26 : decode cX10_fill 26 = .ok (.iload 6, 2) := by decide +kernel
theorem dX10_fill_28 : decode cX10_fill 28 = .ok (.iload 5, 2) := by decide +kernel
theorem dX10_fill_30 : decode cX10_fill 30 = .ok (.iload 4, 2) := by decide +kernel
theorem dX10_fill_32 : decode cX10_fill 32 = .ok (.invokevirtual 37, 3) := by decide +kernel
theorem dX10_fill_35 : decode cX10_fill 35 = .ok (.istore 7, 2) := by decide +kernel
theorem dX10_fill_37 : decode cX10_fill 37 = .ok (.aload_n 0, 1) := by decide +kernel
theorem dX10_fill_38 : decode cX10_fill 38 = .ok (.iload 6, 2) := by decide +kernel
theorem dX10_fill_40 : decode cX10_fill 40 = .ok (.aload_n 1, 1) := by decide +kernel
theorem dX10_fill_41 : decode cX10_fill 41 = .ok (.iload 6, 2) := by decide +kernel
theorem dX10_fill_43 : decode cX10_fill 43 = .ok (.invokevirtual 41, 3) := by decide +kernel
theorem dX10_fill_46 : decode cX10_fill 46 = .ok (.aload_n 2, 1) := by decide +kernel
theorem dX10_fill_47 : decode cX10_fill 47 = .ok (.aload_n 3, 1) := by decide +kernel
theorem dX10_fill_48 : decode cX10_fill 48 = .ok (.iload 5, 2) := by decide +kernel
theorem dX10_fill_50 : decode cX10_fill 50 = .ok (.iload 7, 2) := by decide +kernel
theorem dX10_fill_52 : decode cX10_fill 52 = .ok (.invokevirtual 45, 3) := by decide +kernel
theorem dX10_fill_55 : decode cX10_fill 55 = .ok (.iload 7, 2) := by decide +kernel
theorem dX10_fill_57 : decode cX10_fill 57 = .ok (.istore 5, 2) := by decide +kernel
theorem dX10_fill_59 : decode cX10_fill 59 = .ok (.iinc 6 1, 3) := by decide +kernel
theorem dX10_fill_62 : decode cX10_fill 62 = .ok (.goto (-48), 3) := by decide +kernel
theorem dX10_fill_65 : decode cX10_fill 65 = .ok (.aload_n 0, 1) := by decide +kernel
theorem dX10_fill_66 : decode cX10_fill 66 = .ok (.iconst 1, 1) := by decide +kernel
theorem dX10_fill_67 : decode cX10_fill 67 = .ok (.putfield 23, 3) := by decide +kernel
theorem dX10_fill_70 : decode cX10_fill 70 = .ok (.return_, 1) := by decide +kernel
def J_X10_fill_b14 (v1 v4 v5 v6 : Int) (st : z_St) : Option ((Int × Int × z_St) ⊕ z_St) :=
  z_g (z32 v6 ∧ z32 (st v1 1)) (if v6 < st v1 1 then
    z_b (J_X10_firstCut v1 v6 v5 v4 st) fun r3 =>
    z_b (J_X6_wordAt v1 v6 st) fun r5 =>
    z_b (J_X10_sayWord v6 r5 v5 r3 st) fun st8 =>
    some (.inl (r3, v6 + 1, st8))
  else
    some (.inr st))
set_option maxRecDepth 100000 in
set_option maxHeartbeats 4000000 in
theorem w_X10_fill_b14 {κ : zK} {a : Nat → Nat} {v1 v4 v5 v6 : Int} {st : z_St} {mc9 ms9 : Nat} {o : (Int × Int × z_St) ⊕ z_St} (hc : z_C κ RX10 cX10_fill 8 11 mc9 ms9) (hap : z_AP κ a z_N) (hv1 : z_isRW v1) (k1 : ∀ s9 : (Int × Int × z_St), o = .inl s9 → z_V κ z_T z_N a 0 0 14 [(0, .ref (a 148)), (1, .ref (a v1.toNat)), (2, .ref (a 99)), (3, .ref (a 24)), (4, .int (zI v4)), (5, .int (zI s9.1)), (6, .int (zI s9.2.1))] [] s9.2.2) (k2 : ∀ x9 : z_St, o = .inr x9 → z_V κ z_T z_N a 0 0 65 [(0, .ref (a 148))] [] x9) (h : J_X10_fill_b14 v1 v4 v5 v6 st = some o) : z_V κ z_T z_N a 0 0 14 [(0, .ref (a 148)), (1, .ref (a v1.toNat)), (2, .ref (a 99)), (3, .ref (a 24)), (4, .int (zI v4)), (5, .int (zI v5)), (6, .int (zI v6))] [] st := by
  unfold J_X10_fill_b14 at h
  refine z_iload 6 hc dX10_fill_14 rfl ?_
  refine z_aload_n (i := 1) 1 hc dX10_fill_16 rfl rfl ?_
  refine z_getI (kI := v1) (jI := 1) hc fl_RX10_31 (z_RW_T hv1) (z_RW_lt hv1) (z_RW_c hv1) rfl rfl dX10_fill_17 ?_
  refine z_icmp_ge (tgt := 65) hc dX10_fill_20 (by decide) h (fun c20 h => ?_) (fun c20 h => ?_)
  · refine z_aload_n (i := 0) 0 hc dX10_fill_23 rfl rfl ?_
    refine z_aload_n (i := 1) 1 hc dX10_fill_24 rfl rfl ?_
    refine z_aload_n (i := 2) 2 hc dX10_fill_25 rfl rfl ?_
    refine z_iload 6 hc dX10_fill_26 rfl ?_
    refine z_iload 5 hc dX10_fill_28 rfl ?_
    refine z_iload 4 hc dX10_fill_30 rfl ?_
    obtain ⟨r3, hr3, h⟩ := z_b_some h
    refine z_callVI [.ref (a v1.toNat), .ref (a 99), .int (zI v6), .int (zI v5), .int (zI v4)] hc hap o_X10_firstCut ml_RX10_37 (fun l hl => c_X10_firstCut hl hv1 hr3) (by decide) tT_148 (by decide) ⟨_, rfl, rfl⟩ rfl rfl (Nat.le_of_ble_eq_true rfl) (Nat.zero_le _) (Nat.zero_le _) dX10_fill_32 ?_
    refine z_istore [(7, .int (zI r3)), (0, .ref (a 148)), (1, .ref (a v1.toNat)), (2, .ref (a 99)), (3, .ref (a 24)), (4, .int (zI v4)), (5, .int (zI v5)), (6, .int (zI v6))] hc dX10_fill_35 (by decide) rfl ?_
    refine z_aload_n (i := 0) 1 hc dX10_fill_37 rfl rfl ?_
    refine z_iload 7 hc dX10_fill_38 rfl ?_
    refine z_aload_n (i := 1) 2 hc dX10_fill_40 rfl rfl ?_
    refine z_iload 7 hc dX10_fill_41 rfl ?_
    obtain ⟨r5, hr5, h⟩ := z_b_some h
    refine z_callVI [.int (zI v6)] hc hap o_X6_wordAt ml_RX10_41 (fun l hl => c_X6_wordAt hl hv1 hr5) (by decide) (z_RW_T hv1) (z_RW_lt hv1) ⟨_, rfl, rfl⟩ rfl rfl (Nat.le_of_ble_eq_true rfl) (Nat.zero_le _) (Nat.zero_le _) dX10_fill_43 ?_
    refine z_aload_n (i := 2) 3 hc dX10_fill_46 rfl rfl ?_
    refine z_aload_n (i := 3) 4 hc dX10_fill_47 rfl rfl ?_
    refine z_iload 6 hc dX10_fill_48 rfl ?_
    refine z_iload 0 hc dX10_fill_50 rfl ?_
    obtain ⟨st8, hr7, h⟩ := z_b_some h
    refine z_callVV [.int (zI v6), .int (zI r5), .ref (a 99), .ref (a 24), .int (zI v5), .int (zI r3)] hc hap o_X10_sayWord ml_RX10_45 (fun l hl => c_X10_sayWord hl  hr7) (by decide) tT_148 (by decide) ⟨_, rfl, rfl⟩ rfl rfl (Nat.le_of_ble_eq_true rfl) (Nat.zero_le _) (Nat.zero_le _) dX10_fill_52 ?_
    refine z_iload 0 hc dX10_fill_55 rfl ?_
    refine z_istore [(5, .int (zI r3)), (7, .int (zI r3)), (0, .ref (a 148)), (1, .ref (a v1.toNat)), (2, .ref (a 99)), (3, .ref (a 24)), (4, .int (zI v4)), (6, .int (zI v6))] hc dX10_fill_57 (by decide) rfl ?_
    refine z_iinc [(6, .int (zI (v6 + 1))), (5, .int (zI r3)), (7, .int (zI r3)), (0, .ref (a 148)), (1, .ref (a v1.toNat)), (2, .ref (a 99)), (3, .ref (a 24)), (4, .int (zI v4))] 7 hc dX10_fill_59 rfl (by decide) rfl ?_
    refine z_goto (tgt := 14) hc dX10_fill_62 (by decide) ?_
    refine z_sub [(0, .ref (a 148)), (1, .ref (a v1.toNat)), (2, .ref (a 99)), (3, .ref (a 24)), (4, .int (zI v4)), (5, .int (zI r3)), (6, .int (zI (v6 + 1)))] [3, 4, 5, 6, 7, 1, 0] rfl ?_
    exact k1 _ (Option.some.inj h).symm
  · refine z_sub [(0, .ref (a 148))] [0] rfl ?_
    exact k2 st (Option.some.inj h).symm
def J_X10_fill (x1 x4 : Int) (st : z_St) : Option (z_St) :=
  z_b (J_X10_fillRests x1 x4 st) fun st2 =>
  z_b (z_iter z_F (fun q9 : (Int × Int × z_St) => J_X10_fill_b14 x1 x4 q9.1 q9.2.1 q9.2.2) (0, 0, st2)) fun lx9 =>
    z_g (1 = 0 ∨ 1 = 1) <|
    z_let (z_up lx9 148 3 1) fun st10 =>
    some st10
set_option maxRecDepth 100000 in
set_option maxHeartbeats 4000000 in
theorem w_X10_fill {κ : zK} {a : Nat → Nat} {x1 x4 : Int} {st : z_St} {o : z_St} (hc : z_C κ RX10 cX10_fill 8 11 0 0) (hap : z_AP κ a z_N) (hx1 : z_isRW x1) (he : z_E 2 κ none z_T z_N a 0 o) (h : J_X10_fill x1 x4 st = some o) : z_V κ z_T z_N a 0 0 0 [(0, .ref (a 148)), (1, .ref (a x1.toNat)), (2, .ref (a 99)), (3, .ref (a 24)), (4, .int (zI x4))] [] st := by
  unfold J_X10_fill at h
  refine z_aload_n (i := 0) 0 hc dX10_fill_0 rfl rfl ?_
  refine z_aload_n (i := 1) 1 hc dX10_fill_1 rfl rfl ?_
  refine z_aload_n (i := 2) 2 hc dX10_fill_2 rfl rfl ?_
  refine z_iload 4 hc dX10_fill_3 rfl ?_
  obtain ⟨st2, hr1, h⟩ := z_b_some h
  refine z_callVV [.ref (a x1.toNat), .ref (a 99), .int (zI x4)] hc hap o_X10_fillRests ml_RX10_27 (fun l hl => c_X10_fillRests hl hx1 hr1) (by decide) tT_148 (by decide) ⟨_, rfl, rfl⟩ rfl rfl (Nat.le_of_ble_eq_true rfl) (Nat.zero_le _) (Nat.zero_le _) dX10_fill_5 ?_
  refine z_iconst hc dX10_fill_8 ?_
  refine z_istore [(5, .int (zI 0)), (0, .ref (a 148)), (1, .ref (a x1.toNat)), (2, .ref (a 99)), (3, .ref (a 24)), (4, .int (zI x4))] hc dX10_fill_9 (by decide) rfl ?_
  refine z_iconst hc dX10_fill_11 ?_
  refine z_istore [(6, .int (zI 0)), (5, .int (zI 0)), (0, .ref (a 148)), (1, .ref (a x1.toNat)), (2, .ref (a 99)), (3, .ref (a 24)), (4, .int (zI x4))] hc dX10_fill_12 (by decide) rfl ?_
  obtain ⟨lx9, hlx9, h⟩ := z_b_some h
  refine z_sub [(0, .ref (a 148)), (1, .ref (a x1.toNat)), (2, .ref (a 99)), (3, .ref (a 24)), (4, .int (zI x4)), (5, .int (zI 0)), (6, .int (zI 0))] [2, 3, 4, 5, 6, 1, 0] rfl ?_
  refine z_loop (fun q9 : (Int × Int × z_St) => J_X10_fill_b14 x1 x4 q9.1 q9.2.1 q9.2.2) (fun q9 : (Int × Int × z_St) => z_V κ z_T z_N a 0 0 14 [(0, .ref (a 148)), (1, .ref (a x1.toNat)), (2, .ref (a 99)), (3, .ref (a 24)), (4, .int (zI x4)), (5, .int (zI q9.1)), (6, .int (zI q9.2.1))] [] q9.2.2) (fun x9 : z_St => z_V κ z_T z_N a 0 0 65 [(0, .ref (a 148))] [] x9) (fun q9 o9 hb k1 k2 => ?_) _ _ _ hlx9 ?_
  · exact w_X10_fill_b14 hc hap hx1 k1 k2 hb
  · show z_V κ z_T z_N a 0 0 65 [(0, .ref (a 148))] [] lx9
    refine z_aload_n (i := 0) 0 hc dX10_fill_65 rfl rfl ?_
    refine z_iconst hc dX10_fill_66 ?_
    refine z_putZ (kI := 148) (jI := 3) hc hap fp_RX10_23 tT_148 (by decide) rfl rfl rfl dX10_fill_67 h (fun st10 h => ?_)
    have h := Option.some.inj h
    subst h
    exact z_retV hc he dX10_fill_70
set_option maxRecDepth 100000 in
set_option maxHeartbeats 4000000 in
theorem c_X10_fill {l : Launch} (hl : l.stackTraces = false) {a : Nat → Nat} {x1 x4 : Int} {st : z_St} {o : z_St} (hx1 : z_isRW x1) (h : J_X10_fill x1 x4 st = some o) : z_M 2 l yX10_fill cX10_fill 8 none 11 z_T z_N a [.ref (a 148), .ref (a x1.toNat), .ref (a 99), .ref (a 24), .int (zI x4)] st 0 o := z_of hl (by decide +kernel) (Nat.le_of_ble_eq_true rfl) (fun κ hc hap he => w_X10_fill hc hap hx1 he h)
theorem dX11_checkRange_0 : decode cX11_checkRange 0 = .ok (.iload_n 0, 1) := by decide +kernel
theorem dX11_checkRange_1 : decode cX11_checkRange 1 = .ok (.iload_n 1, 1) := by decide +kernel
theorem dX11_checkRange_2 : decode cX11_checkRange 2 = .ok (.if_icmp .lt 8, 3) := by decide +kernel
theorem dX11_checkRange_5 : decode cX11_checkRange 5 = .ok (.iload_n 0, 1) := by decide +kernel
theorem dX11_checkRange_6 : decode cX11_checkRange 6 = .ok (.iload_n 2, 1) := by decide +kernel
theorem dX11_checkRange_7 : decode cX11_checkRange 7 = .ok (.if_icmp .le 14, 3) := by decide +kernel
theorem dX11_checkRange_10 : decode cX11_checkRange 10 = .ok (.new 319, 3) := by decide +kernel
theorem dX11_checkRange_13 : decode cX11_checkRange 13 = .ok (.dup, 1) := by decide +kernel
theorem dX11_checkRange_14 : decode cX11_checkRange 14 = .ok (.ldc_w 321, 3) := by decide +kernel
theorem dX11_checkRange_17 : decode cX11_checkRange 17 = .ok (.invokespecial 323, 3) := by decide +kernel
theorem dX11_checkRange_20 : decode cX11_checkRange 20 = .ok (.athrow, 1) := by decide +kernel
theorem dX11_checkRange_21 : decode cX11_checkRange 21 = .ok (.return_, 1) := by decide +kernel
def J_X11_checkRange_10 (st : z_St) : Option (z_R Unit) :=
  some (.inr (1, st))
set_option maxRecDepth 100000 in
set_option maxHeartbeats 4000000 in
theorem w_X11_checkRange_10 {κ : zK} {a : Nat → Nat} {st : z_St} {o : z_R Unit} (hc : z_C κ RX11 cX11_checkRange 3 8 (z_mc (z_cvU st o)) (z_ms (z_cvU st o))) (hap : z_AP κ a z_N) (he : z_EX 2 κ none z_T z_N a (z_cvU st o)) (h : J_X11_checkRange_10 st = some o) : z_V κ z_T z_N a 0 0 10 [] [] st := by
  unfold J_X11_checkRange_10 at h
  have h := Option.some.inj h
  subst h
  exact z_throwW (text := "out of range") hc he rfl hap oT_RX11_319 (by decide +kernel) (by decide) (Nat.le_of_ble_eq_true rfl) dX11_checkRange_10 dX11_checkRange_13 dX11_checkRange_14 dX11_checkRange_17 dX11_checkRange_20
def J_X11_checkRange (x0 x1 x2 : Int) (st : z_St) : Option (z_R Unit) :=
  z_g (z32 x0 ∧ z32 x1) (if x0 < x1 then
    J_X11_checkRange_10 st
  else
    z_g (z32 x0 ∧ z32 x2) (if x2 < x0 then
      J_X11_checkRange_10 st
    else
      some (.inl ())))
set_option maxRecDepth 100000 in
set_option maxHeartbeats 4000000 in
theorem w_X11_checkRange {κ : zK} {a : Nat → Nat} {x0 x1 x2 : Int} {st : z_St} {o : z_R Unit} (hc : z_C κ RX11 cX11_checkRange 3 8 (z_mc (z_cvU st o)) (z_ms (z_cvU st o))) (hap : z_AP κ a z_N) (he : z_EX 2 κ none z_T z_N a (z_cvU st o)) (h : J_X11_checkRange x0 x1 x2 st = some o) : z_V κ z_T z_N a 0 0 0 [(0, .int (zI x0)), (1, .int (zI x1)), (2, .int (zI x2))] [] st := by
  unfold J_X11_checkRange at h
  refine z_iload_n (i := 0) 0 hc dX11_checkRange_0 rfl rfl ?_
  refine z_iload_n (i := 1) 1 hc dX11_checkRange_1 rfl rfl ?_
  refine z_icmp_lt (tgt := 10) hc dX11_checkRange_2 (by decide) h (fun c2 h => ?_) (fun c2 h => ?_)
  · refine z_sub [] [] rfl ?_
    exact w_X11_checkRange_10 hc hap he h
  · refine z_iload_n (i := 0) 0 hc dX11_checkRange_5 rfl rfl ?_
    refine z_iload_n (i := 2) 2 hc dX11_checkRange_6 rfl rfl ?_
    refine z_icmp_le (tgt := 21) hc dX11_checkRange_7 (by decide) h (fun c7 h => ?_) (fun c7 h => ?_)
    · refine z_sub [] [] rfl ?_
      exact w_X11_checkRange_10 hc hap he h
    · have h := Option.some.inj h
      subst h
      exact z_retXV hc he rfl dX11_checkRange_21
set_option maxRecDepth 100000 in
set_option maxHeartbeats 4000000 in
theorem c_X11_checkRange {l : Launch} (hl : l.stackTraces = false) {a : Nat → Nat} {x0 x1 x2 : Int} {st : z_St} {o : z_R Unit} (h : J_X11_checkRange x0 x1 x2 st = some o) : z_MX 2 l yX11_checkRange cX11_checkRange 3 none 8 z_T z_N a [.int (zI x0), .int (zI x1), .int (zI x2)] st (z_cvU st o) := z_ofX hl (by decide +kernel) (Nat.le_of_ble_eq_true rfl) (fun κ hc hap he => w_X11_checkRange hc hap he h)
theorem c_X11_checkRange_r {l : Launch} (hl : l.stackTraces = false) {a : Nat → Nat} {x0 x1 x2 : Int} {st : z_St} {v9 : Unit} (h : J_X11_checkRange x0 x1 x2 st = some (.inl v9)) : z_MX 2 l yX11_checkRange cX11_checkRange 3 none 8 z_T z_N a [.int (zI x0), .int (zI x1), .int (zI x2)] st (.inl (0, st)) := by
  have h9 := c_X11_checkRange (a := a) (o := .inl v9) hl h
  exact h9
theorem c_X11_checkRange_t {l : Launch} (hl : l.stackTraces = false) {a : Nat → Nat} {x0 x1 x2 : Int} {st : z_St} {e9 : Nat} {st9 : z_St} (h : J_X11_checkRange x0 x1 x2 st = some (.inr (e9, st9))) : z_MX 2 l yX11_checkRange cX11_checkRange 3 none 8 z_T z_N a [.int (zI x0), .int (zI x1), .int (zI x2)] st (.inr (e9, st9)) := by
  have h9 := c_X11_checkRange (a := a) (o := .inr (e9, st9)) hl h
  exact h9
theorem dX11_checkTriple_0 : decode cX11_checkTriple 0 = .ok (.iload_n 0, 1) := by decide +kernel
theorem dX11_checkTriple_1 : decode cX11_checkTriple 1 = .ok (.sipush (-30000), 3) := by decide +kernel
theorem dX11_checkTriple_4 : decode cX11_checkTriple 4 = .ok (.sipush 30000, 3) := by decide +kernel
theorem dX11_checkTriple_7 : decode cX11_checkTriple 7 = .ok (.invokestatic 112, 3) := by decide +kernel
theorem dX11_checkTriple_10 : decode cX11_checkTriple 10 = .ok (.iload_n 1, 1) := by decide +kernel
theorem dX11_checkTriple_11 : decode cX11_checkTriple 11 = .ok (.sipush (-30000), 3) := by decide +kernel
theorem dX11_checkTriple_14 : decode cX11_checkTriple 14 = .ok (.sipush 30000, 3) := by decide +kernel
theorem dX11_checkTriple_17 : decode cX11_checkTriple 17 = .ok (.invokestatic 112, 3) := by decide +kernel
theorem dX11_checkTriple_20 : decode cX11_checkTriple 20 = .ok (.iload_n 2, 1) := by decide +kernel
theorem dX11_checkTriple_21 : decode cX11_checkTriple 21 = .ok (.sipush (-30000), 3) := by decide +kernel
theorem dX11_checkTriple_24 : decode cX11_checkTriple 24 = .ok (.sipush 30000, 3) := by decide +kernel
theorem dX11_checkTriple_27 : decode cX11_checkTriple 27 = .ok (.invokestatic 112, 3) := by decide +kernel
theorem dX11_checkTriple_30 : decode cX11_checkTriple 30 = .ok (.return_, 1) := by decide +kernel
def J_X11_checkTriple (x0 x1 x2 : Int) (st : z_St) : Option (z_R Unit) :=
  z_x (J_X11_checkRange x0 (-30000) 30000 st) fun _ =>
    z_x (J_X11_checkRange x1 (-30000) 30000 st) fun _ =>
      z_x (J_X11_checkRange x2 (-30000) 30000 st) fun _ =>
        some (.inl ())
set_option maxRecDepth 100000 in
set_option maxHeartbeats 4000000 in
theorem w_X11_checkTriple {κ : zK} {a : Nat → Nat} {x0 x1 x2 : Int} {st : z_St} {o : z_R Unit} (hc : z_C κ RX11 cX11_checkTriple 3 9 (z_mc (z_cvU st o)) (z_ms (z_cvU st o))) (hap : z_AP κ a z_N) (he : z_EX 2 κ none z_T z_N a (z_cvU st o)) (h : J_X11_checkTriple x0 x1 x2 st = some o) : z_V κ z_T z_N a 0 0 0 [(0, .int (zI x0)), (1, .int (zI x1)), (2, .int (zI x2))] [] st := by
  unfold J_X11_checkTriple at h
  refine z_iload_n (i := 0) 0 hc dX11_checkTriple_0 rfl rfl ?_
  refine z_sipush hc dX11_checkTriple_1 rfl ?_
  refine z_sipush hc dX11_checkTriple_4 rfl ?_
  rcases z_x_cases h with ⟨u9, hr1, h⟩ | ⟨q9, hr1, h⟩
  · refine z_xcallSV [.int (zI x0), .int (zI (-30000)), .int (zI 30000)] hc hap o_X11_checkRange ml_RX11_112 (fun l hl => c_X11_checkRange_r hl  hr1) (by decide) rfl rfl (Nat.le_of_ble_eq_true rfl) (Nat.zero_le _) (Nat.zero_le _) dX11_checkTriple_7 ?_
    refine z_iload_n (i := 1) 1 hc dX11_checkTriple_10 rfl rfl ?_
    refine z_sipush hc dX11_checkTriple_11 rfl ?_
    refine z_sipush hc dX11_checkTriple_14 rfl ?_
    rcases z_x_cases h with ⟨u9, hr3, h⟩ | ⟨q9, hr3, h⟩
    · refine z_xcallSV [.int (zI x1), .int (zI (-30000)), .int (zI 30000)] hc hap o_X11_checkRange ml_RX11_112 (fun l hl => c_X11_checkRange_r hl  hr3) (by decide) rfl rfl (Nat.le_of_ble_eq_true rfl) (Nat.zero_le _) (Nat.zero_le _) dX11_checkTriple_17 ?_
      refine z_iload_n (i := 2) 2 hc dX11_checkTriple_20 rfl rfl ?_
      refine z_sipush hc dX11_checkTriple_21 rfl ?_
      refine z_sipush hc dX11_checkTriple_24 rfl ?_
      rcases z_x_cases h with ⟨u9, hr5, h⟩ | ⟨q9, hr5, h⟩
      · refine z_xcallSV [.int (zI x2), .int (zI (-30000)), .int (zI 30000)] hc hap o_X11_checkRange ml_RX11_112 (fun l hl => c_X11_checkRange_r hl  hr5) (by decide) rfl rfl (Nat.le_of_ble_eq_true rfl) (Nat.zero_le _) (Nat.zero_le _) dX11_checkTriple_27 ?_
        have h := Option.some.inj h
        subst h
        exact z_retXV hc he rfl dX11_checkTriple_30
      · obtain ⟨e9, st9⟩ := q9
        subst h
        refine z_xthrS (kd := 2) [.int (zI x2), .int (zI (-30000)), .int (zI 30000)] hc hap o_X11_checkRange ml_RX11_112 (fun l hl => c_X11_checkRange_t hl  hr5) (by decide) rfl rfl (Nat.le_of_ble_eq_true rfl) (Nat.le_refl 1) (Nat.le_refl 6) dX11_checkTriple_27 (z_outX hc he rfl)
    · obtain ⟨e9, st9⟩ := q9
      subst h
      refine z_xthrS (kd := 2) [.int (zI x1), .int (zI (-30000)), .int (zI 30000)] hc hap o_X11_checkRange ml_RX11_112 (fun l hl => c_X11_checkRange_t hl  hr3) (by decide) rfl rfl (Nat.le_of_ble_eq_true rfl) (Nat.le_refl 1) (Nat.le_refl 6) dX11_checkTriple_17 (z_outX hc he rfl)
  · obtain ⟨e9, st9⟩ := q9
    subst h
    refine z_xthrS (kd := 2) [.int (zI x0), .int (zI (-30000)), .int (zI 30000)] hc hap o_X11_checkRange ml_RX11_112 (fun l hl => c_X11_checkRange_t hl  hr1) (by decide) rfl rfl (Nat.le_of_ble_eq_true rfl) (Nat.le_refl 1) (Nat.le_refl 6) dX11_checkTriple_7 (z_outX hc he rfl)
set_option maxRecDepth 100000 in
set_option maxHeartbeats 4000000 in
theorem c_X11_checkTriple {l : Launch} (hl : l.stackTraces = false) {a : Nat → Nat} {x0 x1 x2 : Int} {st : z_St} {o : z_R Unit} (h : J_X11_checkTriple x0 x1 x2 st = some o) : z_MX 2 l yX11_checkTriple cX11_checkTriple 3 none 9 z_T z_N a [.int (zI x0), .int (zI x1), .int (zI x2)] st (z_cvU st o) := z_ofX hl (by decide +kernel) (Nat.le_of_ble_eq_true rfl) (fun κ hc hap he => w_X11_checkTriple hc hap he h)
theorem c_X11_checkTriple_r {l : Launch} (hl : l.stackTraces = false) {a : Nat → Nat} {x0 x1 x2 : Int} {st : z_St} {v9 : Unit} (h : J_X11_checkTriple x0 x1 x2 st = some (.inl v9)) : z_MX 2 l yX11_checkTriple cX11_checkTriple 3 none 9 z_T z_N a [.int (zI x0), .int (zI x1), .int (zI x2)] st (.inl (0, st)) := by
  have h9 := c_X11_checkTriple (a := a) (o := .inl v9) hl h
  exact h9
theorem c_X11_checkTriple_t {l : Launch} (hl : l.stackTraces = false) {a : Nat → Nat} {x0 x1 x2 : Int} {st : z_St} {e9 : Nat} {st9 : z_St} (h : J_X11_checkTriple x0 x1 x2 st = some (.inr (e9, st9))) : z_MX 2 l yX11_checkTriple cX11_checkTriple 3 none 9 z_T z_N a [.int (zI x0), .int (zI x1), .int (zI x2)] st (.inr (e9, st9)) := by
  have h9 := c_X11_checkTriple (a := a) (o := .inr (e9, st9)) hl h
  exact h9
theorem dX11_setTriple_0 : decode cX11_setTriple 0 = .ok (.aload_n 0, 1) := by decide +kernel
theorem dX11_setTriple_1 : decode cX11_setTriple 1 = .ok (.iconst 0, 1) := by decide +kernel
theorem dX11_setTriple_2 : decode cX11_setTriple 2 = .ok (.iload_n 1, 1) := by decide +kernel
theorem dX11_setTriple_3 : decode cX11_setTriple 3 = .ok (.iastore, 1) := by decide +kernel
theorem dX11_setTriple_4 : decode cX11_setTriple 4 = .ok (.aload_n 0, 1) := by decide +kernel
theorem dX11_setTriple_5 : decode cX11_setTriple 5 = .ok (.iconst 1, 1) := by decide +kernel
theorem dX11_setTriple_6 : decode cX11_setTriple 6 = .ok (.iload_n 2, 1) := by decide +kernel
theorem dX11_setTriple_7 : decode cX11_setTriple 7 = .ok (.iastore, 1) := by decide +kernel
theorem dX11_setTriple_8 : decode cX11_setTriple 8 = .ok (.aload_n 0, 1) := by decide +kernel
theorem dX11_setTriple_9 : decode cX11_setTriple 9 = .ok (.iconst 2, 1) := by decide +kernel
theorem dX11_setTriple_10 : decode cX11_setTriple 10 = .ok (.iload_n 3, 1) := by decide +kernel
theorem dX11_setTriple_11 : decode cX11_setTriple 11 = .ok (.iastore, 1) := by decide +kernel
theorem dX11_setTriple_12 : decode cX11_setTriple 12 = .ok (.return_, 1) := by decide +kernel
def J_X11_setTriple (x0 x1 x2 x3 : Int) (st : z_St) : Option (z_St) :=
  z_g (0 ≤ 0 ∧ 0 < 3) <|
  z_let (z_up st x0 0 x1) fun st1 =>
  z_g (0 ≤ 1 ∧ 1 < 3) <|
  z_let (z_up st1 x0 1 x2) fun st2 =>
  z_g (0 ≤ 2 ∧ 2 < 3) <|
  z_let (z_up st2 x0 2 x3) fun st3 =>
  some st3
set_option maxRecDepth 100000 in
set_option maxHeartbeats 4000000 in
theorem w_X11_setTriple {κ : zK} {a : Nat → Nat} {x0 x1 x2 x3 : Int} {st : z_St} {o : z_St} (hc : z_C κ RX11 cX11_setTriple 4 8 0 0) (hap : z_AP κ a z_N) (hx0 : z_isArr x0 0 0 3) (he : z_E 2 κ none z_T z_N a 0 o) (h : J_X11_setTriple x0 x1 x2 x3 st = some o) : z_V κ z_T z_N a 0 0 0 [(0, .ref (a x0.toNat)), (1, .int (zI x1)), (2, .int (zI x2)), (3, .int (zI x3))] [] st := by
  unfold J_X11_setTriple at h
  refine z_aload_n (i := 0) 0 hc dX11_setTriple_0 rfl rfl ?_
  refine z_iconst hc dX11_setTriple_1 ?_
  refine z_iload_n (i := 1) 1 hc dX11_setTriple_2 rfl rfl ?_
  refine z_iast (kI := x0) (nI9 := 3) hc hap hx0.2.2 hx0.2.1 (Int.toNat_of_nonneg hx0.1) rfl (by decide) dX11_setTriple_3 h (fun st1 h => ?_)
  refine z_aload_n (i := 0) 0 hc dX11_setTriple_4 rfl rfl ?_
  refine z_iconst hc dX11_setTriple_5 ?_
  refine z_iload_n (i := 2) 2 hc dX11_setTriple_6 rfl rfl ?_
  refine z_iast (kI := x0) (nI9 := 3) hc hap hx0.2.2 hx0.2.1 (Int.toNat_of_nonneg hx0.1) rfl (by decide) dX11_setTriple_7 h (fun st2 h => ?_)
  refine z_aload_n (i := 0) 0 hc dX11_setTriple_8 rfl rfl ?_
  refine z_iconst hc dX11_setTriple_9 ?_
  refine z_iload_n (i := 3) 3 hc dX11_setTriple_10 rfl rfl ?_
  refine z_iast (kI := x0) (nI9 := 3) hc hap hx0.2.2 hx0.2.1 (Int.toNat_of_nonneg hx0.1) rfl (by decide) dX11_setTriple_11 h (fun st3 h => ?_)
  have h := Option.some.inj h
  subst h
  exact z_retV hc he dX11_setTriple_12
set_option maxRecDepth 100000 in
set_option maxHeartbeats 4000000 in
theorem c_X11_setTriple {l : Launch} (hl : l.stackTraces = false) {a : Nat → Nat} {x0 x1 x2 x3 : Int} {st : z_St} {o : z_St} (hx0 : z_isArr x0 0 0 3) (h : J_X11_setTriple x0 x1 x2 x3 st = some o) : z_M 2 l yX11_setTriple cX11_setTriple 4 none 8 z_T z_N a [.ref (a x0.toNat), .int (zI x1), .int (zI x2), .int (zI x3)] st 0 o := z_of hl (by decide +kernel) (Nat.le_of_ble_eq_true rfl) (fun κ hc hap he => w_X11_setTriple hc hap hx0 he h)
theorem dX11_outdate_0 : decode cX11_outdate 0 = .ok (.aload_n 0, 1) := by decide +kernel
theorem dX11_outdate_1 : decode cX11_outdate 1 = .ok (.getfield 33, 3) := by decide +kernel
theorem dX11_outdate_4 : decode cX11_outdate 4 = .ok (.iconst 0, 1) := by decide +kernel
theorem dX11_outdate_5 : decode cX11_outdate 5 = .ok (.putfield 331, 3) := by decide +kernel
theorem dX11_outdate_8 : decode cX11_outdate 8 = .ok (.aload_n 0, 1) := by decide +kernel
theorem dX11_outdate_9 : decode cX11_outdate 9 = .ok (.getfield 40, 3) := by decide +kernel
theorem dX11_outdate_12 : decode cX11_outdate 12 = .ok (.iconst 0, 1) := by decide +kernel
theorem dX11_outdate_13 : decode cX11_outdate 13 = .ok (.putfield 335, 3) := by decide +kernel
theorem dX11_outdate_16 : decode cX11_outdate 16 = .ok (.aload_n 0, 1) := by decide +kernel
theorem dX11_outdate_17 : decode cX11_outdate 17 = .ok (.getfield 54, 3) := by decide +kernel
theorem dX11_outdate_20 : decode cX11_outdate 20 = .ok (.iconst 0, 1) := by decide +kernel
theorem dX11_outdate_21 : decode cX11_outdate 21 = .ok (.putfield 336, 3) := by decide +kernel
theorem dX11_outdate_24 : decode cX11_outdate 24 = .ok (.aload_n 0, 1) := by decide +kernel
theorem dX11_outdate_25 : decode cX11_outdate 25 = .ok (.getfield 61, 3) := by decide +kernel
theorem dX11_outdate_28 : decode cX11_outdate 28 = .ok (.iconst 0, 1) := by decide +kernel
theorem dX11_outdate_29 : decode cX11_outdate 29 = .ok (.putfield 337, 3) := by decide +kernel
theorem dX11_outdate_32 : decode cX11_outdate 32 = .ok (.return_, 1) := by decide +kernel
def J_X11_outdate (st : z_St) : Option (z_St) :=
  z_g (0 = 0 ∨ 0 = 1) <|
  z_let (z_up st 99 4 0) fun st1 =>
  z_g (0 = 0 ∨ 0 = 1) <|
  z_let (z_up st1 134 9 0) fun st2 =>
  z_g (0 = 0 ∨ 0 = 1) <|
  z_let (z_up st2 144 5 0) fun st3 =>
  z_g (0 = 0 ∨ 0 = 1) <|
  z_let (z_up st3 148 3 0) fun st4 =>
  some st4
set_option maxRecDepth 100000 in
set_option maxHeartbeats 4000000 in
theorem w_X11_outdate {κ : zK} {a : Nat → Nat} {st : z_St} {o : z_St} (hc : z_C κ RX11 cX11_outdate 1 8 0 0) (hap : z_AP κ a z_N) (he : z_E 2 κ none z_T z_N a 0 o) (h : J_X11_outdate st = some o) : z_V κ z_T z_N a 0 0 0 [(0, .ref (a 0))] [] st := by
  unfold J_X11_outdate at h
  refine z_aload_n (i := 0) 0 hc dX11_outdate_0 rfl rfl ?_
  refine z_getA (k' := 99) hc fl_RX11_33 tT_0 (by decide) rfl rfl dX11_outdate_1 ?_
  refine z_iconst hc dX11_outdate_4 ?_
  refine z_putZ (kI := 99) (jI := 4) hc hap fp_RX11_331 tT_99 (by decide) rfl rfl rfl dX11_outdate_5 h (fun st1 h => ?_)
  refine z_aload_n (i := 0) 0 hc dX11_outdate_8 rfl rfl ?_
  refine z_getA (k' := 134) hc fl_RX11_40 tT_0 (by decide) rfl rfl dX11_outdate_9 ?_
  refine z_iconst hc dX11_outdate_12 ?_
  refine z_putZ (kI := 134) (jI := 9) hc hap fp_RX11_335 tT_134 (by decide) rfl rfl rfl dX11_outdate_13 h (fun st2 h => ?_)
  refine z_aload_n (i := 0) 0 hc dX11_outdate_16 rfl rfl ?_
  refine z_getA (k' := 144) hc fl_RX11_54 tT_0 (by decide) rfl rfl dX11_outdate_17 ?_
  refine z_iconst hc dX11_outdate_20 ?_
  refine z_putZ (kI := 144) (jI := 5) hc hap fp_RX11_336 tT_144 (by decide) rfl rfl rfl dX11_outdate_21 h (fun st3 h => ?_)
  refine z_aload_n (i := 0) 0 hc dX11_outdate_24 rfl rfl ?_
  refine z_getA (k' := 148) hc fl_RX11_61 tT_0 (by decide) rfl rfl dX11_outdate_25 ?_
  refine z_iconst hc dX11_outdate_28 ?_
  refine z_putZ (kI := 148) (jI := 3) hc hap fp_RX11_337 tT_148 (by decide) rfl rfl rfl dX11_outdate_29 h (fun st4 h => ?_)
  have h := Option.some.inj h
  subst h
  exact z_retV hc he dX11_outdate_32
set_option maxRecDepth 100000 in
set_option maxHeartbeats 4000000 in
theorem c_X11_outdate {l : Launch} (hl : l.stackTraces = false) {a : Nat → Nat} {st : z_St} {o : z_St} (h : J_X11_outdate st = some o) : z_M 2 l yX11_outdate cX11_outdate 1 none 8 z_T z_N a [.ref (a 0)] st 0 o := z_of hl (by decide +kernel) (Nat.le_of_ble_eq_true rfl) (fun κ hc hap he => w_X11_outdate hc hap he h)
theorem dX11_frame_0 : decode cX11_frame 0 = .ok (.iload_n 1, 1) := by decide +kernel
theorem dX11_frame_1 : decode cX11_frame 1 = .ok (.iload_n 2, 1) := by decide +kernel
theorem dX11_frame_2 : decode cX11_frame 2 = .ok (.iload_n 3, 1) := by decide +kernel
theorem dX11_frame_3 : decode cX11_frame 3 = .ok (.invokestatic 80, 3) := by decide +kernel
theorem dX11_frame_6 : decode cX11_frame 6 = .ok (.aload_n 0, 1) := by decide +kernel
theorem dX11_frame_7 : decode cX11_frame 7 = .ok (.getfield 12, 3) := by decide +kernel
theorem dX11_frame_10 : decode cX11_frame 10 = .ok (.getfield 84, 3) := by decide +kernel
theorem dX11_frame_13 : decode cX11_frame 13 = .ok (.bipush 16, 2) := by decide +kernel
theorem dX11_frame_15 : decode cX11_frame 15 = .ok (.if_icmp .lt 13, 3) := by decide +kernel
theorem dX11_frame_18 : decode cX11_frame 18 = .ok (.new 88, 3) := by decide +kernel
theorem dX11_frame_21 : decode cX11_frame 21 = .ok (.dup, 1) := by decide +kernel
theorem dX11_frame_22 : decode cX11_frame 22 = .ok (.ldc 90, 2) := by decide +kernel
theorem dX11_frame_24 : decode cX11_frame 24 = .ok (.invokespecial 92, 3) := by decide +kernel
theorem dX11_frame_27 : decode cX11_frame 27 = .ok (.athrow, 1) := by decide +kernel
theorem dX11_frame_28 : decode cX11_frame 28 = .ok (.aload_n 0, 1) := by decide +kernel
theorem dX11_frame_29 : decode cX11_frame 29 = .ok (.getfield 12, 3) := by decide +kernel
theorem dX11_frame_32 : decode cX11_frame 32 = .ok (.getfield 95, 3) := by decide +kernel
theorem dX11_frame_35 : decode cX11_frame 35 = .ok (.aload_n 0, 1) := by decide +kernel
theorem dX11_frame_36 : decode cX11_frame 36 = .ok (.getfield 12, 3) := by decide +kernel
theorem dX11_frame_39 : decode cX11_frame 39 = .ok (.getfield 84, 3) := by decide +kernel
theorem dX11_frame_42 : decode cX11_frame 42 = .ok (.aaload, 1) := by decide +kernel
theorem dX11_frame_43 : decode cX11_frame 43 = .ok (.iload_n 1, 1) := by decide +kernel
theorem dX11_frame_44 : decode cX11_frame 44 = .ok (.iload_n 2, 1) := by decide +kernel
theorem dX11_frame_45 : decode cX11_frame 45 = .ok (.iload_n 3, 1) := by decide +kernel
theorem dX11_frame_46 : decode cX11_frame 46 = .ok (.invokestatic 98, 3) := by decide +kernel
theorem dX11_frame_49 : decode cX11_frame 49 = .ok (.aload_n 0, 1) := by decide +kernel
theorem dX11_frame_50 : decode cX11_frame 50 = .ok (.getfield 12, 3) := by decide +kernel
theorem dX11_frame_53 : decode cX11_frame 53 = .ok (.dup, 1) := by decide +kernel
theorem dX11_frame_54 : decode cX11_frame 54 = .ok (.getfield 84, 3) := by decide +kernel
theorem dX11_frame_57 : decode cX11_frame 57 = .ok (.iconst 1, 1) := by decide +kernel
theorem dX11_frame_58 : decode cX11_frame 58 = .ok (.iadd, 1) := by decide +kernel
theorem dX11_frame_59 : decode cX11_frame 59 = .ok (.putfield 84, 3) := by decide +kernel
theorem dX11_frame_62 : decode cX11_frame 62 = .ok (.aload_n 0, 1) := by decide +kernel
theorem dX11_frame_63 : decode cX11_frame 63 = .ok (.invokevirtual 102, 3) := by decide +kernel
theorem dX11_frame_66 : decode cX11_frame 66 = .ok (.aload_n 0, 1) := by decide +kernel
theorem dX11_frame_67 : decode cX11_frame 67 = .ok (.getfield 12, 3) := by decide +kernel
theorem dX11_frame_70 : decode cX11_frame 70 = .ok (.getfield 84, 3) := by decide +kernel
theorem dX11_frame_73 : decode cX11_frame 73 = .ok (.ireturn, 1) := by decide +kernel
def J_X11_frame (x1 x2 x3 : Int) (st : z_St) : Option (z_R (Int × z_St)) :=
  z_x (J_X11_checkTriple x1 x2 x3 st) fun _ =>
    z_g (z32 (st 1 2) ∧ z32 16) (if st 1 2 < 16 then
      z_g (0 ≤ st 1 2 ∧ st 1 2 < 16) <|
      z_b (J_X11_setTriple (3 + (st 1 2)) x1 x2 x3 st) fun st5 =>
      z_let (z_up st5 1 2 ((st5 1 2) + 1)) fun st6 =>
      z_b (J_X11_outdate st6) fun st8 =>
      some (.inl (st8 1 2, st8))
    else
      some (.inr (2, st)))
set_option maxRecDepth 100000 in
set_option maxHeartbeats 4000000 in
theorem w_X11_frame {κ : zK} {a : Nat → Nat} {x1 x2 x3 : Int} {st : z_St} {o : z_R (Int × z_St)} (hc : z_C κ RX11 cX11_frame 4 10 (z_mc o) (z_ms o)) (hap : z_AP κ a z_N) (he : z_EX 0 κ (some .int) z_T z_N a o) (h : J_X11_frame x1 x2 x3 st = some o) : z_V κ z_T z_N a 0 0 0 [(0, .ref (a 0)), (1, .int (zI x1)), (2, .int (zI x2)), (3, .int (zI x3))] [] st := by
  unfold J_X11_frame at h
  refine z_iload_n (i := 1) 1 hc dX11_frame_0 rfl rfl ?_
  refine z_iload_n (i := 2) 2 hc dX11_frame_1 rfl rfl ?_
  refine z_iload_n (i := 3) 3 hc dX11_frame_2 rfl rfl ?_
  rcases z_x_cases h with ⟨u9, hr1, h⟩ | ⟨q9, hr1, h⟩
  · refine z_xcallSV [.int (zI x1), .int (zI x2), .int (zI x3)] hc hap o_X11_checkTriple ml_RX11_80 (fun l hl => c_X11_checkTriple_r hl  hr1) (by decide) rfl rfl (Nat.le_of_ble_eq_true rfl) (Nat.zero_le _) (Nat.zero_le _) dX11_frame_3 ?_
    refine z_aload_n (i := 0) 0 hc dX11_frame_6 rfl rfl ?_
    refine z_getA (k' := 1) hc fl_RX11_12 tT_0 (by decide) rfl rfl dX11_frame_7 ?_
    refine z_getI (kI := 1) (jI := 2) hc fl_RX11_84 tT_1 (by decide) rfl rfl rfl dX11_frame_10 ?_
    refine z_bipush hc dX11_frame_13 rfl ?_
    refine z_icmp_lt (tgt := 28) hc dX11_frame_15 (by decide) h (fun c15 h => ?_) (fun c15 h => ?_)
    · refine z_aload_n (i := 0) 0 hc dX11_frame_28 rfl rfl ?_
      refine z_getA (k' := 1) hc fl_RX11_12 tT_0 (by decide) rfl rfl dX11_frame_29 ?_
      refine z_getA (k' := 2) hc fl_RX11_95 tT_1 (by decide) rfl rfl dX11_frame_32 ?_
      refine z_aload_n (i := 0) 0 hc dX11_frame_35 rfl rfl ?_
      refine z_getA (k' := 1) hc fl_RX11_12 tT_0 (by decide) rfl rfl dX11_frame_36 ?_
      refine z_getI (kI := 1) (jI := 2) hc fl_RX11_84 tT_1 (by decide) rfl rfl rfl dX11_frame_39 ?_
      refine z_aald (r := 3 + (st 1 2)) (nI9 := 16) hc tT_2 (by decide) (by decide) rfl (by decide) (fun j9 hj9 => by omega) dX11_frame_42 h (fun g3 h => ?_)
      refine z_iload_n (i := 1) 1 hc dX11_frame_43 rfl rfl ?_
      refine z_iload_n (i := 2) 2 hc dX11_frame_44 rfl rfl ?_
      refine z_iload_n (i := 3) 3 hc dX11_frame_45 rfl rfl ?_
      obtain ⟨st5, hr4, h⟩ := z_b_some h
      refine z_callSV [.ref (a ((3 + (st 1 2)).toNat)), .int (zI x1), .int (zI x2), .int (zI x3)] hc hap o_X11_setTriple ml_RX11_98 (fun l hl => c_X11_setTriple hl (z_row_2 g3) hr4) (by decide) rfl rfl (Nat.le_of_ble_eq_true rfl) (Nat.zero_le _) (Nat.zero_le _) dX11_frame_46 ?_
      refine z_aload_n (i := 0) 0 hc dX11_frame_49 rfl rfl ?_
      refine z_getA (k' := 1) hc fl_RX11_12 tT_0 (by decide) rfl rfl dX11_frame_50 ?_
      refine z_dup hc dX11_frame_53 rfl ?_
      refine z_getI (kI := 1) (jI := 2) hc fl_RX11_84 tT_1 (by decide) rfl rfl rfl dX11_frame_54 ?_
      refine z_iconst hc dX11_frame_57 ?_
      refine z_iadd hc dX11_frame_58 ?_
      refine z_putI (kI := 1) (jI := 2) hc hap fp_RX11_84 tT_1 (by decide) rfl rfl rfl dX11_frame_59 h (fun st6 h => ?_)
      refine z_aload_n (i := 0) 0 hc dX11_frame_62 rfl rfl ?_
      obtain ⟨st8, hr7, h⟩ := z_b_some h
      refine z_callVV [] hc hap o_X11_outdate ml_RX11_102 (fun l hl => c_X11_outdate hl  hr7) (by decide) tT_0 (by decide) ⟨_, rfl, rfl⟩ rfl rfl (Nat.le_of_ble_eq_true rfl) (Nat.zero_le _) (Nat.zero_le _) dX11_frame_63 ?_
      refine z_aload_n (i := 0) 0 hc dX11_frame_66 rfl rfl ?_
      refine z_getA (k' := 1) hc fl_RX11_12 tT_0 (by decide) rfl rfl dX11_frame_67 ?_
      refine z_getI (kI := 1) (jI := 2) hc fl_RX11_84 tT_1 (by decide) rfl rfl rfl dX11_frame_70 ?_
      have h := Option.some.inj h
      subst h
      exact z_retXI hc he rfl dX11_frame_73
    · have h := Option.some.inj h
      subst h
      exact z_throw (text := "there are 16 frames") hc he rfl hap oT_RX11_88 (by decide +kernel) (by decide) (Nat.le_of_ble_eq_true rfl) dX11_frame_18 dX11_frame_21 dX11_frame_22 dX11_frame_24 dX11_frame_27
  · obtain ⟨e9, st9⟩ := q9
    subst h
    refine z_xthrS (kd := 2) [.int (zI x1), .int (zI x2), .int (zI x3)] hc hap o_X11_checkTriple ml_RX11_80 (fun l hl => c_X11_checkTriple_t hl  hr1) (by decide) rfl rfl (Nat.le_of_ble_eq_true rfl) (Nat.le_refl 1) (Nat.le_refl 6) dX11_frame_3 (z_outX hc he rfl)
set_option maxRecDepth 100000 in
set_option maxHeartbeats 4000000 in
theorem c_X11_frame {l : Launch} (hl : l.stackTraces = false) {a : Nat → Nat} {x1 x2 x3 : Int} {st : z_St} {o : z_R (Int × z_St)} (h : J_X11_frame x1 x2 x3 st = some o) : z_MX 0 l yX11_frame cX11_frame 4 (some .int) 10 z_T z_N a [.ref (a 0), .int (zI x1), .int (zI x2), .int (zI x3)] st o := z_ofX hl (by decide +kernel) (Nat.le_of_ble_eq_true rfl) (fun κ hc hap he => w_X11_frame hc hap he h)
theorem c_X11_frame_r {l : Launch} (hl : l.stackTraces = false) {a : Nat → Nat} {x1 x2 x3 : Int} {st : z_St} {v9 : Int × z_St} (h : J_X11_frame x1 x2 x3 st = some (.inl v9)) : z_MX 0 l yX11_frame cX11_frame 4 (some .int) 10 z_T z_N a [.ref (a 0), .int (zI x1), .int (zI x2), .int (zI x3)] st (.inl v9) := by
  have h9 := c_X11_frame (a := a) (o := .inl v9) hl h
  exact h9
theorem c_X11_frame_t {l : Launch} (hl : l.stackTraces = false) {a : Nat → Nat} {x1 x2 x3 : Int} {st : z_St} {e9 : Nat} {st9 : z_St} (h : J_X11_frame x1 x2 x3 st = some (.inr (e9, st9))) : z_MX 0 l yX11_frame cX11_frame 4 (some .int) 10 z_T z_N a [.ref (a 0), .int (zI x1), .int (zI x2), .int (zI x3)] st (.inr (e9, st9)) := by
  have h9 := c_X11_frame (a := a) (o := .inr (e9, st9)) hl h
  exact h9
theorem dX11_silence_0 : decode cX11_silence 0 = .ok (.aload_n 0, 1) := by decide +kernel
theorem dX11_silence_1 : decode cX11_silence 1 = .ok (.getfield 12, 3) := by decide +kernel
theorem dX11_silence_4 : decode cX11_silence 4 = .ok (.getfield 84, 3) := by decide +kernel
theorem dX11_silence_7 : decode cX11_silence 7 = .ok (.istore_n 1, 1) := by decide +kernel
theorem dX11_silence_8 : decode cX11_silence 8 = .ok (.aload_n 0, 1) := by decide +kernel
theorem dX11_silence_9 : decode cX11_silence 9 = .ok (.getfield 12, 3) := by decide +kernel
theorem dX11_silence_12 : decode cX11_silence 12 = .ok (.iconst 0, 1) := by decide +kernel
theorem dX11_silence_13 : decode cX11_silence 13 = .ok (.putfield 84, 3) := by decide +kernel
theorem dX11_silence_16 : decode cX11_silence 16 = .ok (.aload_n 0, 1) := by decide +kernel
theorem dX11_silence_17 : decode cX11_silence 17 = .ok (.invokevirtual 102, 3) := by decide +kernel
theorem dX11_silence_20 : decode cX11_silence 20 = .ok (.iload_n 1, 1) := by decide +kernel
theorem dX11_silence_21 : decode cX11_silence 21 = .ok (.ireturn, 1) := by decide +kernel
def J_X11_silence (st : z_St) : Option (Int × z_St) :=
  z_let (z_up st 1 2 0) fun st1 =>
  z_b (J_X11_outdate st1) fun st3 =>
  some (st 1 2, st3)
set_option maxRecDepth 100000 in
set_option maxHeartbeats 4000000 in
theorem w_X11_silence {κ : zK} {a : Nat → Nat} {st : z_St} {o : Int × z_St} (hc : z_C κ RX11 cX11_silence 2 9 0 0) (hap : z_AP κ a z_N) (he : z_E 0 κ (some .int) z_T z_N a o.1 o.2) (h : J_X11_silence st = some o) : z_V κ z_T z_N a 0 0 0 [(0, .ref (a 0))] [] st := by
  unfold J_X11_silence at h
  refine z_aload_n (i := 0) 0 hc dX11_silence_0 rfl rfl ?_
  refine z_getA (k' := 1) hc fl_RX11_12 tT_0 (by decide) rfl rfl dX11_silence_1 ?_
  refine z_getI (kI := 1) (jI := 2) hc fl_RX11_84 tT_1 (by decide) rfl rfl rfl dX11_silence_4 ?_
  refine z_istore_n (i := 1) [(1, .int (zI (st 1 2))), (0, .ref (a 0))] hc dX11_silence_7 rfl (by decide) rfl ?_
  refine z_aload_n (i := 0) 1 hc dX11_silence_8 rfl rfl ?_
  refine z_getA (k' := 1) hc fl_RX11_12 tT_0 (by decide) rfl rfl dX11_silence_9 ?_
  refine z_iconst hc dX11_silence_12 ?_
  refine z_putI (kI := 1) (jI := 2) hc hap fp_RX11_84 tT_1 (by decide) rfl rfl rfl dX11_silence_13 h (fun st1 h => ?_)
  refine z_aload_n (i := 0) 1 hc dX11_silence_16 rfl rfl ?_
  obtain ⟨st3, hr2, h⟩ := z_b_some h
  refine z_callVV [] hc hap o_X11_outdate ml_RX11_102 (fun l hl => c_X11_outdate hl  hr2) (by decide) tT_0 (by decide) ⟨_, rfl, rfl⟩ rfl rfl (Nat.le_of_ble_eq_true rfl) (Nat.zero_le _) (Nat.zero_le _) dX11_silence_17 ?_
  refine z_iload_n (i := 1) 0 hc dX11_silence_20 rfl rfl ?_
  have h := Option.some.inj h
  subst h
  exact z_retI hc he dX11_silence_21
set_option maxRecDepth 100000 in
set_option maxHeartbeats 4000000 in
theorem c_X11_silence {l : Launch} (hl : l.stackTraces = false) {a : Nat → Nat} {st : z_St} {o : Int × z_St} (h : J_X11_silence st = some o) : z_M 0 l yX11_silence cX11_silence 2 (some .int) 9 z_T z_N a [.ref (a 0)] st o.1 o.2 := z_of hl (by decide +kernel) (Nat.le_of_ble_eq_true rfl) (fun κ hc hap he => w_X11_silence hc hap he h)
theorem dX11_checkIndex_0 : decode cX11_checkIndex 0 = .ok (.iload_n 0, 1) := by decide +kernel
theorem dX11_checkIndex_1 : decode cX11_checkIndex 1 = .ok (.ifCond .lt 8, 3) := by decide +kernel
theorem dX11_checkIndex_4 : decode cX11_checkIndex 4 = .ok (.iload_n 0, 1) := by decide +kernel
theorem dX11_checkIndex_5 : decode cX11_checkIndex 5 = .ok (.iload_n 1, 1) := by decide +kernel
theorem dX11_checkIndex_6 : decode cX11_checkIndex 6 = .ok (.if_icmp .lt 14, 3) := by decide +kernel
theorem dX11_checkIndex_9 : decode cX11_checkIndex 9 = .ok (.new 324, 3) := by decide +kernel
theorem dX11_checkIndex_12 : decode cX11_checkIndex 12 = .ok (.dup, 1) := by decide +kernel
theorem dX11_checkIndex_13 : decode cX11_checkIndex 13 = .ok (.ldc_w 326, 3) := by decide +kernel
theorem dX11_checkIndex_16 : decode cX11_checkIndex 16 = .ok (.invokespecial 328, 3) := by decide +kernel
theorem dX11_checkIndex_19 : decode cX11_checkIndex 19 = .ok (.athrow, 1) := by decide +kernel
theorem dX11_checkIndex_20 : decode cX11_checkIndex 20 = .ok (.return_, 1) := by decide +kernel
def J_X11_checkIndex_9 (st : z_St) : Option (z_R Unit) :=
  some (.inr (3, st))
set_option maxRecDepth 100000 in
set_option maxHeartbeats 4000000 in
theorem w_X11_checkIndex_9 {κ : zK} {a : Nat → Nat} {st : z_St} {o : z_R Unit} (hc : z_C κ RX11 cX11_checkIndex 2 8 (z_mc (z_cvU st o)) (z_ms (z_cvU st o))) (hap : z_AP κ a z_N) (he : z_EX 2 κ none z_T z_N a (z_cvU st o)) (h : J_X11_checkIndex_9 st = some o) : z_V κ z_T z_N a 0 0 9 [] [] st := by
  unfold J_X11_checkIndex_9 at h
  have h := Option.some.inj h
  subst h
  exact z_throwW (text := "there is no such one") hc he rfl hap oT_RX11_324 (by decide +kernel) (by decide) (Nat.le_of_ble_eq_true rfl) dX11_checkIndex_9 dX11_checkIndex_12 dX11_checkIndex_13 dX11_checkIndex_16 dX11_checkIndex_19
def J_X11_checkIndex (x0 x1 : Int) (st : z_St) : Option (z_R Unit) :=
  z_g (z32 x0) (if x0 < 0 then
    J_X11_checkIndex_9 st
  else
    z_g (z32 x0 ∧ z32 x1) (if x0 < x1 then
      some (.inl ())
    else
      J_X11_checkIndex_9 st))
set_option maxRecDepth 100000 in
set_option maxHeartbeats 4000000 in
theorem w_X11_checkIndex {κ : zK} {a : Nat → Nat} {x0 x1 : Int} {st : z_St} {o : z_R Unit} (hc : z_C κ RX11 cX11_checkIndex 2 8 (z_mc (z_cvU st o)) (z_ms (z_cvU st o))) (hap : z_AP κ a z_N) (he : z_EX 2 κ none z_T z_N a (z_cvU st o)) (h : J_X11_checkIndex x0 x1 st = some o) : z_V κ z_T z_N a 0 0 0 [(0, .int (zI x0)), (1, .int (zI x1))] [] st := by
  unfold J_X11_checkIndex at h
  refine z_iload_n (i := 0) 0 hc dX11_checkIndex_0 rfl rfl ?_
  refine z_if_lt (tgt := 9) hc dX11_checkIndex_1 (by decide) h (fun c1 h => ?_) (fun c1 h => ?_)
  · refine z_sub [] [] rfl ?_
    exact w_X11_checkIndex_9 hc hap he h
  · refine z_iload_n (i := 0) 0 hc dX11_checkIndex_4 rfl rfl ?_
    refine z_iload_n (i := 1) 1 hc dX11_checkIndex_5 rfl rfl ?_
    refine z_icmp_lt (tgt := 20) hc dX11_checkIndex_6 (by decide) h (fun c6 h => ?_) (fun c6 h => ?_)
    · have h := Option.some.inj h
      subst h
      exact z_retXV hc he rfl dX11_checkIndex_20
    · refine z_sub [] [] rfl ?_
      exact w_X11_checkIndex_9 hc hap he h
set_option maxRecDepth 100000 in
set_option maxHeartbeats 4000000 in
theorem c_X11_checkIndex {l : Launch} (hl : l.stackTraces = false) {a : Nat → Nat} {x0 x1 : Int} {st : z_St} {o : z_R Unit} (h : J_X11_checkIndex x0 x1 st = some o) : z_MX 2 l yX11_checkIndex cX11_checkIndex 2 none 8 z_T z_N a [.int (zI x0), .int (zI x1)] st (z_cvU st o) := z_ofX hl (by decide +kernel) (Nat.le_of_ble_eq_true rfl) (fun κ hc hap he => w_X11_checkIndex hc hap he h)
theorem c_X11_checkIndex_r {l : Launch} (hl : l.stackTraces = false) {a : Nat → Nat} {x0 x1 : Int} {st : z_St} {v9 : Unit} (h : J_X11_checkIndex x0 x1 st = some (.inl v9)) : z_MX 2 l yX11_checkIndex cX11_checkIndex 2 none 8 z_T z_N a [.int (zI x0), .int (zI x1)] st (.inl (0, st)) := by
  have h9 := c_X11_checkIndex (a := a) (o := .inl v9) hl h
  exact h9
theorem c_X11_checkIndex_t {l : Launch} (hl : l.stackTraces = false) {a : Nat → Nat} {x0 x1 : Int} {st : z_St} {e9 : Nat} {st9 : z_St} (h : J_X11_checkIndex x0 x1 st = some (.inr (e9, st9))) : z_MX 2 l yX11_checkIndex cX11_checkIndex 2 none 8 z_T z_N a [.int (zI x0), .int (zI x1)] st (.inr (e9, st9)) := by
  have h9 := c_X11_checkIndex (a := a) (o := .inr (e9, st9)) hl h
  exact h9
theorem dX11_speak_0 : decode cX11_speak 0 = .ok (.iload_n 1, 1) := by decide +kernel
theorem dX11_speak_1 : decode cX11_speak 1 = .ok (.iconst 4, 1) := by decide +kernel
theorem dX11_speak_2 : decode cX11_speak 2 = .ok (.invokestatic 105, 3) := by decide +kernel
theorem dX11_speak_5 : decode cX11_speak 5 = .ok (.aload_n 0, 1) := by decide +kernel
theorem dX11_speak_6 : decode cX11_speak 6 = .ok (.getfield 12, 3) := by decide +kernel
theorem dX11_speak_9 : decode cX11_speak 9 = .ok (.getfield 109, 3) := by decide +kernel
theorem dX11_speak_12 : decode cX11_speak 12 = .ok (.istore_n 2, 1) := by decide +kernel
theorem dX11_speak_13 : decode cX11_speak 13 = .ok (.aload_n 0, 1) := by decide +kernel
theorem dX11_speak_14 : decode cX11_speak 14 = .ok (.getfield 12, 3) := by decide +kernel
theorem dX11_speak_17 : decode cX11_speak 17 = .ok (.iload_n 1, 1) := by decide +kernel
theorem dX11_speak_18 : decode cX11_speak 18 = .ok (.putfield 109, 3) := by decide +kernel
theorem dX11_speak_21 : decode cX11_speak 21 = .ok (.aload_n 0, 1) := by decide +kernel
theorem dX11_speak_22 : decode cX11_speak 22 = .ok (.invokevirtual 102, 3) := by decide +kernel
theorem dX11_speak_25 : decode cX11_speak 25 = .ok (.iload_n 2, 1) := by decide +kernel
theorem dX11_speak_26 : decode cX11_speak 26 = .ok (.ireturn, 1) := by decide +kernel
def J_X11_speak (x1 : Int) (st : z_St) : Option (z_R (Int × z_St)) :=
  z_x (J_X11_checkIndex x1 4 st) fun _ =>
    z_let (z_up st 1 3 x1) fun st3 =>
    z_b (J_X11_outdate st3) fun st5 =>
    some (.inl (st 1 3, st5))
set_option maxRecDepth 100000 in
set_option maxHeartbeats 4000000 in
theorem w_X11_speak {κ : zK} {a : Nat → Nat} {x1 : Int} {st : z_St} {o : z_R (Int × z_St)} (hc : z_C κ RX11 cX11_speak 3 9 (z_mc o) (z_ms o)) (hap : z_AP κ a z_N) (he : z_EX 0 κ (some .int) z_T z_N a o) (h : J_X11_speak x1 st = some o) : z_V κ z_T z_N a 0 0 0 [(0, .ref (a 0)), (1, .int (zI x1))] [] st := by
  unfold J_X11_speak at h
  refine z_iload_n (i := 1) 1 hc dX11_speak_0 rfl rfl ?_
  refine z_iconst hc dX11_speak_1 ?_
  rcases z_x_cases h with ⟨u9, hr1, h⟩ | ⟨q9, hr1, h⟩
  · refine z_xcallSV [.int (zI x1), .int (zI 4)] hc hap o_X11_checkIndex ml_RX11_105 (fun l hl => c_X11_checkIndex_r hl  hr1) (by decide) rfl rfl (Nat.le_of_ble_eq_true rfl) (Nat.zero_le _) (Nat.zero_le _) dX11_speak_2 ?_
    refine z_aload_n (i := 0) 0 hc dX11_speak_5 rfl rfl ?_
    refine z_getA (k' := 1) hc fl_RX11_12 tT_0 (by decide) rfl rfl dX11_speak_6 ?_
    refine z_getI (kI := 1) (jI := 3) hc fl_RX11_109 tT_1 (by decide) rfl rfl rfl dX11_speak_9 ?_
    refine z_istore_n (i := 2) [(2, .int (zI (st 1 3))), (0, .ref (a 0)), (1, .int (zI x1))] hc dX11_speak_12 rfl (by decide) rfl ?_
    refine z_aload_n (i := 0) 1 hc dX11_speak_13 rfl rfl ?_
    refine z_getA (k' := 1) hc fl_RX11_12 tT_0 (by decide) rfl rfl dX11_speak_14 ?_
    refine z_iload_n (i := 1) 2 hc dX11_speak_17 rfl rfl ?_
    refine z_putI (kI := 1) (jI := 3) hc hap fp_RX11_109 tT_1 (by decide) rfl rfl rfl dX11_speak_18 h (fun st3 h => ?_)
    refine z_aload_n (i := 0) 1 hc dX11_speak_21 rfl rfl ?_
    obtain ⟨st5, hr4, h⟩ := z_b_some h
    refine z_callVV [] hc hap o_X11_outdate ml_RX11_102 (fun l hl => c_X11_outdate hl  hr4) (by decide) tT_0 (by decide) ⟨_, rfl, rfl⟩ rfl rfl (Nat.le_of_ble_eq_true rfl) (Nat.zero_le _) (Nat.zero_le _) dX11_speak_22 ?_
    refine z_iload_n (i := 2) 0 hc dX11_speak_25 rfl rfl ?_
    have h := Option.some.inj h
    subst h
    exact z_retXI hc he rfl dX11_speak_26
  · obtain ⟨e9, st9⟩ := q9
    subst h
    refine z_xthrS (kd := 2) [.int (zI x1), .int (zI 4)] hc hap o_X11_checkIndex ml_RX11_105 (fun l hl => c_X11_checkIndex_t hl  hr1) (by decide) rfl rfl (Nat.le_of_ble_eq_true rfl) (Nat.le_refl 1) (Nat.le_refl 6) dX11_speak_2 (z_outX hc he rfl)
set_option maxRecDepth 100000 in
set_option maxHeartbeats 4000000 in
theorem c_X11_speak {l : Launch} (hl : l.stackTraces = false) {a : Nat → Nat} {x1 : Int} {st : z_St} {o : z_R (Int × z_St)} (h : J_X11_speak x1 st = some o) : z_MX 0 l yX11_speak cX11_speak 3 (some .int) 9 z_T z_N a [.ref (a 0), .int (zI x1)] st o := z_ofX hl (by decide +kernel) (Nat.le_of_ble_eq_true rfl) (fun κ hc hap he => w_X11_speak hc hap he h)
theorem c_X11_speak_r {l : Launch} (hl : l.stackTraces = false) {a : Nat → Nat} {x1 : Int} {st : z_St} {v9 : Int × z_St} (h : J_X11_speak x1 st = some (.inl v9)) : z_MX 0 l yX11_speak cX11_speak 3 (some .int) 9 z_T z_N a [.ref (a 0), .int (zI x1)] st (.inl v9) := by
  have h9 := c_X11_speak (a := a) (o := .inl v9) hl h
  exact h9
theorem c_X11_speak_t {l : Launch} (hl : l.stackTraces = false) {a : Nat → Nat} {x1 : Int} {st : z_St} {e9 : Nat} {st9 : z_St} (h : J_X11_speak x1 st = some (.inr (e9, st9))) : z_MX 0 l yX11_speak cX11_speak 3 (some .int) 9 z_T z_N a [.ref (a 0), .int (zI x1)] st (.inr (e9, st9)) := by
  have h9 := c_X11_speak (a := a) (o := .inr (e9, st9)) hl h
  exact h9
theorem dX11_shift_0 : decode cX11_shift 0 = .ok (.iload_n 1, 1) := by decide +kernel
theorem dX11_shift_1 : decode cX11_shift 1 = .ok (.iconst 4, 1) := by decide +kernel
theorem dX11_shift_2 : decode cX11_shift 2 = .ok (.invokestatic 105, 3) := by decide +kernel
theorem dX11_shift_5 : decode cX11_shift 5 = .ok (.iload_n 2, 1) := by decide +kernel
theorem dX11_shift_6 : decode cX11_shift 6 = .ok (.iconst 0, 1) := by decide +kernel
theorem dX11_shift_7 : decode cX11_shift 7 = .ok (.iconst 2, 1) := by decide +kernel
theorem dX11_shift_8 : decode cX11_shift 8 = .ok (.invokestatic 112, 3) := by decide +kernel
theorem dX11_shift_11 : decode cX11_shift 11 = .ok (.iload_n 3, 1) := by decide +kernel
theorem dX11_shift_12 : decode cX11_shift 12 = .ok (.sipush (-30000), 3) := by decide +kernel
theorem dX11_shift_15 : decode cX11_shift 15 = .ok (.sipush 30000, 3) := by decide +kernel
theorem dX11_shift_18 : decode cX11_shift 18 = .ok (.invokestatic 112, 3) := by decide +kernel
theorem dX11_shift_21 : decode cX11_shift 21 = .ok (.aload_n 0, 1) := by decide +kernel
theorem dX11_shift_22 : decode cX11_shift 22 = .ok (.getfield 12, 3) := by decide +kernel
theorem dX11_shift_25 : decode cX11_shift 25 = .ok (.getfield 115, 3) := by decide +kernel
theorem dX11_shift_28 : decode cX11_shift 28 = .ok (.iload_n 1, 1) := by decide +kernel
theorem dX11_shift_29 : decode cX11_shift 29 = .ok (.aaload, 1) := by decide +kernel
theorem dX11_shift_30 : decode cX11_shift 30 = .ok (.iload_n 2, 1) := by decide +kernel
theorem dX11_shift_31 : decode cX11_shift 31 = .ok (.iaload, 1) := by decide +kernel
theorem dX11_shift_32 : decode cX11_shift 32 = .ok (.istore 4, 2) := by decide +kernel
theorem dX11_shift_34 : decode cX11_shift 34 = .ok (.aload_n 0, 1) := by decide +kernel
theorem dX11_shift_35 : decode cX11_shift 35 = .ok (.getfield 12, 3) := by decide +kernel
theorem dX11_shift_38 : decode cX11_shift 38 = .ok (.getfield 115, 3) := by decide +kernel
theorem dX11_shift_41 : decode cX11_shift 41 = .ok (.iload_n 1, 1) := by decide +kernel
theorem dX11_shift_42 : decode cX11_shift 42 = .ok (.aaload, 1) := by decide +kernel
theorem dX11_shift_43 : decode cX11_shift 43 = .ok (.iload_n 2, 1) := by decide +kernel
theorem dX11_shift_44 : decode cX11_shift 44 = .ok (.iload_n 3, 1) := by decide +kernel
theorem dX11_shift_45 : decode cX11_shift 45 = .ok (.iastore, 1) := by decide +kernel
theorem dX11_shift_46 : decode cX11_shift 46 = .ok (.aload_n 0, 1) := by decide +kernel
theorem dX11_shift_47 : decode cX11_shift 47 = .ok (.invokevirtual 102, 3) := by decide +kernel
theorem dX11_shift_50 : decode cX11_shift 50 = .ok (.iload 4, 2) := by decide +kernel
theorem dX11_shift_52 : decode cX11_shift 52 = .ok (.ireturn, 1) := by decide +kernel
def J_X11_shift (x1 x2 x3 : Int) (st : z_St) : Option (z_R (Int × z_St)) :=
  z_x (J_X11_checkIndex x1 4 st) fun _ =>
    z_x (J_X11_checkRange x2 0 2 st) fun _ =>
      z_x (J_X11_checkRange x3 (-30000) 30000 st) fun _ =>
        z_g (0 ≤ x1 ∧ x1 < 4) <|
        z_g (0 ≤ x2 ∧ x2 < 3) <|
        z_g (0 ≤ x1 ∧ x1 < 4) <|
        z_g (0 ≤ x2 ∧ x2 < 3) <|
        z_let (z_up st (20 + x1) x2 x3) fun st10 =>
        z_b (J_X11_outdate st10) fun st12 =>
        some (.inl (st (20 + x1) x2, st12))
set_option maxRecDepth 100000 in
set_option maxHeartbeats 4000000 in
theorem w_X11_shift {κ : zK} {a : Nat → Nat} {x1 x2 x3 : Int} {st : z_St} {o : z_R (Int × z_St)} (hc : z_C κ RX11 cX11_shift 5 9 (z_mc o) (z_ms o)) (hap : z_AP κ a z_N) (he : z_EX 0 κ (some .int) z_T z_N a o) (h : J_X11_shift x1 x2 x3 st = some o) : z_V κ z_T z_N a 0 0 0 [(0, .ref (a 0)), (1, .int (zI x1)), (2, .int (zI x2)), (3, .int (zI x3))] [] st := by
  unfold J_X11_shift at h
  refine z_iload_n (i := 1) 1 hc dX11_shift_0 rfl rfl ?_
  refine z_iconst hc dX11_shift_1 ?_
  rcases z_x_cases h with ⟨u9, hr1, h⟩ | ⟨q9, hr1, h⟩
  · refine z_xcallSV [.int (zI x1), .int (zI 4)] hc hap o_X11_checkIndex ml_RX11_105 (fun l hl => c_X11_checkIndex_r hl  hr1) (by decide) rfl rfl (Nat.le_of_ble_eq_true rfl) (Nat.zero_le _) (Nat.zero_le _) dX11_shift_2 ?_
    refine z_iload_n (i := 2) 2 hc dX11_shift_5 rfl rfl ?_
    refine z_iconst hc dX11_shift_6 ?_
    refine z_iconst hc dX11_shift_7 ?_
    rcases z_x_cases h with ⟨u9, hr3, h⟩ | ⟨q9, hr3, h⟩
    · refine z_xcallSV [.int (zI x2), .int (zI 0), .int (zI 2)] hc hap o_X11_checkRange ml_RX11_112 (fun l hl => c_X11_checkRange_r hl  hr3) (by decide) rfl rfl (Nat.le_of_ble_eq_true rfl) (Nat.zero_le _) (Nat.zero_le _) dX11_shift_8 ?_
      refine z_iload_n (i := 3) 3 hc dX11_shift_11 rfl rfl ?_
      refine z_sipush hc dX11_shift_12 rfl ?_
      refine z_sipush hc dX11_shift_15 rfl ?_
      rcases z_x_cases h with ⟨u9, hr5, h⟩ | ⟨q9, hr5, h⟩
      · refine z_xcallSV [.int (zI x3), .int (zI (-30000)), .int (zI 30000)] hc hap o_X11_checkRange ml_RX11_112 (fun l hl => c_X11_checkRange_r hl  hr5) (by decide) rfl rfl (Nat.le_of_ble_eq_true rfl) (Nat.zero_le _) (Nat.zero_le _) dX11_shift_18 ?_
        refine z_aload_n (i := 0) 0 hc dX11_shift_21 rfl rfl ?_
        refine z_getA (k' := 1) hc fl_RX11_12 tT_0 (by decide) rfl rfl dX11_shift_22 ?_
        refine z_getA (k' := 19) hc fl_RX11_115 tT_1 (by decide) rfl rfl dX11_shift_25 ?_
        refine z_iload_n (i := 1) 1 hc dX11_shift_28 rfl rfl ?_
        refine z_aald (r := 20 + x1) (nI9 := 4) hc tT_19 (by decide) (by decide) rfl (by decide) (fun j9 hj9 => by omega) dX11_shift_29 h (fun g7 h => ?_)
        refine z_iload_n (i := 2) 2 hc dX11_shift_30 rfl rfl ?_
        refine z_iald (kI := 20 + x1) (nI9 := 3) hc (z_row_19 g7).2.2 (z_row_19 g7).2.1 (Int.toNat_of_nonneg (z_row_19 g7).1) rfl (by decide) dX11_shift_31 h (fun g8 h => ?_)
        refine z_istore [(4, .int (zI (st (20 + x1) x2))), (0, .ref (a 0)), (1, .int (zI x1)), (2, .int (zI x2)), (3, .int (zI x3))] hc dX11_shift_32 (by decide) rfl ?_
        refine z_aload_n (i := 0) 1 hc dX11_shift_34 rfl rfl ?_
        refine z_getA (k' := 1) hc fl_RX11_12 tT_0 (by decide) rfl rfl dX11_shift_35 ?_
        refine z_getA (k' := 19) hc fl_RX11_115 tT_1 (by decide) rfl rfl dX11_shift_38 ?_
        refine z_iload_n (i := 1) 2 hc dX11_shift_41 rfl rfl ?_
        refine z_aald (r := 20 + x1) (nI9 := 4) hc tT_19 (by decide) (by decide) rfl (by decide) (fun j9 hj9 => by omega) dX11_shift_42 h (fun g9 h => ?_)
        refine z_iload_n (i := 2) 3 hc dX11_shift_43 rfl rfl ?_
        refine z_iload_n (i := 3) 4 hc dX11_shift_44 rfl rfl ?_
        refine z_iast (kI := 20 + x1) (nI9 := 3) hc hap (z_row_19 g9).2.2 (z_row_19 g9).2.1 (Int.toNat_of_nonneg (z_row_19 g9).1) rfl (by decide) dX11_shift_45 h (fun st10 h => ?_)
        refine z_aload_n (i := 0) 1 hc dX11_shift_46 rfl rfl ?_
        obtain ⟨st12, hr11, h⟩ := z_b_some h
        refine z_callVV [] hc hap o_X11_outdate ml_RX11_102 (fun l hl => c_X11_outdate hl  hr11) (by decide) tT_0 (by decide) ⟨_, rfl, rfl⟩ rfl rfl (Nat.le_of_ble_eq_true rfl) (Nat.zero_le _) (Nat.zero_le _) dX11_shift_47 ?_
        refine z_iload 0 hc dX11_shift_50 rfl ?_
        have h := Option.some.inj h
        subst h
        exact z_retXI hc he rfl dX11_shift_52
      · obtain ⟨e9, st9⟩ := q9
        subst h
        refine z_xthrS (kd := 2) [.int (zI x3), .int (zI (-30000)), .int (zI 30000)] hc hap o_X11_checkRange ml_RX11_112 (fun l hl => c_X11_checkRange_t hl  hr5) (by decide) rfl rfl (Nat.le_of_ble_eq_true rfl) (Nat.le_refl 1) (Nat.le_refl 6) dX11_shift_18 (z_outX hc he rfl)
    · obtain ⟨e9, st9⟩ := q9
      subst h
      refine z_xthrS (kd := 2) [.int (zI x2), .int (zI 0), .int (zI 2)] hc hap o_X11_checkRange ml_RX11_112 (fun l hl => c_X11_checkRange_t hl  hr3) (by decide) rfl rfl (Nat.le_of_ble_eq_true rfl) (Nat.le_refl 1) (Nat.le_refl 6) dX11_shift_8 (z_outX hc he rfl)
  · obtain ⟨e9, st9⟩ := q9
    subst h
    refine z_xthrS (kd := 2) [.int (zI x1), .int (zI 4)] hc hap o_X11_checkIndex ml_RX11_105 (fun l hl => c_X11_checkIndex_t hl  hr1) (by decide) rfl rfl (Nat.le_of_ble_eq_true rfl) (Nat.le_refl 1) (Nat.le_refl 6) dX11_shift_2 (z_outX hc he rfl)
set_option maxRecDepth 100000 in
set_option maxHeartbeats 4000000 in
theorem c_X11_shift {l : Launch} (hl : l.stackTraces = false) {a : Nat → Nat} {x1 x2 x3 : Int} {st : z_St} {o : z_R (Int × z_St)} (h : J_X11_shift x1 x2 x3 st = some o) : z_MX 0 l yX11_shift cX11_shift 5 (some .int) 9 z_T z_N a [.ref (a 0), .int (zI x1), .int (zI x2), .int (zI x3)] st o := z_ofX hl (by decide +kernel) (Nat.le_of_ble_eq_true rfl) (fun κ hc hap he => w_X11_shift hc hap he h)
theorem c_X11_shift_r {l : Launch} (hl : l.stackTraces = false) {a : Nat → Nat} {x1 x2 x3 : Int} {st : z_St} {v9 : Int × z_St} (h : J_X11_shift x1 x2 x3 st = some (.inl v9)) : z_MX 0 l yX11_shift cX11_shift 5 (some .int) 9 z_T z_N a [.ref (a 0), .int (zI x1), .int (zI x2), .int (zI x3)] st (.inl v9) := by
  have h9 := c_X11_shift (a := a) (o := .inl v9) hl h
  exact h9
theorem c_X11_shift_t {l : Launch} (hl : l.stackTraces = false) {a : Nat → Nat} {x1 x2 x3 : Int} {st : z_St} {e9 : Nat} {st9 : z_St} (h : J_X11_shift x1 x2 x3 st = some (.inr (e9, st9))) : z_MX 0 l yX11_shift cX11_shift 5 (some .int) 9 z_T z_N a [.ref (a 0), .int (zI x1), .int (zI x2), .int (zI x3)] st (.inr (e9, st9)) := by
  have h9 := c_X11_shift (a := a) (o := .inr (e9, st9)) hl h
  exact h9
theorem dX11_shiftOf_0 : decode cX11_shiftOf 0 = .ok (.iload_n 1, 1) := by decide +kernel
theorem dX11_shiftOf_1 : decode cX11_shiftOf 1 = .ok (.iconst 4, 1) := by decide +kernel
theorem dX11_shiftOf_2 : decode cX11_shiftOf 2 = .ok (.invokestatic 105, 3) := by decide +kernel
theorem dX11_shiftOf_5 : decode cX11_shiftOf 5 = .ok (.iload_n 2, 1) := by decide +kernel
theorem dX11_shiftOf_6 : decode cX11_shiftOf 6 = .ok (.iconst 0, 1) := by decide +kernel
theorem dX11_shiftOf_7 : decode cX11_shiftOf 7 = .ok (.iconst 2, 1) := by decide +kernel
theorem dX11_shiftOf_8 : decode cX11_shiftOf 8 = .ok (.invokestatic 112, 3) := by decide +kernel
theorem dX11_shiftOf_11 : decode cX11_shiftOf 11 = .ok (.aload_n 0, 1) := by decide +kernel
theorem dX11_shiftOf_12 : decode cX11_shiftOf 12 = .ok (.getfield 12, 3) := by decide +kernel
theorem dX11_shiftOf_15 : decode cX11_shiftOf 15 = .ok (.getfield 115, 3) := by decide +kernel
theorem dX11_shiftOf_18 : decode cX11_shiftOf 18 = .ok (.iload_n 1, 1) := by decide +kernel
theorem dX11_shiftOf_19 : decode cX11_shiftOf 19 = .ok (.aaload, 1) := by decide +kernel
theorem dX11_shiftOf_20 : decode cX11_shiftOf 20 = .ok (.iload_n 2, 1) := by decide +kernel
theorem dX11_shiftOf_21 : decode cX11_shiftOf 21 = .ok (.iaload, 1) := by decide +kernel
theorem dX11_shiftOf_22 : decode cX11_shiftOf 22 = .ok (.ireturn, 1) := by decide +kernel
def J_X11_shiftOf (x1 x2 : Int) (st : z_St) : Option (z_R Int) :=
  z_x (J_X11_checkIndex x1 4 st) fun _ =>
    z_x (J_X11_checkRange x2 0 2 st) fun _ =>
      z_g (0 ≤ x1 ∧ x1 < 4) <|
      z_g (0 ≤ x2 ∧ x2 < 3) <|
      some (.inl (st (20 + x1) x2))
set_option maxRecDepth 100000 in
set_option maxHeartbeats 4000000 in
theorem w_X11_shiftOf {κ : zK} {a : Nat → Nat} {x1 x2 : Int} {st : z_St} {o : z_R Int} (hc : z_C κ RX11 cX11_shiftOf 3 9 (z_mc (z_cvR st o)) (z_ms (z_cvR st o))) (hap : z_AP κ a z_N) (he : z_EX 0 κ (some .int) z_T z_N a (z_cvR st o)) (h : J_X11_shiftOf x1 x2 st = some o) : z_V κ z_T z_N a 0 0 0 [(0, .ref (a 0)), (1, .int (zI x1)), (2, .int (zI x2))] [] st := by
  unfold J_X11_shiftOf at h
  refine z_iload_n (i := 1) 1 hc dX11_shiftOf_0 rfl rfl ?_
  refine z_iconst hc dX11_shiftOf_1 ?_
  rcases z_x_cases h with ⟨u9, hr1, h⟩ | ⟨q9, hr1, h⟩
  · refine z_xcallSV [.int (zI x1), .int (zI 4)] hc hap o_X11_checkIndex ml_RX11_105 (fun l hl => c_X11_checkIndex_r hl  hr1) (by decide) rfl rfl (Nat.le_of_ble_eq_true rfl) (Nat.zero_le _) (Nat.zero_le _) dX11_shiftOf_2 ?_
    refine z_iload_n (i := 2) 2 hc dX11_shiftOf_5 rfl rfl ?_
    refine z_iconst hc dX11_shiftOf_6 ?_
    refine z_iconst hc dX11_shiftOf_7 ?_
    rcases z_x_cases h with ⟨u9, hr3, h⟩ | ⟨q9, hr3, h⟩
    · refine z_xcallSV [.int (zI x2), .int (zI 0), .int (zI 2)] hc hap o_X11_checkRange ml_RX11_112 (fun l hl => c_X11_checkRange_r hl  hr3) (by decide) rfl rfl (Nat.le_of_ble_eq_true rfl) (Nat.zero_le _) (Nat.zero_le _) dX11_shiftOf_8 ?_
      refine z_aload_n (i := 0) 0 hc dX11_shiftOf_11 rfl rfl ?_
      refine z_getA (k' := 1) hc fl_RX11_12 tT_0 (by decide) rfl rfl dX11_shiftOf_12 ?_
      refine z_getA (k' := 19) hc fl_RX11_115 tT_1 (by decide) rfl rfl dX11_shiftOf_15 ?_
      refine z_iload_n (i := 1) 1 hc dX11_shiftOf_18 rfl rfl ?_
      refine z_aald (r := 20 + x1) (nI9 := 4) hc tT_19 (by decide) (by decide) rfl (by decide) (fun j9 hj9 => by omega) dX11_shiftOf_19 h (fun g5 h => ?_)
      refine z_iload_n (i := 2) 2 hc dX11_shiftOf_20 rfl rfl ?_
      refine z_iald (kI := 20 + x1) (nI9 := 3) hc (z_row_19 g5).2.2 (z_row_19 g5).2.1 (Int.toNat_of_nonneg (z_row_19 g5).1) rfl (by decide) dX11_shiftOf_21 h (fun g6 h => ?_)
      have h := Option.some.inj h
      subst h
      exact z_retXI hc he rfl dX11_shiftOf_22
    · obtain ⟨e9, st9⟩ := q9
      subst h
      refine z_xthrS (kd := 2) [.int (zI x2), .int (zI 0), .int (zI 2)] hc hap o_X11_checkRange ml_RX11_112 (fun l hl => c_X11_checkRange_t hl  hr3) (by decide) rfl rfl (Nat.le_of_ble_eq_true rfl) (Nat.le_refl 1) (Nat.le_refl 6) dX11_shiftOf_8 (z_outX hc he rfl)
  · obtain ⟨e9, st9⟩ := q9
    subst h
    refine z_xthrS (kd := 2) [.int (zI x1), .int (zI 4)] hc hap o_X11_checkIndex ml_RX11_105 (fun l hl => c_X11_checkIndex_t hl  hr1) (by decide) rfl rfl (Nat.le_of_ble_eq_true rfl) (Nat.le_refl 1) (Nat.le_refl 6) dX11_shiftOf_2 (z_outX hc he rfl)
set_option maxRecDepth 100000 in
set_option maxHeartbeats 4000000 in
theorem c_X11_shiftOf {l : Launch} (hl : l.stackTraces = false) {a : Nat → Nat} {x1 x2 : Int} {st : z_St} {o : z_R Int} (h : J_X11_shiftOf x1 x2 st = some o) : z_MX 0 l yX11_shiftOf cX11_shiftOf 3 (some .int) 9 z_T z_N a [.ref (a 0), .int (zI x1), .int (zI x2)] st (z_cvR st o) := z_ofX hl (by decide +kernel) (Nat.le_of_ble_eq_true rfl) (fun κ hc hap he => w_X11_shiftOf hc hap he h)
theorem c_X11_shiftOf_r {l : Launch} (hl : l.stackTraces = false) {a : Nat → Nat} {x1 x2 : Int} {st : z_St} {v9 : Int} (h : J_X11_shiftOf x1 x2 st = some (.inl v9)) : z_MX 0 l yX11_shiftOf cX11_shiftOf 3 (some .int) 9 z_T z_N a [.ref (a 0), .int (zI x1), .int (zI x2)] st (.inl (v9, st)) := by
  have h9 := c_X11_shiftOf (a := a) (o := .inl v9) hl h
  exact h9
theorem c_X11_shiftOf_t {l : Launch} (hl : l.stackTraces = false) {a : Nat → Nat} {x1 x2 : Int} {st : z_St} {e9 : Nat} {st9 : z_St} (h : J_X11_shiftOf x1 x2 st = some (.inr (e9, st9))) : z_MX 0 l yX11_shiftOf cX11_shiftOf 3 (some .int) 9 z_T z_N a [.ref (a 0), .int (zI x1), .int (zI x2)] st (.inr (e9, st9)) := by
  have h9 := c_X11_shiftOf (a := a) (o := .inr (e9, st9)) hl h
  exact h9
theorem dX11_readyRows_0 : decode cX11_readyRows 0 = .ok (.aload_n 0, 1) := by decide +kernel
theorem dX11_readyRows_1 : decode cX11_readyRows 1 = .ok (.getfield 33, 3) := by decide +kernel
theorem dX11_readyRows_4 : decode cX11_readyRows 4 = .ok (.getfield 331, 3) := by decide +kernel
theorem dX11_readyRows_7 : decode cX11_readyRows 7 = .ok (.ifCond .ne 22, 3) := by decide +kernel
theorem dX11_readyRows_10 : decode cX11_readyRows 10 = .ok (.aload_n 0, 1) := by decide +kernel
theorem dX11_readyRows_11 : decode cX11_readyRows 11 = .ok (.getfield 33, 3) := by decide +kernel
theorem dX11_readyRows_14 : decode cX11_readyRows 14 = .ok (.aload_n 0, 1) := by decide +kernel
theorem dX11_readyRows_15 : decode cX11_readyRows 15 = .ok (.getfield 12, 3) := by decide +kernel
theorem dX11_readyRows_18 : decode cX11_readyRows 18 = .ok (.aload_n 0, 1) := by decide +kernel
theorem dX11_readyRows_19 : decode cX11_readyRows 19 = .ok (.getfield 19, 3) := by decide +kernel
theorem dX11_readyRows_22 : decode cX11_readyRows 22 = .ok (.aload_n 0, 1) := by decide +kernel
theorem dX11_readyRows_23 : decode cX11_readyRows 23 = .ok (.getfield 26, 3) := by decide +kernel
theorem dX11_readyRows_26 : decode cX11_readyRows 26 = .ok (.invokevirtual 338, 3) := by decide +kernel
theorem dX11_readyRows_29 : decode cX11_readyRows 29 = .ok (.aload_n 0, 1) := by decide +kernel
theorem dX11_readyRows_30 : decode cX11_readyRows 30 = .ok (.getfield 40, 3) := by decide +kernel
theorem dX11_readyRows_33 : decode cX11_readyRows 33 = .ok (.getfield 335, 3) := by decide +kernel
theorem dX11_readyRows_36 : decode cX11_readyRows 36 = .ok (.ifCond .ne 28, 3) := by decide +kernel
theorem dX11_readyRows_39 : decode cX11_readyRows 39 = .ok (.aload_n 0, 1) := by decide +kernel
theorem dX11_readyRows_40 : decode cX11_readyRows 40 = .ok (.getfield 40, 3) := by decide +kernel
theorem dX11_readyRows_43 : decode cX11_readyRows 43 = .ok (.aload_n 0, 1) := by decide +kernel
theorem dX11_readyRows_44 : decode cX11_readyRows 44 = .ok (.getfield 33, 3) := by decide +kernel
theorem dX11_readyRows_47 : decode cX11_readyRows 47 = .ok (.aload_n 0, 1) := by decide +kernel
theorem dX11_readyRows_48 : decode cX11_readyRows 48 = .ok (.getfield 19, 3) := by decide +kernel
theorem dX11_readyRows_51 : decode cX11_readyRows 51 = .ok (.getfield 186, 3) := by decide +kernel
theorem dX11_readyRows_54 : decode cX11_readyRows 54 = .ok (.aload_n 0, 1) := by decide +kernel
theorem dX11_readyRows_55 : decode cX11_readyRows 55 = .ok (.getfield 12, 3) := by decide +kernel
theorem dX11_readyRows_58 : decode cX11_readyRows 58 = .ok (.getfield 84, 3) := by decide +kernel
theorem dX11_readyRows_61 : decode cX11_readyRows 61 = .ok (.invokevirtual 342, 3) := by decide +kernel
theorem dX11_readyRows_64 : decode cX11_readyRows 64 = .ok (.return_, 1) := by decide +kernel
def J_X11_readyRows_64 (st : z_St) : Option (z_St) :=
  some st
set_option maxRecDepth 100000 in
set_option maxHeartbeats 4000000 in
theorem w_X11_readyRows_64 {κ : zK} {a : Nat → Nat} {st : z_St} {o : z_St} (hc : z_C κ RX11 cX11_readyRows 1 12 0 0) (hap : z_AP κ a z_N) (he : z_E 2 κ none z_T z_N a 0 o) (h : J_X11_readyRows_64 st = some o) : z_V κ z_T z_N a 0 0 64 [] [] st := by
  unfold J_X11_readyRows_64 at h
  have h := Option.some.inj h
  subst h
  exact z_retV hc he dX11_readyRows_64
def J_X11_readyRows_29 (st : z_St) : Option (z_St) :=
  z_g (z32 (st 134 9)) (if st 134 9 = 0 then
    z_b (J_X5_fill (st 24 4) (st 1 2) st) fun st4 =>
    J_X11_readyRows_64 st4
  else
    J_X11_readyRows_64 st)
set_option maxRecDepth 100000 in
set_option maxHeartbeats 4000000 in
theorem w_X11_readyRows_29 {κ : zK} {a : Nat → Nat} {st : z_St} {o : z_St} (hc : z_C κ RX11 cX11_readyRows 1 12 0 0) (hap : z_AP κ a z_N) (he : z_E 2 κ none z_T z_N a 0 o) (h : J_X11_readyRows_29 st = some o) : z_V κ z_T z_N a 0 0 29 [(0, .ref (a 0))] [] st := by
  unfold J_X11_readyRows_29 at h
  refine z_aload_n (i := 0) 0 hc dX11_readyRows_29 rfl rfl ?_
  refine z_getA (k' := 134) hc fl_RX11_40 tT_0 (by decide) rfl rfl dX11_readyRows_30 ?_
  refine z_getZ (kI := 134) (jI := 9) hc fl_RX11_335 tT_134 (by decide) rfl rfl rfl dX11_readyRows_33 ?_
  refine z_if_ne (tgt := 64) hc dX11_readyRows_36 (by decide) h (fun c36 h => ?_) (fun c36 h => ?_)
  · refine z_aload_n (i := 0) 0 hc dX11_readyRows_39 rfl rfl ?_
    refine z_getA (k' := 134) hc fl_RX11_40 tT_0 (by decide) rfl rfl dX11_readyRows_40 ?_
    refine z_aload_n (i := 0) 0 hc dX11_readyRows_43 rfl rfl ?_
    refine z_getA (k' := 99) hc fl_RX11_33 tT_0 (by decide) rfl rfl dX11_readyRows_44 ?_
    refine z_aload_n (i := 0) 0 hc dX11_readyRows_47 rfl rfl ?_
    refine z_getA (k' := 24) hc fl_RX11_19 tT_0 (by decide) rfl rfl dX11_readyRows_48 ?_
    refine z_getI (kI := 24) (jI := 4) hc fl_RX11_186 tT_24 (by decide) rfl rfl rfl dX11_readyRows_51 ?_
    refine z_aload_n (i := 0) 0 hc dX11_readyRows_54 rfl rfl ?_
    refine z_getA (k' := 1) hc fl_RX11_12 tT_0 (by decide) rfl rfl dX11_readyRows_55 ?_
    refine z_getI (kI := 1) (jI := 2) hc fl_RX11_84 tT_1 (by decide) rfl rfl rfl dX11_readyRows_58 ?_
    obtain ⟨st4, hr3, h⟩ := z_b_some h
    refine z_callVV [.ref (a 99), .int (zI (st 24 4)), .int (zI (st 1 2))] hc hap o_X5_fill ml_RX11_342 (fun l hl => c_X5_fill hl  hr3) (by decide) tT_134 (by decide) ⟨_, rfl, rfl⟩ rfl rfl (Nat.le_of_ble_eq_true rfl) (Nat.zero_le _) (Nat.zero_le _) dX11_readyRows_61 ?_
    refine z_sub [] [] rfl ?_
    exact w_X11_readyRows_64 hc hap he h
  · refine z_sub [] [] rfl ?_
    exact w_X11_readyRows_64 hc hap he h
def J_X11_readyRows (st : z_St) : Option (z_St) :=
  z_g (z32 (st 99 4)) (if st 99 4 = 0 then
    z_b (J_X0_fill st) fun st2 =>
    J_X11_readyRows_29 st2
  else
    J_X11_readyRows_29 st)
set_option maxRecDepth 100000 in
set_option maxHeartbeats 4000000 in
theorem w_X11_readyRows {κ : zK} {a : Nat → Nat} {st : z_St} {o : z_St} (hc : z_C κ RX11 cX11_readyRows 1 12 0 0) (hap : z_AP κ a z_N) (he : z_E 2 κ none z_T z_N a 0 o) (h : J_X11_readyRows st = some o) : z_V κ z_T z_N a 0 0 0 [(0, .ref (a 0))] [] st := by
  unfold J_X11_readyRows at h
  refine z_aload_n (i := 0) 0 hc dX11_readyRows_0 rfl rfl ?_
  refine z_getA (k' := 99) hc fl_RX11_33 tT_0 (by decide) rfl rfl dX11_readyRows_1 ?_
  refine z_getZ (kI := 99) (jI := 4) hc fl_RX11_331 tT_99 (by decide) rfl rfl rfl dX11_readyRows_4 ?_
  refine z_if_ne (tgt := 29) hc dX11_readyRows_7 (by decide) h (fun c7 h => ?_) (fun c7 h => ?_)
  · refine z_aload_n (i := 0) 0 hc dX11_readyRows_10 rfl rfl ?_
    refine z_getA (k' := 99) hc fl_RX11_33 tT_0 (by decide) rfl rfl dX11_readyRows_11 ?_
    refine z_aload_n (i := 0) 0 hc dX11_readyRows_14 rfl rfl ?_
    refine z_getA (k' := 1) hc fl_RX11_12 tT_0 (by decide) rfl rfl dX11_readyRows_15 ?_
    refine z_aload_n (i := 0) 0 hc dX11_readyRows_18 rfl rfl ?_
    refine z_getA (k' := 24) hc fl_RX11_19 tT_0 (by decide) rfl rfl dX11_readyRows_19 ?_
    refine z_aload_n (i := 0) 0 hc dX11_readyRows_22 rfl rfl ?_
    refine z_getA (k' := 89) hc fl_RX11_26 tT_0 (by decide) rfl rfl dX11_readyRows_23 ?_
    obtain ⟨st2, hr1, h⟩ := z_b_some h
    refine z_callVV [.ref (a 1), .ref (a 24), .ref (a 89)] hc hap o_X0_fill ml_RX11_338 (fun l hl => c_X0_fill hl  hr1) (by decide) tT_99 (by decide) ⟨_, rfl, rfl⟩ rfl rfl (Nat.le_of_ble_eq_true rfl) (Nat.zero_le _) (Nat.zero_le _) dX11_readyRows_26 ?_
    refine z_sub [(0, .ref (a 0))] [0] rfl ?_
    exact w_X11_readyRows_29 hc hap he h
  · refine z_sub [(0, .ref (a 0))] [0] rfl ?_
    exact w_X11_readyRows_29 hc hap he h
set_option maxRecDepth 100000 in
set_option maxHeartbeats 4000000 in
theorem c_X11_readyRows {l : Launch} (hl : l.stackTraces = false) {a : Nat → Nat} {st : z_St} {o : z_St} (h : J_X11_readyRows st = some o) : z_M 2 l yX11_readyRows cX11_readyRows 1 none 12 z_T z_N a [.ref (a 0)] st 0 o := z_of hl (by decide +kernel) (Nat.le_of_ble_eq_true rfl) (fun κ hc hap he => w_X11_readyRows hc hap he h)
theorem dX11_checkBest_0 : decode cX11_checkBest 0 = .ok (.aload_n 0, 1) := by decide +kernel
theorem dX11_checkBest_1 : decode cX11_checkBest 1 = .ok (.invokevirtual 141, 3) := by decide +kernel
theorem dX11_checkBest_4 : decode cX11_checkBest 4 = .ok (.aload_n 0, 1) := by decide +kernel
theorem dX11_checkBest_5 : decode cX11_checkBest 5 = .ok (.getfield 40, 3) := by decide +kernel
theorem dX11_checkBest_8 : decode cX11_checkBest 8 = .ok (.getfield 316, 3) := by decide +kernel
theorem dX11_checkBest_11 : decode cX11_checkBest 11 = .ok (.ifCond .ne 14, 3) := by decide +kernel
theorem dX11_checkBest_14 : decode cX11_checkBest 14 = .ok (.new 88, 3) := by decide +kernel
theorem dX11_checkBest_17 : decode cX11_checkBest 17 = .ok (.dup, 1) := by decide +kernel
theorem dX11_checkBest_18 : decode cX11_checkBest 18 = .ok (.ldc_w 329, 3) := by decide +kernel
theorem dX11_checkBest_21 : decode cX11_checkBest 21 = .ok (.invokespecial 92, 3) := by decide +kernel
theorem dX11_checkBest_24 : decode cX11_checkBest 24 = .ok (.athrow, 1) := by decide +kernel
theorem dX11_checkBest_25 : decode cX11_checkBest 25 = .ok (.return_, 1) := by decide +kernel
def J_X11_checkBest (st : z_St) : Option (z_R z_St) :=
  z_b (J_X11_readyRows st) fun st2 =>
  z_g (z32 (st2 134 7)) (if st2 134 7 = 0 then
    some (.inr (2, st2))
  else
    some (.inl st2))
set_option maxRecDepth 100000 in
set_option maxHeartbeats 4000000 in
theorem w_X11_checkBest {κ : zK} {a : Nat → Nat} {st : z_St} {o : z_R z_St} (hc : z_C κ RX11 cX11_checkBest 1 13 (z_mc (z_cvS o)) (z_ms (z_cvS o))) (hap : z_AP κ a z_N) (he : z_EX 2 κ none z_T z_N a (z_cvS o)) (h : J_X11_checkBest st = some o) : z_V κ z_T z_N a 0 0 0 [(0, .ref (a 0))] [] st := by
  unfold J_X11_checkBest at h
  refine z_aload_n (i := 0) 0 hc dX11_checkBest_0 rfl rfl ?_
  obtain ⟨st2, hr1, h⟩ := z_b_some h
  refine z_callVV [] hc hap o_X11_readyRows ml_RX11_141 (fun l hl => c_X11_readyRows hl  hr1) (by decide) tT_0 (by decide) ⟨_, rfl, rfl⟩ rfl rfl (Nat.le_of_ble_eq_true rfl) (Nat.zero_le _) (Nat.zero_le _) dX11_checkBest_1 ?_
  refine z_aload_n (i := 0) 0 hc dX11_checkBest_4 rfl rfl ?_
  refine z_getA (k' := 134) hc fl_RX11_40 tT_0 (by decide) rfl rfl dX11_checkBest_5 ?_
  refine z_getI (kI := 134) (jI := 7) hc fl_RX11_316 tT_134 (by decide) rfl rfl rfl dX11_checkBest_8 ?_
  refine z_if_ne (tgt := 25) hc dX11_checkBest_11 (by decide) h (fun c11 h => ?_) (fun c11 h => ?_)
  · have h := Option.some.inj h
    subst h
    exact z_throwW (text := "there is no best row") hc he rfl hap oT_RX11_88 (by decide +kernel) (by decide) (Nat.le_of_ble_eq_true rfl) dX11_checkBest_14 dX11_checkBest_17 dX11_checkBest_18 dX11_checkBest_21 dX11_checkBest_24
  · have h := Option.some.inj h
    subst h
    exact z_retXV hc he rfl dX11_checkBest_25
set_option maxRecDepth 100000 in
set_option maxHeartbeats 4000000 in
theorem c_X11_checkBest {l : Launch} (hl : l.stackTraces = false) {a : Nat → Nat} {st : z_St} {o : z_R z_St} (h : J_X11_checkBest st = some o) : z_MX 2 l yX11_checkBest cX11_checkBest 1 none 13 z_T z_N a [.ref (a 0)] st (z_cvS o) := z_ofX hl (by decide +kernel) (Nat.le_of_ble_eq_true rfl) (fun κ hc hap he => w_X11_checkBest hc hap he h)
theorem c_X11_checkBest_r {l : Launch} (hl : l.stackTraces = false) {a : Nat → Nat} {st : z_St} {v9 : z_St} (h : J_X11_checkBest st = some (.inl v9)) : z_MX 2 l yX11_checkBest cX11_checkBest 1 none 13 z_T z_N a [.ref (a 0)] st (.inl (0, v9)) := by
  have h9 := c_X11_checkBest (a := a) (o := .inl v9) hl h
  exact h9
theorem c_X11_checkBest_t {l : Launch} (hl : l.stackTraces = false) {a : Nat → Nat} {st : z_St} {e9 : Nat} {st9 : z_St} (h : J_X11_checkBest st = some (.inr (e9, st9))) : z_MX 2 l yX11_checkBest cX11_checkBest 1 none 13 z_T z_N a [.ref (a 0)] st (.inr (e9, st9)) := by
  have h9 := c_X11_checkBest (a := a) (o := .inr (e9, st9)) hl h
  exact h9
theorem dX11_readyTrack_0 : decode cX11_readyTrack 0 = .ok (.aload_n 0, 1) := by decide +kernel
theorem dX11_readyTrack_1 : decode cX11_readyTrack 1 = .ok (.invokevirtual 141, 3) := by decide +kernel
theorem dX11_readyTrack_4 : decode cX11_readyTrack 4 = .ok (.aload_n 0, 1) := by decide +kernel
theorem dX11_readyTrack_5 : decode cX11_readyTrack 5 = .ok (.getfield 61, 3) := by decide +kernel
theorem dX11_readyTrack_8 : decode cX11_readyTrack 8 = .ok (.getfield 337, 3) := by decide +kernel
theorem dX11_readyTrack_11 : decode cX11_readyTrack 11 = .ok (.ifCond .ne 44, 3) := by decide +kernel
theorem dX11_readyTrack_14 : decode cX11_readyTrack 14 = .ok (.aload_n 0, 1) := by decide +kernel
theorem dX11_readyTrack_15 : decode cX11_readyTrack 15 = .ok (.getfield 72, 3) := by decide +kernel
theorem dX11_readyTrack_18 : decode cX11_readyTrack 18 = .ok (.aload_n 0, 1) := by decide +kernel
theorem dX11_readyTrack_19 : decode cX11_readyTrack 19 = .ok (.getfield 40, 3) := by decide +kernel
theorem dX11_readyTrack_22 : decode cX11_readyTrack 22 = .ok (.iconst 0, 1) := by decide +kernel
theorem dX11_readyTrack_23 : decode cX11_readyTrack 23 = .ok (.invokevirtual 270, 3) := by decide +kernel
theorem dX11_readyTrack_26 : decode cX11_readyTrack 26 = .ok (.invokevirtual 231, 3) := by decide +kernel
theorem dX11_readyTrack_29 : decode cX11_readyTrack 29 = .ok (.aload_n 0, 1) := by decide +kernel
theorem dX11_readyTrack_30 : decode cX11_readyTrack 30 = .ok (.getfield 61, 3) := by decide +kernel
theorem dX11_readyTrack_33 : decode cX11_readyTrack 33 = .ok (.aload_n 0, 1) := by decide +kernel
theorem dX11_readyTrack_34 : decode cX11_readyTrack 34 = .ok (.getfield 72, 3) := by decide +kernel
theorem dX11_readyTrack_37 : decode cX11_readyTrack 37 = .ok (.aload_n 0, 1) := by decide +kernel
theorem dX11_readyTrack_38 : decode cX11_readyTrack 38 = .ok (.getfield 33, 3) := by decide +kernel
theorem dX11_readyTrack_41 : decode cX11_readyTrack 41 = .ok (.aload_n 0, 1) := by decide +kernel
theorem dX11_readyTrack_42 : decode cX11_readyTrack 42 = .ok (.getfield 19, 3) := by decide +kernel
theorem dX11_readyTrack_45 : decode cX11_readyTrack 45 = .ok (.aload_n 0, 1) := by decide +kernel
theorem dX11_readyTrack_46 : decode cX11_readyTrack 46 = .ok (.getfield 12, 3) := by decide +kernel
theorem dX11_readyTrack_49 : decode cX11_readyTrack 49 = .ok (.getfield 84, 3) := by decide +kernel
theorem dX11_readyTrack_52 : decode cX11_readyTrack 52 = .ok (.invokevirtual 348, 3) := by decide +kernel
theorem dX11_readyTrack_55 : decode cX11_readyTrack 55 = .ok (.return_, 1) := by decide +kernel
def J_X11_readyTrack_55 (st : z_St) : Option (z_St) :=
  some st
set_option maxRecDepth 100000 in
set_option maxHeartbeats 4000000 in
theorem w_X11_readyTrack_55 {κ : zK} {a : Nat → Nat} {st : z_St} {o : z_St} (hc : z_C κ RX11 cX11_readyTrack 1 13 0 0) (hap : z_AP κ a z_N) (he : z_E 2 κ none z_T z_N a 0 o) (h : J_X11_readyTrack_55 st = some o) : z_V κ z_T z_N a 0 0 55 [] [] st := by
  unfold J_X11_readyTrack_55 at h
  have h := Option.some.inj h
  subst h
  exact z_retV hc he dX11_readyTrack_55
def J_X11_readyTrack (st : z_St) : Option (z_St) :=
  z_b (J_X11_readyRows st) fun st2 =>
  z_g (z32 (st2 148 3)) (if st2 148 3 = 0 then
    z_b (J_X5_numberAt 0 st2) fun r3 =>
    z_b (J_X6_read 160 r3.1 r3.2) fun st6 =>
    z_b (J_X10_fill 160 (st6 1 2) st6) fun st8 =>
    J_X11_readyTrack_55 st8
  else
    J_X11_readyTrack_55 st2)
set_option maxRecDepth 100000 in
set_option maxHeartbeats 4000000 in
theorem w_X11_readyTrack {κ : zK} {a : Nat → Nat} {st : z_St} {o : z_St} (hc : z_C κ RX11 cX11_readyTrack 1 13 0 0) (hap : z_AP κ a z_N) (he : z_E 2 κ none z_T z_N a 0 o) (h : J_X11_readyTrack st = some o) : z_V κ z_T z_N a 0 0 0 [(0, .ref (a 0))] [] st := by
  unfold J_X11_readyTrack at h
  refine z_aload_n (i := 0) 0 hc dX11_readyTrack_0 rfl rfl ?_
  obtain ⟨st2, hr1, h⟩ := z_b_some h
  refine z_callVV [] hc hap o_X11_readyRows ml_RX11_141 (fun l hl => c_X11_readyRows hl  hr1) (by decide) tT_0 (by decide) ⟨_, rfl, rfl⟩ rfl rfl (Nat.le_of_ble_eq_true rfl) (Nat.zero_le _) (Nat.zero_le _) dX11_readyTrack_1 ?_
  refine z_aload_n (i := 0) 0 hc dX11_readyTrack_4 rfl rfl ?_
  refine z_getA (k' := 148) hc fl_RX11_61 tT_0 (by decide) rfl rfl dX11_readyTrack_5 ?_
  refine z_getZ (kI := 148) (jI := 3) hc fl_RX11_337 tT_148 (by decide) rfl rfl rfl dX11_readyTrack_8 ?_
  refine z_if_ne (tgt := 55) hc dX11_readyTrack_11 (by decide) h (fun c11 h => ?_) (fun c11 h => ?_)
  · refine z_aload_n (i := 0) 0 hc dX11_readyTrack_14 rfl rfl ?_
    refine z_getA (k' := 160) hc fl_RX11_72 tT_0 (by decide) rfl rfl dX11_readyTrack_15 ?_
    refine z_aload_n (i := 0) 0 hc dX11_readyTrack_18 rfl rfl ?_
    refine z_getA (k' := 134) hc fl_RX11_40 tT_0 (by decide) rfl rfl dX11_readyTrack_19 ?_
    refine z_iconst hc dX11_readyTrack_22 ?_
    obtain ⟨r3, hr3, h⟩ := z_b_some h
    refine z_callVI [.int (zI 0)] hc hap o_X5_numberAt ml_RX11_270 (fun l hl => c_X5_numberAt hl  hr3) (by decide) tT_134 (by decide) ⟨_, rfl, rfl⟩ rfl rfl (Nat.le_of_ble_eq_true rfl) (Nat.zero_le _) (Nat.zero_le _) dX11_readyTrack_23 ?_
    obtain ⟨st6, hr5, h⟩ := z_b_some h
    refine z_callVV [.int (zI r3.1)] hc hap o_X6_read ml_RX11_231 (fun l hl => c_X6_read hl (by decide) hr5) (by decide) tT_160 (by decide) ⟨_, rfl, rfl⟩ rfl rfl (Nat.le_of_ble_eq_true rfl) (Nat.zero_le _) (Nat.zero_le _) dX11_readyTrack_26 ?_
    refine z_aload_n (i := 0) 0 hc dX11_readyTrack_29 rfl rfl ?_
    refine z_getA (k' := 148) hc fl_RX11_61 tT_0 (by decide) rfl rfl dX11_readyTrack_30 ?_
    refine z_aload_n (i := 0) 0 hc dX11_readyTrack_33 rfl rfl ?_
    refine z_getA (k' := 160) hc fl_RX11_72 tT_0 (by decide) rfl rfl dX11_readyTrack_34 ?_
    refine z_aload_n (i := 0) 0 hc dX11_readyTrack_37 rfl rfl ?_
    refine z_getA (k' := 99) hc fl_RX11_33 tT_0 (by decide) rfl rfl dX11_readyTrack_38 ?_
    refine z_aload_n (i := 0) 0 hc dX11_readyTrack_41 rfl rfl ?_
    refine z_getA (k' := 24) hc fl_RX11_19 tT_0 (by decide) rfl rfl dX11_readyTrack_42 ?_
    refine z_aload_n (i := 0) 0 hc dX11_readyTrack_45 rfl rfl ?_
    refine z_getA (k' := 1) hc fl_RX11_12 tT_0 (by decide) rfl rfl dX11_readyTrack_46 ?_
    refine z_getI (kI := 1) (jI := 2) hc fl_RX11_84 tT_1 (by decide) rfl rfl rfl dX11_readyTrack_49 ?_
    obtain ⟨st8, hr7, h⟩ := z_b_some h
    refine z_callVV [.ref (a 160), .ref (a 99), .ref (a 24), .int (zI (st6 1 2))] hc hap o_X10_fill ml_RX11_348 (fun l hl => c_X10_fill hl (by decide) hr7) (by decide) tT_148 (by decide) ⟨_, rfl, rfl⟩ rfl rfl (Nat.le_of_ble_eq_true rfl) (Nat.zero_le _) (Nat.zero_le _) dX11_readyTrack_52 ?_
    refine z_sub [] [] rfl ?_
    exact w_X11_readyTrack_55 hc hap he h
  · refine z_sub [] [] rfl ?_
    exact w_X11_readyTrack_55 hc hap he h
set_option maxRecDepth 100000 in
set_option maxHeartbeats 4000000 in
theorem c_X11_readyTrack {l : Launch} (hl : l.stackTraces = false) {a : Nat → Nat} {st : z_St} {o : z_St} (h : J_X11_readyTrack st = some o) : z_M 2 l yX11_readyTrack cX11_readyTrack 1 none 13 z_T z_N a [.ref (a 0)] st 0 o := z_of hl (by decide +kernel) (Nat.le_of_ble_eq_true rfl) (fun κ hc hap he => w_X11_readyTrack hc hap he h)
theorem dJ9_floorDiv_f86c9_0 : decode cJ9_floorDiv_f86c9 0 = .ok (.lload_n 0, 1) := by decide +kernel
theorem dJ9_floorDiv_f86c9_1 : decode cJ9_floorDiv_f86c9 1 = .ok (.lload_n 2, 1) := by decide +kernel
theorem dJ9_floorDiv_f86c9_2 : decode cJ9_floorDiv_f86c9 2 = .ok (.ldiv, 1) := by decide +kernel
theorem dJ9_floorDiv_f86c9_3 : decode cJ9_floorDiv_f86c9 3 = .ok (.lstore 4, 2) := by decide +kernel
theorem dJ9_floorDiv_f86c9_5 : decode cJ9_floorDiv_f86c9 5 = .ok (.lload_n 0, 1) := by decide +kernel
theorem dJ9_floorDiv_f86c9_6 : decode cJ9_floorDiv_f86c9 6 = .ok (.lload_n 2, 1) := by decide +kernel
theorem dJ9_floorDiv_f86c9_7 : decode cJ9_floorDiv_f86c9 7 = .ok (.lxor, 1) := by decide +kernel
theorem dJ9_floorDiv_f86c9_8 : decode cJ9_floorDiv_f86c9 8 = .ok (.lconst 0, 1) := by decide +kernel
theorem dJ9_floorDiv_f86c9_9 : decode cJ9_floorDiv_f86c9 9 = .ok (.lcmp, 1) := by decide +kernel
theorem dJ9_floorDiv_f86c9_10 : decode cJ9_floorDiv_f86c9 10 = .ok (.ifCond .ge 17, 3) := by decide +kernel
theorem dJ9_floorDiv_f86c9_13 : decode cJ9_floorDiv_f86c9 13 = .ok (.lload 4, 2) := by decide +kernel
theorem dJ9_floorDiv_f86c9_15 : decode cJ9_floorDiv_f86c9 15 = .ok (.lload_n 2, 1) := by decide +kernel
theorem dJ9_floorDiv_f86c9_16 : decode cJ9_floorDiv_f86c9 16 = .ok (.lmul, 1) := by decide +kernel
theorem dJ9_floorDiv_f86c9_17 : decode cJ9_floorDiv_f86c9 17 = .ok (.lload_n 0, 1) := by decide +kernel
theorem dJ9_floorDiv_f86c9_18 : decode cJ9_floorDiv_f86c9 18 = .ok (.lcmp, 1) := by decide +kernel
theorem dJ9_floorDiv_f86c9_19 : decode cJ9_floorDiv_f86c9 19 = .ok (.ifCond .eq 8, 3) := by decide +kernel
theorem dJ9_floorDiv_f86c9_22 : decode cJ9_floorDiv_f86c9 22 = .ok (.lload 4, 2) := by decide +kernel
theorem dJ9_floorDiv_f86c9_24 : decode cJ9_floorDiv_f86c9 24 = .ok (.lconst 1, 1) := by decide +kernel
theorem dJ9_floorDiv_f86c9_25 : decode cJ9_floorDiv_f86c9 25 = .ok (.lsub, 1) := by decide +kernel
theorem dJ9_floorDiv_f86c9_26 : decode cJ9_floorDiv_f86c9 26 = .ok (.lreturn, 1) := by decide +kernel
theorem dJ9_floorDiv_f86c9_27 : decode cJ9_floorDiv_f86c9 27 = .ok (.lload 4, 2) := by decide +kernel
theorem dJ9_floorDiv_f86c9_29 : decode cJ9_floorDiv_f86c9 29 = .ok (.lreturn, 1) := by decide +kernel
def J_J9_floorDiv_f86c9_27 (v4 : Int) (st : z_St) : Option (Int) :=
  some v4
set_option maxRecDepth 100000 in
set_option maxHeartbeats 4000000 in
theorem w_J9_floorDiv_f86c9_27 {κ : zK} {a : Nat → Nat} {v4 : Int} {st : z_St} {o : Int} (hc : z_C κ RJ9 cJ9_floorDiv_f86c9 6 8 0 0) (hap : z_AP κ a z_N) (he : z_E 1 κ (some .long) z_T z_N a o st) (h : J_J9_floorDiv_f86c9_27 v4 st = some o) : z_V κ z_T z_N a 0 0 27 [(4, .long (zJ v4))] [] st := by
  unfold J_J9_floorDiv_f86c9_27 at h
  refine z_lload 0 hc dJ9_floorDiv_f86c9_27 rfl ?_
  have h := Option.some.inj h
  subst h
  exact z_retJ hc he dJ9_floorDiv_f86c9_29
def J_J9_floorDiv_f86c9 (x0 x2 : Int) (st : z_St) : Option (Int) :=
  z_g (z64 x0 ∧ z64 x2 ∧ (x2 : Int) ≠ 0) <|
  z_g (z64 (z_lxor x0 x2) ∧ z64 0) (if z_lxor x0 x2 < 0 then
    z_g (z64 ((x0.tdiv x2) * x2) ∧ z64 x0) (if (x0.tdiv x2) * x2 = x0 then
      J_J9_floorDiv_f86c9_27 (x0.tdiv x2) st
    else
      some ((x0.tdiv x2) - 1))
  else
    J_J9_floorDiv_f86c9_27 (x0.tdiv x2) st)
set_option maxRecDepth 100000 in
set_option maxHeartbeats 4000000 in
theorem w_J9_floorDiv_f86c9 {κ : zK} {a : Nat → Nat} {x0 x2 : Int} {st : z_St} {o : Int} (hc : z_C κ RJ9 cJ9_floorDiv_f86c9 6 8 0 0) (hap : z_AP κ a z_N) (he : z_E 1 κ (some .long) z_T z_N a o st) (h : J_J9_floorDiv_f86c9 x0 x2 st = some o) : z_V κ z_T z_N a 0 0 0 [(0, .long (zJ x0)), (2, .long (zJ x2))] [] st := by
  unfold J_J9_floorDiv_f86c9 at h
  refine z_lload_n (i := 0) 0 hc dJ9_floorDiv_f86c9_0 rfl rfl ?_
  refine z_lload_n (i := 2) 1 hc dJ9_floorDiv_f86c9_1 rfl rfl ?_
  refine z_ldiv hc dJ9_floorDiv_f86c9_2 h (fun h => ?_)
  refine z_lstore [(4, .long (zJ (x0.tdiv x2))), (0, .long (zJ x0)), (2, .long (zJ x2))] hc dJ9_floorDiv_f86c9_3 (by decide) rfl ?_
  refine z_lload_n (i := 0) 1 hc dJ9_floorDiv_f86c9_5 rfl rfl ?_
  refine z_lload_n (i := 2) 2 hc dJ9_floorDiv_f86c9_6 rfl rfl ?_
  refine z_lxor_r hc dJ9_floorDiv_f86c9_7 ?_
  refine z_lconst 0 hc dJ9_floorDiv_f86c9_8 rfl ?_
  refine z_lcmp_ge (tgt := 27) hc dJ9_floorDiv_f86c9_9 dJ9_floorDiv_f86c9_10 (by decide) h (fun c9 h => ?_) (fun c9 h => ?_)
  · refine z_lload 0 hc dJ9_floorDiv_f86c9_13 rfl ?_
    refine z_lload_n (i := 2) 2 hc dJ9_floorDiv_f86c9_15 rfl rfl ?_
    refine z_lmul hc dJ9_floorDiv_f86c9_16 ?_
    refine z_lload_n (i := 0) 1 hc dJ9_floorDiv_f86c9_17 rfl rfl ?_
    refine z_lcmp_eq (tgt := 27) hc dJ9_floorDiv_f86c9_18 dJ9_floorDiv_f86c9_19 (by decide) h (fun c18 h => ?_) (fun c18 h => ?_)
    · refine z_sub [(4, .long (zJ (x0.tdiv x2)))] [0] rfl ?_
      exact w_J9_floorDiv_f86c9_27 hc hap he h
    · refine z_lload 0 hc dJ9_floorDiv_f86c9_22 rfl ?_
      refine z_lconst 1 hc dJ9_floorDiv_f86c9_24 rfl ?_
      refine z_lsub hc dJ9_floorDiv_f86c9_25 ?_
      have h := Option.some.inj h
      subst h
      exact z_retJ hc he dJ9_floorDiv_f86c9_26
  · refine z_sub [(4, .long (zJ (x0.tdiv x2)))] [0] rfl ?_
    exact w_J9_floorDiv_f86c9_27 hc hap he h
set_option maxRecDepth 100000 in
set_option maxHeartbeats 4000000 in
theorem c_J9_floorDiv_f86c9 {l : Launch} (hl : l.stackTraces = false) {a : Nat → Nat} {x0 x2 : Int} {st : z_St} {o : Int} (h : J_J9_floorDiv_f86c9 x0 x2 st = some o) : z_M 1 l yJ9_floorDiv_f86c9 cJ9_floorDiv_f86c9 6 (some .long) 8 z_T z_N a [.long (zJ x0), .long (zJ x2)] st o st := z_of hl (by decide +kernel) (Nat.le_of_ble_eq_true rfl) (fun κ hc hap he => w_J9_floorDiv_f86c9 hc hap he h)
theorem dX11_meanAbove_0 : decode cX11_meanAbove 0 = .ok (.aload_n 0, 1) := by decide +kernel
theorem dX11_meanAbove_1 : decode cX11_meanAbove 1 = .ok (.getfield 12, 3) := by decide +kernel
theorem dX11_meanAbove_4 : decode cX11_meanAbove 4 = .ok (.getfield 84, 3) := by decide +kernel
theorem dX11_meanAbove_7 : decode cX11_meanAbove 7 = .ok (.ifCond .ne 5, 3) := by decide +kernel
theorem dX11_meanAbove_10 : decode cX11_meanAbove 10 = .ok (.lconst 0, 1) := by decide +kernel
theorem dX11_meanAbove_11 : decode cX11_meanAbove 11 = .ok (.lreturn, 1) := by decide +kernel
theorem dX11_meanAbove_12 : decode cX11_meanAbove 12 = .ok (.lconst 0, 1) := by decide +kernel
theorem dX11_meanAbove_13 : decode cX11_meanAbove 13 = .ok (.lstore_n 2, 1) := by decide +kernel
theorem dX11_meanAbove_14 : decode cX11_meanAbove 14 = .ok (.iconst 0, 1) := by decide +kernel
theorem dX11_meanAbove_15 : decode cX11_meanAbove 15 = .ok (.istore 4, 2) := by decide +kernel
theorem dX11_meanAbove_17 : decode cX11_meanAbove 17 = .ok (.iload 4, 2) := by decide +kernel
theorem dX11_meanAbove_19 : decode cX11_meanAbove 19 = .ok (.aload_n 0, 1) := by decide +kernel
theorem dX11_meanAbove_20 : decode cX11_meanAbove 20 = .ok (.getfield 12, 3) := by decide +kernel
theorem dX11_meanAbove_23 : decode cX11_meanAbove 23 = .ok (.getfield 84, 3) := by decide +kernel
theorem dX11_meanAbove_26 : decode cX11_meanAbove 26 = .ok (.if_icmp .ge 64, 3) := by decide +kernel
theorem dX11_meanAbove_29 : decode cX11_meanAbove 29 = .ok (.aload_n 0, 1) := by decide +kernel
theorem dX11_meanAbove_30 : decode cX11_meanAbove 30 = .ok (.getfield 19, 3) := by decide +kernel
theorem dX11_meanAbove_33 : decode cX11_meanAbove 33 = .ok (.getfield 153, 3) := by decide +kernel
theorem dX11_meanAbove_36 : decode cX11_meanAbove 36 = .ok (.aload_n 0, 1) := by decide +kernel
theorem dX11_meanAbove_37 : decode cX11_meanAbove 37 = .ok (.getfield 61, 3) := by decide +kernel
theorem dX11_meanAbove_40 : decode cX11_meanAbove 40 = .ok (.getfield 301, 3) := by decide +kernel
theorem dX11_meanAbove_43 : decode cX11_meanAbove 43 = .ok (.iconst 4, 1) := by decide +kernel
theorem dX11_meanAbove_44 : decode cX11_meanAbove 44 = .ok (.aaload, 1) := by decide +kernel
theorem dX11_meanAbove_45 : decode cX11_meanAbove 45 = .ok (.iload 4, 2) := by decide +kernel
theorem dX11_meanAbove_47 : decode cX11_meanAbove 47 = .ok (.iaload, 1) := by decide +kernel
theorem dX11_meanAbove_48 : decode cX11_meanAbove 48 = .ok (.aaload, 1) := by decide +kernel
theorem dX11_meanAbove_49 : decode cX11_meanAbove 49 = .ok (.astore 5, 2) := by decide +kernel
theorem dX11_meanAbove_51 : decode cX11_meanAbove 51 = .ok (.lload_n 2, 1) := by decide +kernel
theorem dX11_meanAbove_52 : decode cX11_meanAbove 52 = .ok (.aload_n 0, 1) := by decide +kernel
theorem dX11_meanAbove_53 : decode cX11_meanAbove 53 = .ok (.getfield 12, 3) := by decide +kernel
theorem dX11_meanAbove_56 : decode cX11_meanAbove 56 = .ok (.iload 4, 2) := by decide +kernel
theorem dX11_meanAbove_58 : decode cX11_meanAbove 58 = .ok (.iload_n 1, 1) := by decide +kernel
theorem dX11_meanAbove_59 : decode cX11_meanAbove 59 = .ok (.invokevirtual 355, 3) := by decide +kernel
theorem dX11_meanAbove_62 : decode cX11_meanAbove 62 = .ok (.aload 5, 2) := by decide +kernel
theorem dX11_meanAbove_64 : decode cX11_meanAbove 64 = .ok (.iload_n 1, 1) := by decide +kernel
theorem dX11_meanAbove_65 : decode cX11_meanAbove 65 = .ok (.aload_n 0, 1) := by decide +kernel
theorem dX11_meanAbove_66 : decode cX11_meanAbove 66 = .ok (.getfield 61, 3) := by decide +kernel
theorem dX11_meanAbove_69 : decode cX11_meanAbove 69 = .ok (.getfield 301, 3) := by decide +kernel
theorem dX11_meanAbove_72 : decode cX11_meanAbove 72 = .ok (.iconst 5, 1) := by decide +kernel
theorem dX11_meanAbove_73 : decode cX11_meanAbove 73 = .ok (.aaload, 1) := by decide +kernel
theorem dX11_meanAbove_74 : decode cX11_meanAbove 74 = .ok (.iload 4, 2) := by decide +kernel
theorem dX11_meanAbove_76 : decode cX11_meanAbove 76 = .ok (.iaload, 1) := by decide +kernel
theorem dX11_meanAbove_77 : decode cX11_meanAbove 77 = .ok (.invokevirtual 358, 3) := by decide +kernel
theorem dX11_meanAbove_80 : decode cX11_meanAbove 80 = .ok (.isub, 1) := by decide +kernel
theorem dX11_meanAbove_81 : decode cX11_meanAbove 81 = .ok (.i2l, 1) := by decide +kernel
theorem dX11_meanAbove_82 : decode cX11_meanAbove 82 = .ok (.ladd, 1) := by decide +kernel
theorem dX11_meanAbove_83 : decode cX11_meanAbove 83 = .ok (.lstore_n 2, 1) := by decide +kernel
theorem dX11_meanAbove_84 : decode cX11_meanAbove 84 = .ok (.iinc 4 1, 3) := by decide +kernel
theorem dX11_meanAbove_87 : decode cX11_meanAbove 87 = .ok (.goto (-70), 3) := by decide +kernel
theorem dX11_meanAbove_90 : decode cX11_meanAbove 90 = .ok (.lload_n 2, 1) := by decide +kernel
theorem dX11_meanAbove_91 : decode cX11_meanAbove 91 = .ok (.aload_n 0, 1) := by decide +kernel
theorem dX11_meanAbove_92 : decode cX11_meanAbove 92 = .ok (.getfield 12, 3) := by decide +kernel
theorem dX11_meanAbove_95 : decode cX11_meanAbove 95 = .ok (.getfield 84, 3) := by decide +kernel
theorem dX11_meanAbove_98 : decode cX11_meanAbove 98 = .ok (.i2l, 1) := by decide +kernel
theorem dX11_meanAbove_99 : decode cX11_meanAbove 99 = .ok (.invokestatic 361, 3) := by decide +kernel
theorem dX11_meanAbove_102 : decode cX11_meanAbove 102 = .ok (.lreturn, 1) := by decide +kernel
def J_X11_meanAbove_b17 (v1 v2 v4 : Int) (st : z_St) : Option ((Int × Int) ⊕ Int) :=
  z_g (z32 v4 ∧ z32 (st 1 2)) (if v4 < st 1 2 then
    z_g (0 ≤ 4 ∧ 4 < 6) <|
    z_g (0 ≤ v4 ∧ v4 < 16) <|
    z_g (0 ≤ st (150 + 4) v4 ∧ st (150 + 4) v4 < 6) <|
    z_b (J_X1_clean v4 v1 st) fun r4 =>
    z_g (0 ≤ 5 ∧ 5 < 6) <|
    z_g (0 ≤ v4 ∧ v4 < 16) <|
    z_b (J_X9_liesAt (29 + 5 * (st (150 + 4) v4)) v1 (st (150 + 5) v4) st) fun r8 =>
    z_g (z32 (r4 - r8)) <|
    some (.inl (v2 + (r4 - r8), v4 + 1))
  else
    some (.inr v2))
set_option maxRecDepth 100000 in
set_option maxHeartbeats 4000000 in
theorem w_X11_meanAbove_b17 {κ : zK} {a : Nat → Nat} {v1 v2 v4 : Int} {st : z_St} {mc9 ms9 : Nat} {o : (Int × Int) ⊕ Int} (hc : z_C κ RX11 cX11_meanAbove 6 9 mc9 ms9) (hap : z_AP κ a z_N) (k1 : ∀ s9 : (Int × Int), o = .inl s9 → z_V κ z_T z_N a 0 0 17 [(0, .ref (a 0)), (1, .int (zI v1)), (2, .long (zJ s9.1)), (4, .int (zI s9.2))] [] st) (k2 : ∀ x9 : Int, o = .inr x9 → z_V κ z_T z_N a 0 0 90 [(0, .ref (a 0)), (2, .long (zJ x9))] [] st) (h : J_X11_meanAbove_b17 v1 v2 v4 st = some o) : z_V κ z_T z_N a 0 0 17 [(0, .ref (a 0)), (1, .int (zI v1)), (2, .long (zJ v2)), (4, .int (zI v4))] [] st := by
  unfold J_X11_meanAbove_b17 at h
  refine z_iload 3 hc dX11_meanAbove_17 rfl ?_
  refine z_aload_n (i := 0) 0 hc dX11_meanAbove_19 rfl rfl ?_
  refine z_getA (k' := 1) hc fl_RX11_12 tT_0 (by decide) rfl rfl dX11_meanAbove_20 ?_
  refine z_getI (kI := 1) (jI := 2) hc fl_RX11_84 tT_1 (by decide) rfl rfl rfl dX11_meanAbove_23 ?_
  refine z_icmp_ge (tgt := 90) hc dX11_meanAbove_26 (by decide) h (fun c26 h => ?_) (fun c26 h => ?_)
  · refine z_aload_n (i := 0) 0 hc dX11_meanAbove_29 rfl rfl ?_
    refine z_getA (k' := 24) hc fl_RX11_19 tT_0 (by decide) rfl rfl dX11_meanAbove_30 ?_
    refine z_getA (k' := 25) hc fl_RX11_153 tT_24 (by decide) rfl rfl dX11_meanAbove_33 ?_
    refine z_aload_n (i := 0) 0 hc dX11_meanAbove_36 rfl rfl ?_
    refine z_getA (k' := 148) hc fl_RX11_61 tT_0 (by decide) rfl rfl dX11_meanAbove_37 ?_
    refine z_getA (k' := 149) hc fl_RX11_301 tT_148 (by decide) rfl rfl dX11_meanAbove_40 ?_
    refine z_iconst hc dX11_meanAbove_43 ?_
    refine z_aald (r := 150 + 4) (nI9 := 6) hc tT_149 (by decide) (by decide) rfl (by decide) (fun j9 hj9 => by omega) dX11_meanAbove_44 h (fun g1 h => ?_)
    refine z_iload 3 hc dX11_meanAbove_45 rfl ?_
    refine z_iald (kI := 150 + 4) (nI9 := 16) hc (z_row_149 g1).2.2 (z_row_149 g1).2.1 (Int.toNat_of_nonneg (z_row_149 g1).1) rfl (by decide) dX11_meanAbove_47 h (fun g2 h => ?_)
    refine z_aald (r := 29 + 5 * (st (150 + 4) v4)) (nI9 := 6) hc tT_25 (by decide) (by decide) rfl (by decide) (fun j9 hj9 => by omega) dX11_meanAbove_48 h (fun g3 h => ?_)
    refine z_astore [(5, .ref (a ((29 + 5 * (st (150 + 4) v4)).toNat))), (0, .ref (a 0)), (1, .int (zI v1)), (2, .long (zJ v2)), (4, .int (zI v4))] hc dX11_meanAbove_49 (by decide) rfl ?_
    refine z_lload_n (i := 2) 3 hc dX11_meanAbove_51 rfl rfl ?_
    refine z_aload_n (i := 0) 1 hc dX11_meanAbove_52 rfl rfl ?_
    refine z_getA (k' := 1) hc fl_RX11_12 tT_0 (by decide) rfl rfl dX11_meanAbove_53 ?_
    refine z_iload 4 hc dX11_meanAbove_56 rfl ?_
    refine z_iload_n (i := 1) 2 hc dX11_meanAbove_58 rfl rfl ?_
    obtain ⟨r4, hr4, h⟩ := z_b_some h
    refine z_callVI [.int (zI v4), .int (zI v1)] hc hap o_X1_clean ml_RX11_355 (fun l hl => c_X1_clean hl  hr4) (by decide) tT_1 (by decide) ⟨_, rfl, rfl⟩ rfl rfl (Nat.le_of_ble_eq_true rfl) (Nat.zero_le _) (Nat.zero_le _) dX11_meanAbove_59 ?_
    refine z_aload 0 hc dX11_meanAbove_62 rfl ?_
    refine z_iload_n (i := 1) 2 hc dX11_meanAbove_64 rfl rfl ?_
    refine z_aload_n (i := 0) 1 hc dX11_meanAbove_65 rfl rfl ?_
    refine z_getA (k' := 148) hc fl_RX11_61 tT_0 (by decide) rfl rfl dX11_meanAbove_66 ?_
    refine z_getA (k' := 149) hc fl_RX11_301 tT_148 (by decide) rfl rfl dX11_meanAbove_69 ?_
    refine z_iconst hc dX11_meanAbove_72 ?_
    refine z_aald (r := 150 + 5) (nI9 := 6) hc tT_149 (by decide) (by decide) rfl (by decide) (fun j9 hj9 => by omega) dX11_meanAbove_73 h (fun g6 h => ?_)
    refine z_iload 4 hc dX11_meanAbove_74 rfl ?_
    refine z_iald (kI := 150 + 5) (nI9 := 16) hc (z_row_149 g6).2.2 (z_row_149 g6).2.1 (Int.toNat_of_nonneg (z_row_149 g6).1) rfl (by decide) dX11_meanAbove_76 h (fun g7 h => ?_)
    obtain ⟨r8, hr8, h⟩ := z_b_some h
    refine z_callVI [.int (zI v1), .int (zI (st (150 + 5) v4))] hc hap o_X9_liesAt ml_RX11_358 (fun l hl => c_X9_liesAt hl (z_Sound_of g3) hr8) (by decide) (z_Sound_T (z_Sound_of g3)) (z_Sound_lt (z_Sound_of g3)) ⟨_, rfl, rfl⟩ rfl rfl (Nat.le_of_ble_eq_true rfl) (Nat.zero_le _) (Nat.zero_le _) dX11_meanAbove_77 ?_
    refine z_isub hc dX11_meanAbove_80 ?_
    refine z_i2l hc dX11_meanAbove_81 h (fun h => ?_)
    refine z_ladd hc dX11_meanAbove_82 ?_
    refine z_lstore_n (i := 2) [(2, .long (zJ (v2 + (r4 - r8)))), (5, .ref (a ((29 + 5 * (st (150 + 4) v4)).toNat))), (0, .ref (a 0)), (1, .int (zI v1)), (4, .int (zI v4))] hc dX11_meanAbove_83 rfl (by decide) rfl ?_
    refine z_iinc [(4, .int (zI (v4 + 1))), (2, .long (zJ (v2 + (r4 - r8)))), (5, .ref (a ((29 + 5 * (st (150 + 4) v4)).toNat))), (0, .ref (a 0)), (1, .int (zI v1))] 4 hc dX11_meanAbove_84 rfl (by decide) rfl ?_
    refine z_goto (tgt := 17) hc dX11_meanAbove_87 (by decide) ?_
    refine z_sub [(0, .ref (a 0)), (1, .int (zI v1)), (2, .long (zJ (v2 + (r4 - r8)))), (4, .int (zI (v4 + 1)))] [3, 4, 1, 0] rfl ?_
    exact k1 _ (Option.some.inj h).symm
  · refine z_sub [(0, .ref (a 0)), (2, .long (zJ v2))] [0, 2] rfl ?_
    exact k2 v2 (Option.some.inj h).symm
def J_X11_meanAbove (x1 : Int) (st : z_St) : Option (Int) :=
  z_g (z32 (st 1 2)) (if st 1 2 = 0 then
    some 0
  else
    z_b (z_iter z_F (fun q9 : (Int × Int) => J_X11_meanAbove_b17 x1 q9.1 q9.2 st) (0, 0)) fun lx10 =>
      z_g (z32 (st 1 2)) <|
      z_b (J_J9_floorDiv_f86c9 lx10 (st 1 2) st) fun r11 =>
      some r11)
set_option maxRecDepth 100000 in
set_option maxHeartbeats 4000000 in
theorem w_X11_meanAbove {κ : zK} {a : Nat → Nat} {x1 : Int} {st : z_St} {o : Int} (hc : z_C κ RX11 cX11_meanAbove 6 9 0 0) (hap : z_AP κ a z_N) (he : z_E 1 κ (some .long) z_T z_N a o st) (h : J_X11_meanAbove x1 st = some o) : z_V κ z_T z_N a 0 0 0 [(0, .ref (a 0)), (1, .int (zI x1))] [] st := by
  unfold J_X11_meanAbove at h
  refine z_aload_n (i := 0) 0 hc dX11_meanAbove_0 rfl rfl ?_
  refine z_getA (k' := 1) hc fl_RX11_12 tT_0 (by decide) rfl rfl dX11_meanAbove_1 ?_
  refine z_getI (kI := 1) (jI := 2) hc fl_RX11_84 tT_1 (by decide) rfl rfl rfl dX11_meanAbove_4 ?_
  refine z_if_ne (tgt := 12) hc dX11_meanAbove_7 (by decide) h (fun c7 h => ?_) (fun c7 h => ?_)
  · refine z_lconst 0 hc dX11_meanAbove_10 rfl ?_
    have h := Option.some.inj h
    subst h
    exact z_retJ hc he dX11_meanAbove_11
  · refine z_lconst 0 hc dX11_meanAbove_12 rfl ?_
    refine z_lstore_n (i := 2) [(2, .long (zJ 0)), (0, .ref (a 0)), (1, .int (zI x1))] hc dX11_meanAbove_13 rfl (by decide) rfl ?_
    refine z_iconst hc dX11_meanAbove_14 ?_
    refine z_istore [(4, .int (zI 0)), (2, .long (zJ 0)), (0, .ref (a 0)), (1, .int (zI x1))] hc dX11_meanAbove_15 (by decide) rfl ?_
    obtain ⟨lx10, hlx10, h⟩ := z_b_some h
    refine z_sub [(0, .ref (a 0)), (1, .int (zI x1)), (2, .long (zJ 0)), (4, .int (zI 0))] [2, 3, 1, 0] rfl ?_
    refine z_loop (fun q9 : (Int × Int) => J_X11_meanAbove_b17 x1 q9.1 q9.2 st) (fun q9 : (Int × Int) => z_V κ z_T z_N a 0 0 17 [(0, .ref (a 0)), (1, .int (zI x1)), (2, .long (zJ q9.1)), (4, .int (zI q9.2))] [] st) (fun x9 : Int => z_V κ z_T z_N a 0 0 90 [(0, .ref (a 0)), (2, .long (zJ x9))] [] st) (fun q9 o9 hb k1 k2 => ?_) _ _ _ hlx10 ?_
    · exact w_X11_meanAbove_b17 hc hap k1 k2 hb
    · show z_V κ z_T z_N a 0 0 90 [(0, .ref (a 0)), (2, .long (zJ lx10))] [] st
      refine z_lload_n (i := 2) 1 hc dX11_meanAbove_90 rfl rfl ?_
      refine z_aload_n (i := 0) 0 hc dX11_meanAbove_91 rfl rfl ?_
      refine z_getA (k' := 1) hc fl_RX11_12 tT_0 (by decide) rfl rfl dX11_meanAbove_92 ?_
      refine z_getI (kI := 1) (jI := 2) hc fl_RX11_84 tT_1 (by decide) rfl rfl rfl dX11_meanAbove_95 ?_
      refine z_i2l hc dX11_meanAbove_98 h (fun h => ?_)
      obtain ⟨r11, hr11, h⟩ := z_b_some h
      refine z_callSJ [.long (zJ lx10), .long (zJ (st 1 2))] hc hap o_J9_floorDiv_f86c9 ml_RX11_361 (fun l hl => c_J9_floorDiv_f86c9 hl  hr11) (by decide) rfl rfl (Nat.le_of_ble_eq_true rfl) (Nat.zero_le _) (Nat.zero_le _) dX11_meanAbove_99 ?_
      have h := Option.some.inj h
      subst h
      exact z_retJ hc he dX11_meanAbove_102
set_option maxRecDepth 100000 in
set_option maxHeartbeats 4000000 in
theorem c_X11_meanAbove {l : Launch} (hl : l.stackTraces = false) {a : Nat → Nat} {x1 : Int} {st : z_St} {o : Int} (h : J_X11_meanAbove x1 st = some o) : z_M 1 l yX11_meanAbove cX11_meanAbove 6 (some .long) 9 z_T z_N a [.ref (a 0), .int (zI x1)] st o st := z_of hl (by decide +kernel) (Nat.le_of_ble_eq_true rfl) (fun κ hc hap he => w_X11_meanAbove hc hap he h)
theorem dX11_fit_0 : decode cX11_fit 0 = .ok (.aload_n 0, 1) := by decide +kernel
theorem dX11_fit_1 : decode cX11_fit 1 = .ok (.invokevirtual 118, 3) := by decide +kernel
theorem dX11_fit_4 : decode cX11_fit 4 = .ok (.aload_n 0, 1) := by decide +kernel
theorem dX11_fit_5 : decode cX11_fit 5 = .ok (.invokevirtual 121, 3) := by decide +kernel
theorem dX11_fit_8 : decode cX11_fit 8 = .ok (.aload_n 0, 1) := by decide +kernel
theorem dX11_fit_9 : decode cX11_fit 9 = .ok (.getfield 12, 3) := by decide +kernel
theorem dX11_fit_12 : decode cX11_fit 12 = .ok (.getfield 115, 3) := by decide +kernel
theorem dX11_fit_15 : decode cX11_fit 15 = .ok (.aload_n 0, 1) := by decide +kernel
theorem dX11_fit_16 : decode cX11_fit 16 = .ok (.getfield 12, 3) := by decide +kernel
theorem dX11_fit_19 : decode cX11_fit 19 = .ok (.getfield 109, 3) := by decide +kernel
theorem dX11_fit_22 : decode cX11_fit 22 = .ok (.aaload, 1) := by decide +kernel
theorem dX11_fit_23 : decode cX11_fit 23 = .ok (.astore_n 1, 1) := by decide +kernel
theorem dX11_fit_24 : decode cX11_fit 24 = .ok (.iconst 0, 1) := by decide +kernel
theorem dX11_fit_25 : decode cX11_fit 25 = .ok (.istore_n 2, 1) := by decide +kernel
theorem dX11_fit_26 : decode cX11_fit 26 = .ok (.iload_n 2, 1) := by decide +kernel
theorem dX11_fit_27 : decode cX11_fit 27 = .ok (.iconst 3, 1) := by decide +kernel
theorem dX11_fit_28 : decode cX11_fit 28 = .ok (.if_icmp .ge 37, 3) := by decide +kernel
theorem dX11_fit_31 : decode cX11_fit 31 = .ok (.aload_n 1, 1) := by decide +kernel
theorem dX11_fit_32 : decode cX11_fit 32 = .ok (.iload_n 2, 1) := by decide +kernel
theorem dX11_fit_33 : decode cX11_fit 33 = .ok (.iaload, 1) := by decide +kernel
theorem dX11_fit_34 : decode cX11_fit 34 = .ok (.i2l, 1) := by decide +kernel
theorem dX11_fit_35 : decode cX11_fit 35 = .ok (.aload_n 0, 1) := by decide +kernel
theorem dX11_fit_36 : decode cX11_fit 36 = .ok (.iload_n 2, 1) := by decide +kernel
theorem dX11_fit_37 : decode cX11_fit 37 = .ok (.invokevirtual 124, 3) := by decide +kernel
theorem dX11_fit_40 : decode cX11_fit 40 = .ok (.ladd, 1) := by decide +kernel
theorem dX11_fit_41 : decode cX11_fit 41 = .ok (.lstore_n 3, 1) := by decide +kernel
theorem dX11_fit_42 : decode cX11_fit 42 = .ok (.aload_n 1, 1) := by decide +kernel
theorem dX11_fit_43 : decode cX11_fit 43 = .ok (.iload_n 2, 1) := by decide +kernel
theorem dX11_fit_44 : decode cX11_fit 44 = .ok (.ldc2_w 128, 3) := by decide +kernel
theorem dX11_fit_47 : decode cX11_fit 47 = .ok (.ldc2_w 130, 3) := by decide +kernel
theorem dX11_fit_50 : decode cX11_fit 50 = .ok (.lload_n 3, 1) := by decide +kernel
theorem dX11_fit_51 : decode cX11_fit 51 = .ok (.invokestatic 132, 3) := by decide +kernel
theorem dX11_fit_54 : decode cX11_fit 54 = .ok (.invokestatic 138, 3) := by decide +kernel
theorem dX11_fit_57 : decode cX11_fit 57 = .ok (.l2i, 1) := by decide +kernel
theorem dX11_fit_58 : decode cX11_fit 58 = .ok (.iastore, 1) := by decide +kernel
theorem dX11_fit_59 : decode cX11_fit 59 = .ok (.iinc 2 1, 3) := by decide +kernel
theorem dX11_fit_62 : decode cX11_fit 62 = .ok (.goto (-36), 3) := by decide +kernel
theorem dX11_fit_65 : decode cX11_fit 65 = .ok (.aload_n 0, 1) := by decide +kernel
theorem dX11_fit_66 : decode cX11_fit 66 = .ok (.invokevirtual 102, 3) := by decide +kernel
theorem dX11_fit_69 : decode cX11_fit 69 = .ok (.aload_n 0, 1) := by decide +kernel
theorem dX11_fit_70 : decode cX11_fit 70 = .ok (.invokevirtual 141, 3) := by decide +kernel
theorem dX11_fit_73 : decode cX11_fit 73 = .ok (.aload_n 0, 1) := by decide +kernel
theorem dX11_fit_74 : decode cX11_fit 74 = .ok (.getfield 40, 3) := by decide +kernel
theorem dX11_fit_77 : decode cX11_fit 77 = .ok (.invokevirtual 144, 3) := by decide +kernel
theorem dX11_fit_80 : decode cX11_fit 80 = .ok (.lreturn, 1) := by decide +kernel
def J_X11_fit_b26 (v1 v2 : Int) (st : z_St) : Option ((Int × z_St) ⊕ z_St) :=
  z_g (z32 v2 ∧ z32 3) (if v2 < 3 then
    z_g (0 ≤ v2 ∧ v2 < 3) <|
    z_g (z32 (st v1 v2)) <|
    z_b (J_X11_meanAbove v2 st) fun r7 =>
    z_g (z64 30000 ∧ z64 ((st v1 v2) + r7)) <|
    z_g (z64 (-30000) ∧ z64 (min 30000 ((st v1 v2) + r7))) <|
    z_g (0 ≤ v2 ∧ v2 < 3) <|
    z_let (z_up st v1 v2 (max (-30000) (min 30000 ((st v1 v2) + r7)))) fun st9 =>
    some (.inl (v2 + 1, st9))
  else
    some (.inr st))
set_option maxRecDepth 100000 in
set_option maxHeartbeats 4000000 in
theorem w_X11_fit_b26 {κ : zK} {a : Nat → Nat} {v1 v2 : Int} {st : z_St} {mc9 ms9 : Nat} {o : (Int × z_St) ⊕ z_St} (hc : z_C κ RX11 cX11_fit 5 14 mc9 ms9) (hap : z_AP κ a z_N) (hv1 : z_isArr v1 0 0 3) (k1 : ∀ s9 : (Int × z_St), o = .inl s9 → z_V κ z_T z_N a 0 0 26 [(0, .ref (a 0)), (1, .ref (a v1.toNat)), (2, .int (zI s9.1))] [] s9.2) (k2 : ∀ x9 : z_St, o = .inr x9 → z_V κ z_T z_N a 0 0 65 [(0, .ref (a 0))] [] x9) (h : J_X11_fit_b26 v1 v2 st = some o) : z_V κ z_T z_N a 0 0 26 [(0, .ref (a 0)), (1, .ref (a v1.toNat)), (2, .int (zI v2))] [] st := by
  unfold J_X11_fit_b26 at h
  refine z_iload_n (i := 2) 2 hc dX11_fit_26 rfl rfl ?_
  refine z_iconst hc dX11_fit_27 ?_
  refine z_icmp_ge (tgt := 65) hc dX11_fit_28 (by decide) h (fun c28 h => ?_) (fun c28 h => ?_)
  · refine z_aload_n (i := 1) 1 hc dX11_fit_31 rfl rfl ?_
    refine z_iload_n (i := 2) 2 hc dX11_fit_32 rfl rfl ?_
    refine z_iald (kI := v1) (nI9 := 3) hc hv1.2.2 hv1.2.1 (Int.toNat_of_nonneg hv1.1) rfl (by decide) dX11_fit_33 h (fun g6 h => ?_)
    refine z_i2l hc dX11_fit_34 h (fun h => ?_)
    refine z_aload_n (i := 0) 0 hc dX11_fit_35 rfl rfl ?_
    refine z_iload_n (i := 2) 2 hc dX11_fit_36 rfl rfl ?_
    obtain ⟨r7, hr7, h⟩ := z_b_some h
    refine z_callVJ [.int (zI v2)] hc hap o_X11_meanAbove ml_RX11_124 (fun l hl => c_X11_meanAbove hl  hr7) (by decide) tT_0 (by decide) ⟨_, rfl, rfl⟩ rfl rfl (Nat.le_of_ble_eq_true rfl) (Nat.zero_le _) (Nat.zero_le _) dX11_fit_37 ?_
    refine z_ladd hc dX11_fit_40 ?_
    refine z_lstore_n (i := 3) [(3, .long (zJ ((st v1 v2) + r7))), (0, .ref (a 0)), (1, .ref (a v1.toNat)), (2, .int (zI v2))] hc dX11_fit_41 rfl (by decide) rfl ?_
    refine z_aload_n (i := 1) 2 hc dX11_fit_42 rfl rfl ?_
    refine z_iload_n (i := 2) 3 hc dX11_fit_43 rfl rfl ?_
    refine z_ldc2 (-30000) hc kc_RX11_128 dX11_fit_44 rfl ?_
    refine z_ldc2 30000 hc kc_RX11_130 dX11_fit_47 rfl ?_
    refine z_lload_n (i := 3) 0 hc dX11_fit_50 rfl rfl ?_
    refine z_minJ hc ml_RX11_132 h ⟨rfl, rfl, Nat.le_of_ble_eq_true rfl, by omega⟩ dX11_fit_51 (fun h => ?_)
    refine z_maxJ hc ml_RX11_138 h ⟨rfl, rfl, Nat.le_of_ble_eq_true rfl, by omega⟩ dX11_fit_54 (fun h => ?_)
    refine z_l2i hc dX11_fit_57 ?_
    refine z_iast (kI := v1) (nI9 := 3) hc hap hv1.2.2 hv1.2.1 (Int.toNat_of_nonneg hv1.1) rfl (by decide) dX11_fit_58 h (fun st9 h => ?_)
    refine z_iinc [(2, .int (zI (v2 + 1))), (3, .long (zJ ((st v1 v2) + r7))), (0, .ref (a 0)), (1, .ref (a v1.toNat))] 3 hc dX11_fit_59 rfl (by decide) rfl ?_
    refine z_goto (tgt := 26) hc dX11_fit_62 (by decide) ?_
    refine z_sub [(0, .ref (a 0)), (1, .ref (a v1.toNat)), (2, .int (zI (v2 + 1)))] [2, 3, 0] rfl ?_
    exact k1 _ (Option.some.inj h).symm
  · refine z_sub [(0, .ref (a 0))] [0] rfl ?_
    exact k2 st (Option.some.inj h).symm
def J_X11_fit (st : z_St) : Option (z_R (Int × z_St)) :=
  z_x (J_X11_checkBest st) fun st2 =>
    z_b (J_X11_readyTrack st2) fun st4 =>
    z_g (0 ≤ st4 1 3 ∧ st4 1 3 < 4) <|
    z_b (z_iter z_F (fun q9 : (Int × z_St) => J_X11_fit_b26 (20 + (st4 1 3)) q9.1 q9.2) (0, st4)) fun lx10 =>
      z_b (J_X11_outdate lx10) fun st12 =>
      z_b (J_X11_readyRows st12) fun st14 =>
      z_b (J_X5_leastWeight st14) fun r15 =>
      some (.inl (r15, st14))
set_option maxRecDepth 100000 in
set_option maxHeartbeats 4000000 in
theorem w_X11_fit {κ : zK} {a : Nat → Nat} {st : z_St} {o : z_R (Int × z_St)} (hc : z_C κ RX11 cX11_fit 5 14 (z_mc o) (z_ms o)) (hap : z_AP κ a z_N) (he : z_EX 1 κ (some .long) z_T z_N a o) (h : J_X11_fit st = some o) : z_V κ z_T z_N a 0 0 0 [(0, .ref (a 0))] [] st := by
  unfold J_X11_fit at h
  refine z_aload_n (i := 0) 0 hc dX11_fit_0 rfl rfl ?_
  rcases z_x_cases h with ⟨st2, hr1, h⟩ | ⟨q9, hr1, h⟩
  · refine z_xcallVV [] hc hap o_X11_checkBest ml_RX11_118 (fun l hl => c_X11_checkBest_r hl  hr1) (by decide) tT_0 (by decide) ⟨_, rfl, rfl⟩ rfl rfl (Nat.le_of_ble_eq_true rfl) (Nat.zero_le _) (Nat.zero_le _) dX11_fit_1 ?_
    refine z_aload_n (i := 0) 0 hc dX11_fit_4 rfl rfl ?_
    obtain ⟨st4, hr3, h⟩ := z_b_some h
    refine z_callVV [] hc hap o_X11_readyTrack ml_RX11_121 (fun l hl => c_X11_readyTrack hl  hr3) (by decide) tT_0 (by decide) ⟨_, rfl, rfl⟩ rfl rfl (Nat.le_of_ble_eq_true rfl) (Nat.zero_le _) (Nat.zero_le _) dX11_fit_5 ?_
    refine z_aload_n (i := 0) 0 hc dX11_fit_8 rfl rfl ?_
    refine z_getA (k' := 1) hc fl_RX11_12 tT_0 (by decide) rfl rfl dX11_fit_9 ?_
    refine z_getA (k' := 19) hc fl_RX11_115 tT_1 (by decide) rfl rfl dX11_fit_12 ?_
    refine z_aload_n (i := 0) 0 hc dX11_fit_15 rfl rfl ?_
    refine z_getA (k' := 1) hc fl_RX11_12 tT_0 (by decide) rfl rfl dX11_fit_16 ?_
    refine z_getI (kI := 1) (jI := 3) hc fl_RX11_109 tT_1 (by decide) rfl rfl rfl dX11_fit_19 ?_
    refine z_aald (r := 20 + (st4 1 3)) (nI9 := 4) hc tT_19 (by decide) (by decide) rfl (by decide) (fun j9 hj9 => by omega) dX11_fit_22 h (fun g5 h => ?_)
    refine z_astore_n (i := 1) [(1, .ref (a ((20 + (st4 1 3)).toNat))), (0, .ref (a 0))] hc dX11_fit_23 rfl (by decide) rfl ?_
    refine z_iconst hc dX11_fit_24 ?_
    refine z_istore_n (i := 2) [(2, .int (zI 0)), (1, .ref (a ((20 + (st4 1 3)).toNat))), (0, .ref (a 0))] hc dX11_fit_25 rfl (by decide) rfl ?_
    obtain ⟨lx10, hlx10, h⟩ := z_b_some h
    refine z_sub [(0, .ref (a 0)), (1, .ref (a ((20 + (st4 1 3)).toNat))), (2, .int (zI 0))] [2, 1, 0] rfl ?_
    refine z_loop (fun q9 : (Int × z_St) => J_X11_fit_b26 (20 + (st4 1 3)) q9.1 q9.2) (fun q9 : (Int × z_St) => z_V κ z_T z_N a 0 0 26 [(0, .ref (a 0)), (1, .ref (a ((20 + (st4 1 3)).toNat))), (2, .int (zI q9.1))] [] q9.2) (fun x9 : z_St => z_V κ z_T z_N a 0 0 65 [(0, .ref (a 0))] [] x9) (fun q9 o9 hb k1 k2 => ?_) _ _ _ hlx10 ?_
    · exact w_X11_fit_b26 hc hap (z_row_19 g5) k1 k2 hb
    · show z_V κ z_T z_N a 0 0 65 [(0, .ref (a 0))] [] lx10
      refine z_aload_n (i := 0) 0 hc dX11_fit_65 rfl rfl ?_
      obtain ⟨st12, hr11, h⟩ := z_b_some h
      refine z_callVV [] hc hap o_X11_outdate ml_RX11_102 (fun l hl => c_X11_outdate hl  hr11) (by decide) tT_0 (by decide) ⟨_, rfl, rfl⟩ rfl rfl (Nat.le_of_ble_eq_true rfl) (Nat.zero_le _) (Nat.zero_le _) dX11_fit_66 ?_
      refine z_aload_n (i := 0) 0 hc dX11_fit_69 rfl rfl ?_
      obtain ⟨st14, hr13, h⟩ := z_b_some h
      refine z_callVV [] hc hap o_X11_readyRows ml_RX11_141 (fun l hl => c_X11_readyRows hl  hr13) (by decide) tT_0 (by decide) ⟨_, rfl, rfl⟩ rfl rfl (Nat.le_of_ble_eq_true rfl) (Nat.zero_le _) (Nat.zero_le _) dX11_fit_70 ?_
      refine z_aload_n (i := 0) 0 hc dX11_fit_73 rfl rfl ?_
      refine z_getA (k' := 134) hc fl_RX11_40 tT_0 (by decide) rfl rfl dX11_fit_74 ?_
      obtain ⟨r15, hr15, h⟩ := z_b_some h
      refine z_callVJ [] hc hap o_X5_leastWeight ml_RX11_144 (fun l hl => c_X5_leastWeight hl  hr15) (by decide) tT_134 (by decide) ⟨_, rfl, rfl⟩ rfl rfl (Nat.le_of_ble_eq_true rfl) (Nat.zero_le _) (Nat.zero_le _) dX11_fit_77 ?_
      have h := Option.some.inj h
      subst h
      exact z_retXJ hc he rfl dX11_fit_80
  · obtain ⟨e9, st9⟩ := q9
    subst h
    refine z_xthrV (kd := 2) [] hc hap o_X11_checkBest ml_RX11_118 (fun l hl => c_X11_checkBest_t hl  hr1) (by decide) tT_0 (by decide) ⟨_, rfl, rfl⟩ rfl rfl (Nat.le_of_ble_eq_true rfl) (Nat.le_refl 1) (Nat.le_refl 6) dX11_fit_1 (z_outX hc he rfl)
set_option maxRecDepth 100000 in
set_option maxHeartbeats 4000000 in
theorem c_X11_fit {l : Launch} (hl : l.stackTraces = false) {a : Nat → Nat} {st : z_St} {o : z_R (Int × z_St)} (h : J_X11_fit st = some o) : z_MX 1 l yX11_fit cX11_fit 5 (some .long) 14 z_T z_N a [.ref (a 0)] st o := z_ofX hl (by decide +kernel) (Nat.le_of_ble_eq_true rfl) (fun κ hc hap he => w_X11_fit hc hap he h)
theorem c_X11_fit_r {l : Launch} (hl : l.stackTraces = false) {a : Nat → Nat} {st : z_St} {v9 : Int × z_St} (h : J_X11_fit st = some (.inl v9)) : z_MX 1 l yX11_fit cX11_fit 5 (some .long) 14 z_T z_N a [.ref (a 0)] st (.inl v9) := by
  have h9 := c_X11_fit (a := a) (o := .inl v9) hl h
  exact h9
theorem c_X11_fit_t {l : Launch} (hl : l.stackTraces = false) {a : Nat → Nat} {st : z_St} {e9 : Nat} {st9 : z_St} (h : J_X11_fit st = some (.inr (e9, st9))) : z_MX 1 l yX11_fit cX11_fit 5 (some .long) 14 z_T z_N a [.ref (a 0)] st (.inr (e9, st9)) := by
  have h9 := c_X11_fit (a := a) (o := .inr (e9, st9)) hl h
  exact h9
theorem dX11_sound_0 : decode cX11_sound 0 = .ok (.iload_n 1, 1) := by decide +kernel
theorem dX11_sound_1 : decode cX11_sound 1 = .ok (.iload_n 2, 1) := by decide +kernel
theorem dX11_sound_2 : decode cX11_sound 2 = .ok (.iload_n 3, 1) := by decide +kernel
theorem dX11_sound_3 : decode cX11_sound 3 = .ok (.invokestatic 80, 3) := by decide +kernel
theorem dX11_sound_6 : decode cX11_sound 6 = .ok (.iload 4, 2) := by decide +kernel
theorem dX11_sound_8 : decode cX11_sound 8 = .ok (.iconst 1, 1) := by decide +kernel
theorem dX11_sound_9 : decode cX11_sound 9 = .ok (.bipush 99, 2) := by decide +kernel
theorem dX11_sound_11 : decode cX11_sound 11 = .ok (.invokestatic 112, 3) := by decide +kernel
theorem dX11_sound_14 : decode cX11_sound 14 = .ok (.aload_n 0, 1) := by decide +kernel
theorem dX11_sound_15 : decode cX11_sound 15 = .ok (.getfield 19, 3) := by decide +kernel
theorem dX11_sound_18 : decode cX11_sound 18 = .ok (.getfield 148, 3) := by decide +kernel
theorem dX11_sound_21 : decode cX11_sound 21 = .ok (.bipush 6, 2) := by decide +kernel
theorem dX11_sound_23 : decode cX11_sound 23 = .ok (.if_icmp .lt 13, 3) := by decide +kernel
theorem dX11_sound_26 : decode cX11_sound 26 = .ok (.new 88, 3) := by decide +kernel
theorem dX11_sound_29 : decode cX11_sound 29 = .ok (.dup, 1) := by decide +kernel
theorem dX11_sound_30 : decode cX11_sound 30 = .ok (.ldc 151, 2) := by decide +kernel
theorem dX11_sound_32 : decode cX11_sound 32 = .ok (.invokespecial 92, 3) := by decide +kernel
theorem dX11_sound_35 : decode cX11_sound 35 = .ok (.athrow, 1) := by decide +kernel
theorem dX11_sound_36 : decode cX11_sound 36 = .ok (.aload_n 0, 1) := by decide +kernel
theorem dX11_sound_37 : decode cX11_sound 37 = .ok (.getfield 19, 3) := by decide +kernel
theorem dX11_sound_40 : decode cX11_sound 40 = .ok (.getfield 153, 3) := by decide +kernel
theorem dX11_sound_43 : decode cX11_sound 43 = .ok (.aload_n 0, 1) := by decide +kernel
theorem dX11_sound_44 : decode cX11_sound 44 = .ok (.getfield 19, 3) := by decide +kernel
theorem dX11_sound_47 : decode cX11_sound 47 = .ok (.getfield 148, 3) := by decide +kernel
theorem dX11_sound_50 : decode cX11_sound 50 = .ok (.aaload, 1) := by decide +kernel
theorem dX11_sound_51 : decode cX11_sound 51 = .ok (.astore 5, 2) := by decide +kernel
theorem dX11_sound_53 : decode cX11_sound 53 = .ok (.aload 5, 2) := by decide +kernel
theorem dX11_sound_55 : decode cX11_sound 55 = .ok (.getfield 157, 3) := by decide +kernel
theorem dX11_sound_58 : decode cX11_sound 58 = .ok (.iload_n 1, 1) := by decide +kernel
theorem dX11_sound_59 : decode cX11_sound 59 = .ok (.iload_n 2, 1) := by decide +kernel
theorem dX11_sound_60 : decode cX11_sound 60 = .ok (.iload_n 3, 1) := by decide +kernel
theorem dX11_sound_61 : decode cX11_sound 61 = .ok (.invokestatic 98, 3) := by decide +kernel
theorem dX11_sound_64 : decode cX11_sound 64 = .ok (.aload 5, 2) := by decide +kernel
theorem dX11_sound_66 : decode cX11_sound 66 = .ok (.iload 4, 2) := by decide +kernel
theorem dX11_sound_68 : decode cX11_sound 68 = .ok (.putfield 163, 3) := by decide +kernel
theorem dX11_sound_71 : decode cX11_sound 71 = .ok (.aload_n 0, 1) := by decide +kernel
theorem dX11_sound_72 : decode cX11_sound 72 = .ok (.getfield 19, 3) := by decide +kernel
theorem dX11_sound_75 : decode cX11_sound 75 = .ok (.dup, 1) := by decide +kernel
theorem dX11_sound_76 : decode cX11_sound 76 = .ok (.getfield 148, 3) := by decide +kernel
theorem dX11_sound_79 : decode cX11_sound 79 = .ok (.iconst 1, 1) := by decide +kernel
theorem dX11_sound_80 : decode cX11_sound 80 = .ok (.iadd, 1) := by decide +kernel
theorem dX11_sound_81 : decode cX11_sound 81 = .ok (.putfield 148, 3) := by decide +kernel
theorem dX11_sound_84 : decode cX11_sound 84 = .ok (.aload_n 0, 1) := by decide +kernel
theorem dX11_sound_85 : decode cX11_sound 85 = .ok (.invokevirtual 102, 3) := by decide +kernel
theorem dX11_sound_88 : decode cX11_sound 88 = .ok (.aload_n 0, 1) := by decide +kernel
theorem dX11_sound_89 : decode cX11_sound 89 = .ok (.getfield 19, 3) := by decide +kernel
theorem dX11_sound_92 : decode cX11_sound 92 = .ok (.getfield 148, 3) := by decide +kernel
theorem dX11_sound_95 : decode cX11_sound 95 = .ok (.iconst 1, 1) := by decide +kernel
theorem dX11_sound_96 : decode cX11_sound 96 = .ok (.isub, 1) := by decide +kernel
theorem dX11_sound_97 : decode cX11_sound 97 = .ok (.ireturn, 1) := by decide +kernel
def J_X11_sound (x1 x2 x3 x4 : Int) (st : z_St) : Option (z_R (Int × z_St)) :=
  z_x (J_X11_checkTriple x1 x2 x3 st) fun _ =>
    z_x (J_X11_checkRange x4 1 99 st) fun _ =>
      z_g (z32 (st 24 1) ∧ z32 6) (if st 24 1 < 6 then
        z_g (0 ≤ st 24 1 ∧ st 24 1 < 6) <|
        z_b (J_X11_setTriple (29 + 5 * (st 24 1) + 1) x1 x2 x3 st) fun st7 =>
        z_let (z_up st7 (29 + 5 * (st 24 1)) 1 x4) fun st8 =>
        z_let (z_up st8 24 1 ((st8 24 1) + 1)) fun st9 =>
        z_b (J_X11_outdate st9) fun st11 =>
        some (.inl ((st11 24 1) - 1, st11))
      else
        some (.inr (2, st)))
set_option maxRecDepth 100000 in
set_option maxHeartbeats 4000000 in
theorem w_X11_sound {κ : zK} {a : Nat → Nat} {x1 x2 x3 x4 : Int} {st : z_St} {o : z_R (Int × z_St)} (hc : z_C κ RX11 cX11_sound 6 10 (z_mc o) (z_ms o)) (hap : z_AP κ a z_N) (he : z_EX 0 κ (some .int) z_T z_N a o) (h : J_X11_sound x1 x2 x3 x4 st = some o) : z_V κ z_T z_N a 0 0 0 [(0, .ref (a 0)), (1, .int (zI x1)), (2, .int (zI x2)), (3, .int (zI x3)), (4, .int (zI x4))] [] st := by
  unfold J_X11_sound at h
  refine z_iload_n (i := 1) 1 hc dX11_sound_0 rfl rfl ?_
  refine z_iload_n (i := 2) 2 hc dX11_sound_1 rfl rfl ?_
  refine z_iload_n (i := 3) 3 hc dX11_sound_2 rfl rfl ?_
  rcases z_x_cases h with ⟨u9, hr1, h⟩ | ⟨q9, hr1, h⟩
  · refine z_xcallSV [.int (zI x1), .int (zI x2), .int (zI x3)] hc hap o_X11_checkTriple ml_RX11_80 (fun l hl => c_X11_checkTriple_r hl  hr1) (by decide) rfl rfl (Nat.le_of_ble_eq_true rfl) (Nat.zero_le _) (Nat.zero_le _) dX11_sound_3 ?_
    refine z_iload 4 hc dX11_sound_6 rfl ?_
    refine z_iconst hc dX11_sound_8 ?_
    refine z_bipush hc dX11_sound_9 rfl ?_
    rcases z_x_cases h with ⟨u9, hr3, h⟩ | ⟨q9, hr3, h⟩
    · refine z_xcallSV [.int (zI x4), .int (zI 1), .int (zI 99)] hc hap o_X11_checkRange ml_RX11_112 (fun l hl => c_X11_checkRange_r hl  hr3) (by decide) rfl rfl (Nat.le_of_ble_eq_true rfl) (Nat.zero_le _) (Nat.zero_le _) dX11_sound_11 ?_
      refine z_aload_n (i := 0) 0 hc dX11_sound_14 rfl rfl ?_
      refine z_getA (k' := 24) hc fl_RX11_19 tT_0 (by decide) rfl rfl dX11_sound_15 ?_
      refine z_getI (kI := 24) (jI := 1) hc fl_RX11_148 tT_24 (by decide) rfl rfl rfl dX11_sound_18 ?_
      refine z_bipush hc dX11_sound_21 rfl ?_
      refine z_icmp_lt (tgt := 36) hc dX11_sound_23 (by decide) h (fun c23 h => ?_) (fun c23 h => ?_)
      · refine z_aload_n (i := 0) 0 hc dX11_sound_36 rfl rfl ?_
        refine z_getA (k' := 24) hc fl_RX11_19 tT_0 (by decide) rfl rfl dX11_sound_37 ?_
        refine z_getA (k' := 25) hc fl_RX11_153 tT_24 (by decide) rfl rfl dX11_sound_40 ?_
        refine z_aload_n (i := 0) 0 hc dX11_sound_43 rfl rfl ?_
        refine z_getA (k' := 24) hc fl_RX11_19 tT_0 (by decide) rfl rfl dX11_sound_44 ?_
        refine z_getI (kI := 24) (jI := 1) hc fl_RX11_148 tT_24 (by decide) rfl rfl rfl dX11_sound_47 ?_
        refine z_aald (r := 29 + 5 * (st 24 1)) (nI9 := 6) hc tT_25 (by decide) (by decide) rfl (by decide) (fun j9 hj9 => by omega) dX11_sound_50 h (fun g5 h => ?_)
        refine z_astore [(5, .ref (a ((29 + 5 * (st 24 1)).toNat))), (0, .ref (a 0)), (1, .int (zI x1)), (2, .int (zI x2)), (3, .int (zI x3)), (4, .int (zI x4))] hc dX11_sound_51 (by decide) rfl ?_
        refine z_aload 0 hc dX11_sound_53 rfl ?_
        refine z_getA (k' := ((29 + 5 * (st 24 1)).toNat + 1)) hc fl_RX11_157 (z_Sound_T (z_Sound_of g5)) (z_Sound_lt (z_Sound_of g5)) rfl rfl dX11_sound_55 ?_
        refine z_iload_n (i := 1) 2 hc dX11_sound_58 rfl rfl ?_
        refine z_iload_n (i := 2) 3 hc dX11_sound_59 rfl rfl ?_
        refine z_iload_n (i := 3) 4 hc dX11_sound_60 rfl rfl ?_
        obtain ⟨st7, hr6, h⟩ := z_b_some h
        rw [show ((29 + 5 * (st 24 1)).toNat + 1) = (29 + 5 * (st 24 1) + 1).toNat from by have h9 := (z_Sound_c1 (z_Sound_of g5)); omega]
        refine z_callSV [.ref (a ((29 + 5 * (st 24 1) + 1).toNat)), .int (zI x1), .int (zI x2), .int (zI x3)] hc hap o_X11_setTriple ml_RX11_98 (fun l hl => c_X11_setTriple hl (z_isArr_nat (z_Sound_c1 (z_Sound_of g5)) (z_Sound_lt1 (z_Sound_of g5)) (z_Sound_T1 (z_Sound_of g5))) hr6) (by decide) rfl rfl (Nat.le_of_ble_eq_true rfl) (Nat.zero_le _) (Nat.zero_le _) dX11_sound_61 ?_
        refine z_aload 0 hc dX11_sound_64 rfl ?_
        refine z_iload 5 hc dX11_sound_66 rfl ?_
        refine z_putI (kI := 29 + 5 * (st 24 1)) (jI := 1) hc hap fp_RX11_163 (z_Sound_T (z_Sound_of g5)) (z_Sound_lt (z_Sound_of g5)) (z_Sound_c (z_Sound_of g5)) rfl rfl dX11_sound_68 h (fun st8 h => ?_)
        refine z_aload_n (i := 0) 1 hc dX11_sound_71 rfl rfl ?_
        refine z_getA (k' := 24) hc fl_RX11_19 tT_0 (by decide) rfl rfl dX11_sound_72 ?_
        refine z_dup hc dX11_sound_75 rfl ?_
        refine z_getI (kI := 24) (jI := 1) hc fl_RX11_148 tT_24 (by decide) rfl rfl rfl dX11_sound_76 ?_
        refine z_iconst hc dX11_sound_79 ?_
        refine z_iadd hc dX11_sound_80 ?_
        refine z_putI (kI := 24) (jI := 1) hc hap fp_RX11_148 tT_24 (by decide) rfl rfl rfl dX11_sound_81 h (fun st9 h => ?_)
        refine z_aload_n (i := 0) 1 hc dX11_sound_84 rfl rfl ?_
        obtain ⟨st11, hr10, h⟩ := z_b_some h
        refine z_callVV [] hc hap o_X11_outdate ml_RX11_102 (fun l hl => c_X11_outdate hl  hr10) (by decide) tT_0 (by decide) ⟨_, rfl, rfl⟩ rfl rfl (Nat.le_of_ble_eq_true rfl) (Nat.zero_le _) (Nat.zero_le _) dX11_sound_85 ?_
        refine z_aload_n (i := 0) 1 hc dX11_sound_88 rfl rfl ?_
        refine z_getA (k' := 24) hc fl_RX11_19 tT_0 (by decide) rfl rfl dX11_sound_89 ?_
        refine z_getI (kI := 24) (jI := 1) hc fl_RX11_148 tT_24 (by decide) rfl rfl rfl dX11_sound_92 ?_
        refine z_iconst hc dX11_sound_95 ?_
        refine z_isub hc dX11_sound_96 ?_
        have h := Option.some.inj h
        subst h
        exact z_retXI hc he rfl dX11_sound_97
      · have h := Option.some.inj h
        subst h
        exact z_throw (text := "there are 6 sounds") hc he rfl hap oT_RX11_88 (by decide +kernel) (by decide) (Nat.le_of_ble_eq_true rfl) dX11_sound_26 dX11_sound_29 dX11_sound_30 dX11_sound_32 dX11_sound_35
    · obtain ⟨e9, st9⟩ := q9
      subst h
      refine z_xthrS (kd := 2) [.int (zI x4), .int (zI 1), .int (zI 99)] hc hap o_X11_checkRange ml_RX11_112 (fun l hl => c_X11_checkRange_t hl  hr3) (by decide) rfl rfl (Nat.le_of_ble_eq_true rfl) (Nat.le_refl 1) (Nat.le_refl 6) dX11_sound_11 (z_outX hc he rfl)
  · obtain ⟨e9, st9⟩ := q9
    subst h
    refine z_xthrS (kd := 2) [.int (zI x1), .int (zI x2), .int (zI x3)] hc hap o_X11_checkTriple ml_RX11_80 (fun l hl => c_X11_checkTriple_t hl  hr1) (by decide) rfl rfl (Nat.le_of_ble_eq_true rfl) (Nat.le_refl 1) (Nat.le_refl 6) dX11_sound_3 (z_outX hc he rfl)
set_option maxRecDepth 100000 in
set_option maxHeartbeats 4000000 in
theorem c_X11_sound {l : Launch} (hl : l.stackTraces = false) {a : Nat → Nat} {x1 x2 x3 x4 : Int} {st : z_St} {o : z_R (Int × z_St)} (h : J_X11_sound x1 x2 x3 x4 st = some o) : z_MX 0 l yX11_sound cX11_sound 6 (some .int) 10 z_T z_N a [.ref (a 0), .int (zI x1), .int (zI x2), .int (zI x3), .int (zI x4)] st o := z_ofX hl (by decide +kernel) (Nat.le_of_ble_eq_true rfl) (fun κ hc hap he => w_X11_sound hc hap he h)
theorem c_X11_sound_r {l : Launch} (hl : l.stackTraces = false) {a : Nat → Nat} {x1 x2 x3 x4 : Int} {st : z_St} {v9 : Int × z_St} (h : J_X11_sound x1 x2 x3 x4 st = some (.inl v9)) : z_MX 0 l yX11_sound cX11_sound 6 (some .int) 10 z_T z_N a [.ref (a 0), .int (zI x1), .int (zI x2), .int (zI x3), .int (zI x4)] st (.inl v9) := by
  have h9 := c_X11_sound (a := a) (o := .inl v9) hl h
  exact h9
theorem c_X11_sound_t {l : Launch} (hl : l.stackTraces = false) {a : Nat → Nat} {x1 x2 x3 x4 : Int} {st : z_St} {e9 : Nat} {st9 : z_St} (h : J_X11_sound x1 x2 x3 x4 st = some (.inr (e9, st9))) : z_MX 0 l yX11_sound cX11_sound 6 (some .int) 10 z_T z_N a [.ref (a 0), .int (zI x1), .int (zI x2), .int (zI x3), .int (zI x4)] st (.inr (e9, st9)) := by
  have h9 := c_X11_sound (a := a) (o := .inr (e9, st9)) hl h
  exact h9
