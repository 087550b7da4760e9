theorem dL_fits_0 : decode cL_fits 0 = .ok (.aload_n 0, 1) := by decide +kernel
theorem dL_fits_1 : decode cL_fits 1 = .ok (.bipush 25, 2) := by decide +kernel
theorem dL_fits_3 : decode cL_fits 3 = .ok (.lconst 0, 1) := by decide +kernel
theorem dL_fits_4 : decode cL_fits 4 = .ok (.iconst 0, 1) := by decide +kernel
theorem dL_fits_5 : decode cL_fits 5 = .ok (.invokestatic 125, 3) := by decide +kernel
theorem dL_fits_8 : decode cL_fits 8 = .ok (.lstore_n 1, 1) := by decide +kernel
theorem dL_fits_9 : decode cL_fits 9 = .ok (.aload_n 0, 1) := by decide +kernel
theorem dL_fits_10 : decode cL_fits 10 = .ok (.bipush 17, 2) := by decide +kernel
theorem dL_fits_12 : decode cL_fits 12 = .ok (.lconst 0, 1) := by decide +kernel
theorem dL_fits_13 : decode cL_fits 13 = .ok (.iconst 0, 1) := by decide +kernel
theorem dL_fits_14 : decode cL_fits 14 = .ok (.invokestatic 125, 3) := by decide +kernel
theorem dL_fits_17 : decode cL_fits 17 = .ok (.lstore_n 3, 1) := by decide +kernel
theorem dL_fits_18 : decode cL_fits 18 = .ok (.lload_n 3, 1) := by decide +kernel
theorem dL_fits_19 : decode cL_fits 19 = .ok (.lconst 0, 1) := by decide +kernel
theorem dL_fits_20 : decode cL_fits 20 = .ok (.lcmp, 1) := by decide +kernel
theorem dL_fits_21 : decode cL_fits 21 = .ok (.ifCond .ge 19, 3) := by decide +kernel
theorem dL_fits_24 : decode cL_fits 24 = .ok (.lload_n 1, 1) := by decide +kernel
theorem dL_fits_25 : decode cL_fits 25 = .ok (.ldc2_w 117, 3) := by decide +kernel
theorem dL_fits_28 : decode cL_fits 28 = .ok (.lcmp, 1) := by decide +kernel
theorem dL_fits_29 : decode cL_fits 29 = .ok (.ifCond .ne 7, 3) := by decide +kernel
theorem dL_fits_32 : decode cL_fits 32 = .ok (.iconst 1, 1) := by decide +kernel
theorem dL_fits_33 : decode cL_fits 33 = .ok (.goto 25, 3) := by decide +kernel
theorem dL_fits_36 : decode cL_fits 36 = .ok (.iconst 0, 1) := by decide +kernel
theorem dL_fits_37 : decode cL_fits 37 = .ok (.goto 21, 3) := by decide +kernel
theorem dL_fits_40 : decode cL_fits 40 = .ok (.lload_n 1, 1) := by decide +kernel
theorem dL_fits_41 : decode cL_fits 41 = .ok (.aload_n 0, 1) := by decide +kernel
theorem dL_fits_42 : decode cL_fits 42 = .ok (.bipush 15, 2) := by decide +kernel
theorem dL_fits_44 : decode cL_fits 44 = .ok (.lload_n 3, 1) := by decide +kernel
theorem dL_fits_45 : decode cL_fits 45 = .ok (.iconst 0, 1) := by decide +kernel
theorem dL_fits_46 : decode cL_fits 46 = .ok (.invokestatic 125, 3) := by decide +kernel
theorem dL_fits_49 : decode cL_fits 49 = .ok (.lcmp, 1) := by decide +kernel
theorem dL_fits_50 : decode cL_fits 50 = .ok (.ifCond .ne 7, 3) := by decide +kernel
theorem dL_fits_53 : decode cL_fits 53 = .ok (.iconst 1, 1) := by decide +kernel
theorem dL_fits_54 : decode cL_fits 54 = .ok (.goto 4, 3) := by decide +kernel
theorem dL_fits_57 : decode cL_fits 57 = .ok (.iconst 0, 1) := by decide +kernel
theorem dL_fits_58 : decode cL_fits 58 = .ok (.ireturn, 1) := by decide +kernel
noncomputable def J_L_fits_58 (s0 : Int) (st : z_St) : Option (Int × z_St) :=
  z_g (s0 = 0 ∨ s0 = 1) <|
  some (s0, st)
set_option maxRecDepth 100000 in
set_option maxHeartbeats 4000000 in
theorem w_L_fits_58 {κ : zK} {a : Nat → Nat} {s0 : Int} {st : z_St} {o : Int × z_St} (hc : z_C κ RL cL_fits 5 28 3 (6 * 3)) (hap : z_AP κ a z_N) (he : z_EU 0 3 κ (some .boolean) z_T z_N a o.1 o.2) (h : J_L_fits_58 s0 st = some o) : z_V κ z_T z_N a 3 (6 * 3) 58 [] [.int (zI s0)] st := by
  unfold J_L_fits_58 at h
  obtain ⟨hz, h⟩ := z_g_some h
  have h := Option.some.inj h
  subst h
  exact z_retUZ hc he hz dL_fits_58
noncomputable def J_L_fits (st : z_St) : Option (Int × z_St) :=
  z_b (J_L_ask 25 0 0 st) fun r1 =>
  z_b (J_L_ask 17 0 0 r1.2) fun r2 =>
  z_g (z64 r2.1 ∧ z64 0) (if r2.1 < 0 then
    z_g (z64 r1.1 ∧ z64 (-1004)) (if r1.1 = (-1004) then
      J_L_fits_58 1 r2.2
    else
      J_L_fits_58 0 r2.2)
  else
    z_b (J_L_ask 15 r2.1 0 r2.2) fun r3 =>
    z_g (z64 r1.1 ∧ z64 r3.1) (if r1.1 = r3.1 then
      J_L_fits_58 1 r3.2
    else
      J_L_fits_58 0 r3.2))
set_option maxRecDepth 100000 in
set_option maxHeartbeats 4000000 in
theorem w_L_fits {κ : zK} {a : Nat → Nat} {st : z_St} {o : Int × z_St} (hc : z_C κ RL cL_fits 5 28 3 (6 * 3)) (hap : z_AP κ a z_N) (he : z_EU 0 3 κ (some .boolean) z_T z_N a o.1 o.2) (h : J_L_fits st = some o) : z_V κ z_T z_N a 0 (6 * 0) 0 [(0, .ref (a 0))] [] st := by
  unfold J_L_fits at h
  refine z_aload_n (i := 0) 0 hc dL_fits_0 rfl rfl ?_
  refine z_bipush hc dL_fits_1 rfl ?_
  refine z_lconst 0 hc dL_fits_3 rfl ?_
  refine z_iconst hc dL_fits_4 ?_
  obtain ⟨r1, hr1, h⟩ := z_b_some h
  refine z_callUJ 1 (6 * 1) (mu := 1) [.ref (a 0), .int (zI 25), .long (zJ 0), .int (zI 0)] hc hap o_L_ask ml_RL_125 (fun l hl => c_L_ask hl hr1) (by decide) rfl rfl (Nat.le_of_ble_eq_true rfl) (by omega) (by omega) (by omega) (by omega) dL_fits_5 ?_
  refine z_lstore_n (i := 1) [(1, .long (zJ r1.1)), (0, .ref (a 0))] hc dL_fits_8 rfl (by decide) rfl ?_
  refine z_aload_n (i := 0) 1 hc dL_fits_9 rfl rfl ?_
  refine z_bipush hc dL_fits_10 rfl ?_
  refine z_lconst 0 hc dL_fits_12 rfl ?_
  refine z_iconst hc dL_fits_13 ?_
  obtain ⟨r2, hr2, h⟩ := z_b_some h
  refine z_callUJ 2 (6 * 2) (mu := 1) [.ref (a 0), .int (zI 17), .long (zJ 0), .int (zI 0)] hc hap o_L_ask ml_RL_125 (fun l hl => c_L_ask hl hr2) (by decide) rfl rfl (Nat.le_of_ble_eq_true rfl) (by omega) (by omega) (by omega) (by omega) dL_fits_14 ?_
  refine z_lstore_n (i := 3) [(3, .long (zJ r2.1)), (1, .long (zJ r1.1)), (0, .ref (a 0))] hc dL_fits_17 rfl (by decide) rfl ?_
  refine z_lload_n (i := 3) 0 hc dL_fits_18 rfl rfl ?_
  refine z_lconst 0 hc dL_fits_19 rfl ?_
  refine z_lcmp_ge (tgt := 40) hc dL_fits_20 dL_fits_21 (by decide) h (fun c20 h => ?_) (fun c20 h => ?_)
  · refine z_lload_n (i := 1) 1 hc dL_fits_24 rfl rfl ?_
    refine z_ldc2 (-1004) hc kc_RL_117 dL_fits_25 rfl ?_
    refine z_lcmp_ne (tgt := 36) hc dL_fits_28 dL_fits_29 (by decide) h (fun c28 h => ?_) (fun c28 h => ?_)
    · refine z_iconst hc dL_fits_32 ?_
      refine z_goto (tgt := 58) hc dL_fits_33 (by decide) ?_
      refine z_sub [] [] rfl ?_
      refine z_wide (cells' := 3) (slots' := 6 * 3) (Nat.le_of_ble_eq_true rfl) (Nat.le_of_ble_eq_true rfl) ?_
      exact w_L_fits_58 hc hap he h
    · refine z_iconst hc dL_fits_36 ?_
      refine z_goto (tgt := 58) hc dL_fits_37 (by decide) ?_
      refine z_sub [] [] rfl ?_
      refine z_wide (cells' := 3) (slots' := 6 * 3) (Nat.le_of_ble_eq_true rfl) (Nat.le_of_ble_eq_true rfl) ?_
      exact w_L_fits_58 hc hap he h
  · refine z_lload_n (i := 1) 1 hc dL_fits_40 rfl rfl ?_
    refine z_aload_n (i := 0) 2 hc dL_fits_41 rfl rfl ?_
    refine z_bipush hc dL_fits_42 rfl ?_
    refine z_lload_n (i := 3) 0 hc dL_fits_44 rfl rfl ?_
    refine z_iconst hc dL_fits_45 ?_
    obtain ⟨r3, hr3, h⟩ := z_b_some h
    refine z_callUJ 3 (6 * 3) (mu := 1) [.ref (a 0), .int (zI 15), .long (zJ r2.1), .int (zI 0)] hc hap o_L_ask ml_RL_125 (fun l hl => c_L_ask hl hr3) (by decide) rfl rfl (Nat.le_of_ble_eq_true rfl) (by omega) (by omega) (by omega) (by omega) dL_fits_46 ?_
    refine z_lcmp_ne (tgt := 57) hc dL_fits_49 dL_fits_50 (by decide) h (fun c49 h => ?_) (fun c49 h => ?_)
    · refine z_iconst hc dL_fits_53 ?_
      refine z_goto (tgt := 58) hc dL_fits_54 (by decide) ?_
      refine z_sub [] [] rfl ?_
      exact w_L_fits_58 hc hap he h
    · refine z_iconst hc dL_fits_57 ?_
      refine z_sub [] [] rfl ?_
      exact w_L_fits_58 hc hap he h
set_option maxRecDepth 100000 in
set_option maxHeartbeats 4000000 in
theorem c_L_fits {l : Launch} (hl : l.stackTraces = false) {a : Nat → Nat} {st : z_St} {o : Int × z_St} (h : J_L_fits st = some o) : z_MU 0 3 l yL_fits (z_w yL_fits cL_fits 5 (some .boolean)) 28 z_T z_N a [.ref (a 0)] st o.1 o.2 := z_ofU hl (by decide +kernel) (Nat.le_of_ble_eq_true rfl) (fun κ hc hap he => w_L_fits hc hap he h)
