theorem dL_ask_0 : decode cL_ask 0 = .ok (.aload_n 0, 1) := by decide +kernel
theorem dL_ask_1 : decode cL_ask 1 = .ok (.iload_n 1, 1) := by decide +kernel
theorem dL_ask_2 : decode cL_ask 2 = .ok (.lload_n 2, 1) := by decide +kernel
theorem dL_ask_3 : decode cL_ask 3 = .ok (.iload 4, 2) := by decide +kernel
theorem dL_ask_5 : decode cL_ask 5 = .ok (.iconst 0, 1) := by decide +kernel
theorem dL_ask_6 : decode cL_ask 6 = .ok (.iconst 0, 1) := by decide +kernel
theorem dL_ask_7 : decode cL_ask 7 = .ok (.invokestatic 119, 3) := by decide +kernel
theorem dL_ask_10 : decode cL_ask 10 = .ok (.lreturn, 1) := by decide +kernel
noncomputable def J_L_ask (x1 x2 x4 : Int) (st : z_St) : Option (Int × z_St) :=
  z_b (J_L_does x1 x2 x4 0 0 st) fun r1 =>
  some (r1.1, r1.2)
set_option maxRecDepth 100000 in
set_option maxHeartbeats 4000000 in
theorem w_L_ask {κ : zK} {a : Nat → Nat} {x1 x2 x4 : Int} {st : z_St} {o : Int × z_St} (hc : z_C κ RL cL_ask 5 27 1 (6 * 1)) (hap : z_AP κ a z_N) (he : z_EU 1 1 κ (some .long) z_T z_N a o.1 o.2) (h : J_L_ask x1 x2 x4 st = some o) : z_V κ z_T z_N a 0 (6 * 0) 0 [(0, .ref (a 0)), (1, .int (zI x1)), (2, .long (zJ x2)), (4, .int (zI x4))] [] st := by
  unfold J_L_ask at h
  refine z_aload_n (i := 0) 0 hc dL_ask_0 rfl rfl ?_
  refine z_iload_n (i := 1) 1 hc dL_ask_1 rfl rfl ?_
  refine z_lload_n (i := 2) 2 hc dL_ask_2 rfl rfl ?_
  refine z_iload 3 hc dL_ask_3 rfl ?_
  refine z_iconst hc dL_ask_5 ?_
  refine z_iconst hc dL_ask_6 ?_
  obtain ⟨r1, hr1, h⟩ := z_b_some h
  refine z_callHJ 1 (6 * 1) (mu := 1) (np := 6) [.ref (a 0), .int (zI x1), .long (zJ x2), .int (zI x4), .int (zI 0), .int (zI 0)] hc hap kL_does ml_RL_119 (z_t2 168 rfl rfl) (z_t1 0 rfl rfl) (by decide +kernel) (by decide) (fun l hl => c_L_does hl hr1) (by decide) rfl rfl (Nat.le_of_ble_eq_true rfl) (by omega) (by omega) (by omega) (by omega) dL_ask_7 ?_
  have h := Option.some.inj h
  subst h
  exact z_retUJ hc he dL_ask_10
set_option maxRecDepth 100000 in
set_option maxHeartbeats 4000000 in
theorem c_L_ask {l : Launch} (hl : l.stackTraces = false) {a : Nat → Nat} {x1 x2 x4 : Int} {st : z_St} {o : Int × z_St} (h : J_L_ask x1 x2 x4 st = some o) : z_MU 1 1 l yL_ask (z_w yL_ask cL_ask 5 (some .long)) 27 z_T z_N a [.ref (a 0), .int (zI x1), .long (zJ x2), .int (zI x4)] st o.1 o.2 := z_ofU hl (by decide +kernel) (Nat.le_of_ble_eq_true rfl) (fun κ hc hap he => w_L_ask hc hap he h)
