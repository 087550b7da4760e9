theorem dX11_partBits_0 : decode cX11_partBits 0 = .ok (.iload_n 0, 1) := by decide +kernel
theorem dX11_partBits_1 : decode cX11_partBits 1 = .ok (.ifCond .le 7, 3) := by decide +kernel
theorem dX11_partBits_4 : decode cX11_partBits 4 = .ok (.iload_n 1, 1) := by decide +kernel
theorem dX11_partBits_5 : decode cX11_partBits 5 = .ok (.ifCond .gt 5, 3) := by decide +kernel
theorem dX11_partBits_8 : decode cX11_partBits 8 = .ok (.iconst 0, 1) := by decide +kernel
theorem dX11_partBits_9 : decode cX11_partBits 9 = .ok (.ireturn, 1) := by decide +kernel
theorem dX11_partBits_10 : decode cX11_partBits 10 = .ok (.iload_n 0, 1) := by decide +kernel
theorem dX11_partBits_11 : decode cX11_partBits 11 = .ok (.i2f, 1) := by decide +kernel
theorem dX11_partBits_12 : decode cX11_partBits 12 = .ok (.iload_n 1, 1) := by decide +kernel
theorem dX11_partBits_13 : decode cX11_partBits 13 = .ok (.i2f, 1) := by decide +kernel
theorem dX11_partBits_14 : decode cX11_partBits 14 = .ok (.fdiv, 1) := by decide +kernel
theorem dX11_partBits_15 : decode cX11_partBits 15 = .ok (.fstore_n 2, 1) := by decide +kernel
theorem dX11_partBits_16 : decode cX11_partBits 16 = .ok (.bipush 127, 2) := by decide +kernel
theorem dX11_partBits_18 : decode cX11_partBits 18 = .ok (.istore_n 3, 1) := by decide +kernel
theorem dX11_partBits_19 : decode cX11_partBits 19 = .ok (.iconst 0, 1) := by decide +kernel
theorem dX11_partBits_20 : decode cX11_partBits 20 = .ok (.istore 4, 2) := by decide +kernel
theorem dX11_partBits_22 : decode cX11_partBits 22 = .ok (.iload 4, 2) := by decide +kernel
theorem dX11_partBits_24 : decode cX11_partBits 24 = .ok (.bipush 127, 2) := by decide +kernel
theorem dX11_partBits_26 : decode cX11_partBits 26 = .ok (.if_icmp .ge 22, 3) := by decide +kernel
theorem dX11_partBits_29 : decode cX11_partBits 29 = .ok (.fload_n 2, 1) := by decide +kernel
theorem dX11_partBits_30 : decode cX11_partBits 30 = .ok (.fconst 1, 1) := by decide +kernel
theorem dX11_partBits_31 : decode cX11_partBits 31 = .ok (.fcmp .g, 1) := by decide +kernel
theorem dX11_partBits_32 : decode cX11_partBits 32 = .ok (.ifCond .ge 16, 3) := by decide +kernel
theorem dX11_partBits_35 : decode cX11_partBits 35 = .ok (.fload_n 2, 1) := by decide +kernel
theorem dX11_partBits_36 : decode cX11_partBits 36 = .ok (.fconst 2, 1) := by decide +kernel
theorem dX11_partBits_37 : decode cX11_partBits 37 = .ok (.fmul, 1) := by decide +kernel
theorem dX11_partBits_38 : decode cX11_partBits 38 = .ok (.fstore_n 2, 1) := by decide +kernel
theorem dX11_partBits_39 : decode cX11_partBits 39 = .ok (.iinc 3 (-1), 3) := by decide +kernel
theorem dX11_partBits_42 : decode cX11_partBits 42 = .ok (.iinc 4 1, 3) := by decide +kernel
theorem dX11_partBits_45 : decode cX11_partBits 45 = .ok (.goto (-23), 3) := by decide +kernel
theorem dX11_partBits_48 : decode cX11_partBits 48 = .ok (.fload_n 2, 1) := by decide +kernel
theorem dX11_partBits_49 : decode cX11_partBits 49 = .ok (.fconst 1, 1) := by decide +kernel
theorem dX11_partBits_50 : decode cX11_partBits 50 = .ok (.fsub, 1) := by decide +kernel
theorem dX11_partBits_51 : decode cX11_partBits 51 = .ok (.ldc_w 391, 3) := by decide +kernel
theorem dX11_partBits_54 : decode cX11_partBits 54 = .ok (.fmul, 1) := by decide +kernel
theorem dX11_partBits_55 : decode cX11_partBits 55 = .ok (.f2i, 1) := by decide +kernel
theorem dX11_partBits_56 : decode cX11_partBits 56 = .ok (.istore 4, 2) := by decide +kernel
theorem dX11_partBits_58 : decode cX11_partBits 58 = .ok (.iload_n 3, 1) := by decide +kernel
theorem dX11_partBits_59 : decode cX11_partBits 59 = .ok (.bipush 23, 2) := by decide +kernel
theorem dX11_partBits_61 : decode cX11_partBits 61 = .ok (.ishl, 1) := by decide +kernel
theorem dX11_partBits_62 : decode cX11_partBits 62 = .ok (.iload 4, 2) := by decide +kernel
theorem dX11_partBits_64 : decode cX11_partBits 64 = .ok (.ior, 1) := by decide +kernel
theorem dX11_partBits_65 : decode cX11_partBits 65 = .ok (.ireturn, 1) := by decide +kernel
set_option maxRecDepth 100000 in
set_option maxHeartbeats 4000000 in
theorem w_X11_partBits_b22 {κ : zK} {a : Nat → Nat} {v0 v1 : Value} {st : z_St} {mc9 ms9 R n : Nat} (hn : n ≤ 20) (hR : 2 ^ 23 ≤ R ∧ R < 2 ^ 24) (hc : z_C κ RX11 cX11_partBits 5 8 mc9 ms9) (kk : ∀ u : UInt32, FP.Core.val32 u = .fin false R (-23) → z_V κ z_T z_N a 0 0 48 [(2, .float u), (3, .int (zI (127 - (n : Int))))] [] st) : ∀ m : Nat, m ≤ n → ∀ u : UInt32, FP.Core.val32 u = .fin false R (-(m : Int) - 23) → z_V κ z_T z_N a 0 0 22 [(2, .float u), (3, .int (zI (127 - ((n : Int) - m)))), (4, .int (zI ((n : Int) - m)))] [] st := by
  intro m
  induction m with
  | zero =>
    intro hm u hu
    refine z_iload (i := 4) 2 hc dX11_partBits_22 rfl ?_
    refine z_bipush hc dX11_partBits_24 rfl ?_
    refine z_icmp_ge (X := some ()) (Y := none) (o := ()) (tgt := 48) hc dX11_partBits_26 (by decide) (by rw [z_g_pos ⟨⟨by omega, by omega⟩, ⟨by decide, by decide⟩⟩, if_pos (by omega)]) (fun c h => ?_) (fun c h => by cases h)
    refine z_fload_n (i := 2) 0 hc dX11_partBits_29 rfl rfl ?_
    refine z_fconst1 hc dX11_partBits_30 ?_
    obtain ⟨v, hv, hv2⟩ := zf_ge hR.1 hu
    refine z_fcmp v hc dX11_partBits_31 hv2 ?_
    refine z_if_ge (X := none) (Y := some ()) (o := ()) (tgt := 48) hc dX11_partBits_32 (by decide) (by rw [z_g_pos ⟨by omega, by omega⟩, if_neg (by omega)]) (fun c h => by cases h) (fun c h => ?_)
    refine z_sub [(2, .float u), (3, .int (zI (127 - (n : Int))))] [0, 1] (by rw [show (127 : Int) - ((n : Int) - ((0 : Nat) : Int)) = 127 - (n : Int) by omega]; rfl) ?_
    exact kk u hu
  | succ m ih =>
    intro hm u hu
    refine z_iload (i := 4) 2 hc dX11_partBits_22 rfl ?_
    refine z_bipush hc dX11_partBits_24 rfl ?_
    refine z_icmp_ge (X := some ()) (Y := none) (o := ()) (tgt := 48) hc dX11_partBits_26 (by decide) (by rw [z_g_pos ⟨⟨by omega, by omega⟩, ⟨by decide, by decide⟩⟩, if_pos (by omega)]) (fun c h => ?_) (fun c h => by cases h)
    refine z_fload_n (i := 2) 0 hc dX11_partBits_29 rfl rfl ?_
    refine z_fconst1 hc dX11_partBits_30 ?_
    refine z_fcmp (-1) hc dX11_partBits_31 (zf_lt hR.2 hu) ?_
    refine z_if_ge (X := some ()) (Y := none) (o := ()) (tgt := 48) hc dX11_partBits_32 (by decide) (by rw [z_g_pos ⟨by decide, by decide⟩, if_pos (by decide)]) (fun c h => ?_) (fun c h => by cases h)
    refine z_fload_n (i := 2) 0 hc dX11_partBits_35 rfl rfl ?_
    refine z_fconst2 hc dX11_partBits_36 ?_
    have hd := zf_dbl (m := m) (by omega) hR hu
    refine z_fmul hc dX11_partBits_37 (zf_n32 hd) ?_
    obtain ⟨w, hw⟩ : ∃ w, FP.fmul u FP.fconst2 = w := ⟨_, rfl⟩
    rw [hw] at hd ⊢
    refine z_fstore_n (i := 2) [(2, .float w), (3, .int (zI (127 - ((n : Int) - ((m + 1 : Nat) : Int))))), (4, .int (zI ((n : Int) - ((m + 1 : Nat) : Int))))] hc dX11_partBits_38 rfl (by decide) rfl ?_
    refine z_iinc [(3, .int (zI (127 - ((n : Int) - ((m + 1 : Nat) : Int)) + -1))), (2, .float w), (4, .int (zI ((n : Int) - ((m + 1 : Nat) : Int))))] 1 hc dX11_partBits_39 rfl (by decide) rfl ?_
    refine z_iinc [(4, .int (zI ((n : Int) - ((m + 1 : Nat) : Int) + 1))), (3, .int (zI (127 - ((n : Int) - ((m + 1 : Nat) : Int)) + -1))), (2, .float w)] 2 hc dX11_partBits_42 rfl (by decide) rfl ?_
    refine z_goto (tgt := 22) hc dX11_partBits_45 (by decide) ?_
    refine z_sub [(2, .float w), (3, .int (zI (127 - ((n : Int) - (m : Int))))), (4, .int (zI ((n : Int) - (m : Int))))] [2, 1, 0] (by
      rw [show (127 : Int) - ((n : Int) - ((m + 1 : Nat) : Int)) + -1 = 127 - ((n : Int) - (m : Int)) by omega, show (n : Int) - ((m + 1 : Nat) : Int) + 1 = (n : Int) - (m : Int) by omega]; rfl) ?_
    exact ih (by omega) w hd
set_option maxRecDepth 100000 in
set_option maxHeartbeats 4000000 in
theorem w_X11_partBits {κ : zK} {a : Nat → Nat} {x0 x1 : Int} {st : z_St} {o : Int} (hc : z_C κ RX11 cX11_partBits 5 8 0 0) (he : z_E 0 κ (some .int) z_T z_N a o st) (h : J_X11_partBits x0 x1 st = some o) : z_V κ z_T z_N a 0 0 0 [(0, .int (zI x0)), (1, .int (zI x1))] [] st := by
  unfold J_X11_partBits at h
  obtain ⟨⟨h1, h2, h3⟩, h⟩ := z_g_some h
  have h := Option.some.inj h
  obtain ⟨n, n1, n2, n3, n4⟩ := zf_ls 20 x0 x1 h1 (by omega) (by omega)
  have hbits := zf_bits (p := x0) (q := x1) h1 (by omega) n2
  have eT : ((x0.toNat * 2 ^ n : Nat) : Int) = x0 * 2 ^ n := by
    rw [Int.natCast_mul, Int.natCast_pow, Int.toNat_of_nonneg (by omega)]
    rfl
  have t1 : x1.toNat ≤ x0.toNat * 2 ^ n := by omega
  have t2 : x0.toNat * 2 ^ n < 2 * x1.toNat := by omega
  have hR := zf_near (T := x0.toNat * 2 ^ n) (q := x1.toNat) ⟨by omega, by omega⟩ t1 t2
  obtain ⟨R, hRe⟩ : ∃ R, FP.Core.nearest (x0.toNat * 2 ^ n * 2 ^ 23) x1.toNat = R := ⟨_, rfl⟩
  have hu : FP.Core.val32 (FP.fdiv (FP.i2f (zI x0)) (FP.i2f (zI x1))) = .fin false R (-(n : Int) - 23) := by
    rw [zf_div ⟨by omega, by omega⟩ ⟨by omega, by omega⟩]
    exact zf_round (by omega) n1 t1 t2 hRe.symm (by rw [← hRe]; exact hR.2)
  rw [hRe] at hR hbits
  refine z_iload_n (i := 0) 0 hc dX11_partBits_0 rfl rfl ?_
  refine z_if_le (X := some ()) (Y := none) (o := ()) (tgt := 8) hc dX11_partBits_1 (by decide) (by rw [z_g_pos ⟨by omega, by omega⟩, if_pos (by omega)]) (fun c9 h9 => ?_) (fun c9 h9 => by cases h9)
  refine z_iload_n (i := 1) 1 hc dX11_partBits_4 rfl rfl ?_
  refine z_if_gt (X := some ()) (Y := none) (o := ()) (tgt := 10) hc dX11_partBits_5 (by decide) (by rw [z_g_pos ⟨by omega, by omega⟩, if_pos (by omega)]) (fun c9 h9 => ?_) (fun c9 h9 => by cases h9)
  refine z_iload_n (i := 0) 0 hc dX11_partBits_10 rfl rfl ?_
  refine z_i2f hc dX11_partBits_11 ?_
  refine z_iload_n (i := 1) 1 hc dX11_partBits_12 rfl rfl ?_
  refine z_i2f hc dX11_partBits_13 ?_
  refine z_fdiv hc dX11_partBits_14 (zf_n32 hu) ?_
  obtain ⟨u, hue⟩ : ∃ u, FP.fdiv (FP.i2f (zI x0)) (FP.i2f (zI x1)) = u := ⟨_, rfl⟩
  rw [hue] at hu ⊢
  refine z_fstore_n (i := 2) [(2, .float u), (0, .int (zI x0)), (1, .int (zI x1))] hc dX11_partBits_15 rfl (by decide) rfl ?_
  refine z_bipush hc dX11_partBits_16 rfl ?_
  refine z_istore_n (i := 3) [(3, .int (zI 127)), (2, .float u), (0, .int (zI x0)), (1, .int (zI x1))] hc dX11_partBits_18 rfl (by decide) rfl ?_
  refine z_iconst hc dX11_partBits_19 ?_
  refine z_istore (i := 4) [(4, .int (zI 0)), (3, .int (zI 127)), (2, .float u), (0, .int (zI x0)), (1, .int (zI x1))] hc dX11_partBits_20 (by decide) rfl ?_
  refine z_sub [(2, .float u), (3, .int (zI (127 - ((n : Int) - (n : Int))))), (4, .int (zI ((n : Int) - (n : Int))))] [2, 1, 0] (by rw [show (n : Int) - (n : Int) = 0 by omega]; rfl) ?_
  refine w_X11_partBits_b22 (v0 := .int (zI x0)) (v1 := .int (zI x1)) n1 hR hc (fun w hw => ?_) n (Nat.le_refl n) u hu
  obtain ⟨⟨c1, q1, e1⟩, ⟨c2, q2, e2⟩, e3⟩ := zf_last hR hw
  refine z_fload_n (i := 2) 0 hc dX11_partBits_48 rfl rfl ?_
  refine z_fconst1 hc dX11_partBits_49 ?_
  refine z_fsub hc dX11_partBits_50 (zf_n32 e1) ?_
  refine z_ldcwf hc kc_RX11_391 dX11_partBits_51 ?_
  refine z_fmul hc dX11_partBits_54 (zf_n32 e2) ?_
  refine z_f2i hc dX11_partBits_55 ?_
  rw [e3]
  refine z_istore (i := 4) [(4, .int (zI ((R : Int) - 8388608))), (2, .float w), (3, .int (zI (127 - (n : Int))))] hc dX11_partBits_56 (by decide) rfl ?_
  refine z_iload_n (i := 3) 2 hc dX11_partBits_58 rfl rfl ?_
  refine z_bipush hc dX11_partBits_59 rfl ?_
  refine z_ishl_r hc dX11_partBits_61 ?_
  refine z_iload (i := 4) 0 hc dX11_partBits_62 rfl ?_
  refine z_ior_r hc dX11_partBits_64 ?_
  have ez : zI (z_ior (z_ishl (127 - (n : Int)) 23) ((R : Int) - 8388608)) = zI o := by
    have a1 : zI (z_ishl (127 - (n : Int)) 23) = zI (((127 - n) * 8388608 : Nat) : Int) := (zI_of _).symm.trans (zf_shl n (by omega))
    show zI (zI (z_ishl (127 - (n : Int)) 23) ||| zI ((R : Int) - 8388608)).toInt = zI o
    rw [← zI_of, a1, show (R : Int) - 8388608 = ((R - 8388608 : Nat) : Int) by omega, zf_or (by omega) (by omega), ← h, hbits]
    obtain ⟨A, hA⟩ : ∃ A, R - 8388608 = A := ⟨_, rfl⟩
    rw [hA]
    exact congrArg zI (show (((127 - n) * 8388608 + A : Nat) : Int) = (127 - (n : Int)) * 8388608 + (R : Int) - 8388608 by omega)
  rw [ez]
  exact z_retI hc he dX11_partBits_65
theorem c_X11_partBits {l : Launch} (hl : l.stackTraces = false) {a : Nat → Nat} {x0 x1 : Int} {st : z_St} {o : Int} (h : J_X11_partBits x0 x1 st = some o) : z_M 0 l yX11_partBits cX11_partBits 5 (some .int) 8 z_T z_N a [.int (zI x0), .int (zI x1)] st o st := z_of hl (by decide +kernel) (Nat.le_of_ble_eq_true rfl) (fun κ hc _ he => w_X11_partBits hc he h)
