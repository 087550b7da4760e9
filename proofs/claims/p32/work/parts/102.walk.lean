theorem dX5_sort_0 : decode cX5_sort 0 = .ok (.iconst 0, 1) := by decide +kernel
theorem dX5_sort_1 : decode cX5_sort 1 = .ok (.istore_n 1, 1) := by decide +kernel
theorem dX5_sort_2 : decode cX5_sort 2 = .ok (.iconst 0, 1) := by decide +kernel
theorem dX5_sort_3 : decode cX5_sort 3 = .ok (.istore_n 2, 1) := by decide +kernel
theorem dX5_sort_4 : decode cX5_sort 4 = .ok (.iload_n 2, 1) := by decide +kernel
theorem dX5_sort_5 : decode cX5_sort 5 = .ok (.aload_n 0, 1) := by decide +kernel
theorem dX5_sort_6 : decode cX5_sort 6 = .ok (.getfield 32, 3) := by decide +kernel
theorem dX5_sort_9 : decode cX5_sort 9 = .ok (.if_icmp .ge 32, 3) := by decide +kernel
theorem dX5_sort_12 : decode cX5_sort 12 = .ok (.aload_n 0, 1) := by decide +kernel
theorem dX5_sort_13 : decode cX5_sort 13 = .ok (.getfield 15, 3) := by decide +kernel
theorem dX5_sort_16 : decode cX5_sort 16 = .ok (.iload_n 2, 1) := by decide +kernel
theorem dX5_sort_17 : decode cX5_sort 17 = .ok (.laload, 1) := by decide +kernel
theorem dX5_sort_18 : decode cX5_sort 18 = .ok (.ldc2_w 56, 3) := by decide +kernel
theorem dX5_sort_21 : decode cX5_sort 21 = .ok (.lcmp, 1) := by decide +kernel
theorem dX5_sort_22 : decode cX5_sort 22 = .ok (.ifCond .ge 13, 3) := by decide +kernel
theorem dX5_sort_25 : decode cX5_sort 25 = .ok (.aload_n 0, 1) := by decide +kernel
theorem dX5_sort_26 : decode cX5_sort 26 = .ok (.getfield 22, 3) := by decide +kernel
theorem dX5_sort_29 : decode cX5_sort 29 = .ok (.iload_n 1, 1) := by decide +kernel
theorem dX5_sort_30 : decode cX5_sort 30 = .ok (.iload_n 2, 1) := by decide +kernel
theorem dX5_sort_31 : decode cX5_sort 31 = .ok (.iastore, 1) := by decide +kernel
theorem dX5_sort_32 : decode cX5_sort 32 = .ok (.iinc 1 1, 3) := by decide +kernel
theorem dX5_sort_35 : decode cX5_sort 35 = .ok (.iinc 2 1, 3) := by decide +kernel
theorem dX5_sort_38 : decode cX5_sort 38 = .ok (.goto (-34), 3) := by decide +kernel
theorem dX5_sort_41 : decode cX5_sort 41 = .ok (.iconst 1, 1) := by decide +kernel
theorem dX5_sort_42 : decode cX5_sort 42 = .ok (.istore_n 2, 1) := by decide +kernel
theorem dX5_sort_43 : decode cX5_sort 43 = .ok (.iload_n 2, 1) := by decide +kernel
theorem dX5_sort_44 : decode cX5_sort 44 = .ok (.iload_n 1, 1) := by decide +kernel
theorem dX5_sort_45 : decode cX5_sort 45 = .ok (.if_icmp .ge 65, 3) := by decide +kernel
theorem dX5_sort_48 : decode cX5_sort 48 = .ok (.iconst 0, 1) := by decide +kernel
theorem dX5_sort_49 : decode cX5_sort 49 = .ok (.istore_n 3, 1) := by decide +kernel
theorem dX5_sort_50 : decode cX5_sort 50 = .ok (.iload_n 3, 1) := by decide +kernel
theorem dX5_sort_51 : decode cX5_sort 51 = .ok (.iload_n 1, 1) := by decide +kernel
theorem dX5_sort_52 : decode cX5_sort 52 = .ok (.if_icmp .ge 33, 3) := by decide +kernel
theorem dX5_sort_55 : decode cX5_sort 55 = .ok (.aload_n 0, 1) := by decide +kernel
theorem dX5_sort_56 : decode cX5_sort 56 = .ok (.iload_n 3, 1) := by decide +kernel
theorem dX5_sort_57 : decode cX5_sort 57 = .ok (.iload_n 3, 1) := by decide +kernel
theorem dX5_sort_58 : decode cX5_sort 58 = .ok (.iload_n 2, 1) := by decide +kernel
theorem dX5_sort_59 : decode cX5_sort 59 = .ok (.iadd, 1) := by decide +kernel
theorem dX5_sort_60 : decode cX5_sort 60 = .ok (.iload_n 1, 1) := by decide +kernel
theorem dX5_sort_61 : decode cX5_sort 61 = .ok (.invokestatic 77, 3) := by decide +kernel
theorem dX5_sort_64 : decode cX5_sort 64 = .ok (.iload_n 3, 1) := by decide +kernel
theorem dX5_sort_65 : decode cX5_sort 65 = .ok (.iconst 2, 1) := by decide +kernel
theorem dX5_sort_66 : decode cX5_sort 66 = .ok (.iload_n 2, 1) := by decide +kernel
theorem dX5_sort_67 : decode cX5_sort 67 = .ok (.imul, 1) := by decide +kernel
theorem dX5_sort_68 : decode cX5_sort 68 = .ok (.iadd, 1) := by decide +kernel
theorem dX5_sort_69 : decode cX5_sort 69 = .ok (.iload_n 1, 1) := by decide +kernel
theorem dX5_sort_70 : decode cX5_sort 70 = .ok (.invokestatic 77, 3) := by decide +kernel
theorem dX5_sort_73 : decode cX5_sort 73 = .ok (.invokevirtual 80, 3) := by decide +kernel
theorem dX5_sort_76 : decode cX5_sort 76 = .ok (.iload_n 3, 1) := by decide +kernel
theorem dX5_sort_77 : decode cX5_sort 77 = .ok (.iconst 2, 1) := by decide +kernel
theorem dX5_sort_78 : decode cX5_sort 78 = .ok (.iload_n 2, 1) := by decide +kernel
theorem dX5_sort_79 : decode cX5_sort 79 = .ok (.imul, 1) := by decide +kernel
theorem dX5_sort_80 : decode cX5_sort 80 = .ok (.iadd, 1) := by decide +kernel
theorem dX5_sort_81 : decode cX5_sort 81 = .ok (.istore_n 3, 1) := by decide +kernel
theorem dX5_sort_82 : decode cX5_sort 82 = .ok (.goto (-32), 3) := by decide +kernel
theorem dX5_sort_85 : decode cX5_sort 85 = .ok (.aload_n 0, 1) := by decide +kernel
theorem dX5_sort_86 : decode cX5_sort 86 = .ok (.getfield 25, 3) := by decide +kernel
theorem dX5_sort_89 : decode cX5_sort 89 = .ok (.astore_n 3, 1) := by decide +kernel
theorem dX5_sort_90 : decode cX5_sort 90 = .ok (.aload_n 0, 1) := by decide +kernel
theorem dX5_sort_91 : decode cX5_sort 91 = .ok (.aload_n 0, 1) := by decide +kernel
theorem dX5_sort_92 : decode cX5_sort 92 = .ok (.getfield 22, 3) := by decide +kernel
theorem dX5_sort_95 : decode cX5_sort 95 = .ok (.putfield 25, 3) := by decide +kernel
theorem dX5_sort_98 : decode cX5_sort 98 = .ok (.aload_n 0, 1) := by decide +kernel
theorem dX5_sort_99 : decode cX5_sort 99 = .ok (.aload_n 3, 1) := by decide +kernel
theorem dX5_sort_100 : decode cX5_sort 100 = .ok (.putfield 22, 3) := by decide +kernel
theorem dX5_sort_103 : decode cX5_sort 103 = .ok (.iload_n 2, 1) := by decide +kernel
theorem dX5_sort_104 : decode cX5_sort 104 = .ok (.iconst 2, 1) := by decide +kernel
theorem dX5_sort_105 : decode cX5_sort 105 = .ok (.imul, 1) := by decide +kernel
theorem dX5_sort_106 : decode cX5_sort 106 = .ok (.istore_n 2, 1) := by decide +kernel
theorem dX5_sort_107 : decode cX5_sort 107 = .ok (.goto (-64), 3) := by decide +kernel
theorem dX5_sort_110 : decode cX5_sort 110 = .ok (.aload_n 0, 1) := by decide +kernel
theorem dX5_sort_111 : decode cX5_sort 111 = .ok (.iconst 1, 1) := by decide +kernel
theorem dX5_sort_112 : decode cX5_sort 112 = .ok (.putfield 45, 3) := by decide +kernel
theorem dX5_sort_115 : decode cX5_sort 115 = .ok (.return_, 1) := by decide +kernel
def J_X5_sort_35 (v1 v2 : Int) (st : z_St) : Option ((Int × Int × z_St) ⊕ (Int × z_St)) :=
  some (.inl (v1, v2 + 1, st))
set_option maxRecDepth 100000 in
set_option maxHeartbeats 4000000 in
theorem w_X5_sort_35 {κ : zK} {a : Nat → Nat} {v1 v2 : Int} {st : z_St} {mc9 ms9 : Nat} {o : (Int × Int × z_St) ⊕ (Int × z_St)} (hc : z_C κ RX5 cX5_sort 4 9 mc9 ms9) (hap : z_AP κ a z_N) (k1 : ∀ s9 : (Int × Int × z_St), o = .inl s9 → z_V κ z_T z_N a 0 0 4 [(0, .ref (a 134)), (1, .int (zI s9.1)), (2, .int (zI s9.2.1))] [] s9.2.2) (k2 : ∀ x9 : (Int × z_St), o = .inr x9 → z_V κ z_T z_N a 0 0 41 [(0, .ref (a 134)), (1, .int (zI x9.1))] [] x9.2) (h : J_X5_sort_35 v1 v2 st = some o) : z_V κ z_T z_N a 0 0 35 [(0, .ref (a 134)), (1, .int (zI v1)), (2, .int (zI v2))] [] st := by
  unfold J_X5_sort_35 at h
  refine z_iinc [(2, .int (zI (v2 + 1))), (0, .ref (a 134)), (1, .int (zI v1))] 2 hc dX5_sort_35 rfl (by decide) rfl ?_
  refine z_goto (tgt := 4) hc dX5_sort_38 (by decide) ?_
  refine z_sub [(0, .ref (a 134)), (1, .int (zI v1)), (2, .int (zI (v2 + 1)))] [1, 2, 0] rfl ?_
  exact k1 _ (Option.some.inj h).symm
def J_X5_sort_b4 (v1 v2 : Int) (st : z_St) : Option ((Int × Int × z_St) ⊕ (Int × z_St)) :=
  z_g (z32 v2 ∧ z32 (st 134 6)) (if v2 < st 134 6 then
    z_g (0 ≤ v2 ∧ v2 < 780) <|
    z_g (z64 (st 136 v2) ∧ z64 1152921504606846976) (if st 136 v2 < 1152921504606846976 then
      z_g ((st 134 3) = 138 ∨ (st 134 3) = 139) <|
      z_g (0 ≤ v1 ∧ v1 < 780) <|
      z_let (z_up st (st 134 3) v1 v2) fun st3 =>
      J_X5_sort_35 (v1 + 1) v2 st3
    else
      J_X5_sort_35 v1 v2 st)
  else
    some (.inr (v1, st)))
set_option maxRecDepth 100000 in
set_option maxHeartbeats 4000000 in
theorem w_X5_sort_b4 {κ : zK} {a : Nat → Nat} {v1 v2 : Int} {st : z_St} {mc9 ms9 : Nat} {o : (Int × Int × z_St) ⊕ (Int × z_St)} (hc : z_C κ RX5 cX5_sort 4 9 mc9 ms9) (hap : z_AP κ a z_N) (k1 : ∀ s9 : (Int × Int × z_St), o = .inl s9 → z_V κ z_T z_N a 0 0 4 [(0, .ref (a 134)), (1, .int (zI s9.1)), (2, .int (zI s9.2.1))] [] s9.2.2) (k2 : ∀ x9 : (Int × z_St), o = .inr x9 → z_V κ z_T z_N a 0 0 41 [(0, .ref (a 134)), (1, .int (zI x9.1))] [] x9.2) (h : J_X5_sort_b4 v1 v2 st = some o) : z_V κ z_T z_N a 0 0 4 [(0, .ref (a 134)), (1, .int (zI v1)), (2, .int (zI v2))] [] st := by
  unfold J_X5_sort_b4 at h
  refine z_iload_n (i := 2) 2 hc dX5_sort_4 rfl rfl ?_
  refine z_aload_n (i := 0) 0 hc dX5_sort_5 rfl rfl ?_
  refine z_getI (kI := 134) (jI := 6) hc fl_RX5_32 tT_134 (by decide) rfl rfl rfl dX5_sort_6 ?_
  refine z_icmp_ge (tgt := 41) hc dX5_sort_9 (by decide) h (fun c9 h => ?_) (fun c9 h => ?_)
  · refine z_aload_n (i := 0) 0 hc dX5_sort_12 rfl rfl ?_
    refine z_getA (k' := 136) hc fl_RX5_15 tT_134 (by decide) rfl rfl dX5_sort_13 ?_
    refine z_iload_n (i := 2) 2 hc dX5_sort_16 rfl rfl ?_
    refine z_lald (kI := 136) (nI9 := 780) hc tT_136 (by decide) rfl rfl (by decide) dX5_sort_17 h (fun g1 h => ?_)
    refine z_ldc2 1152921504606846976 hc kc_RX5_56 dX5_sort_18 rfl ?_
    refine z_lcmp_ge (tgt := 35) hc dX5_sort_21 dX5_sort_22 (by decide) h (fun c21 h => ?_) (fun c21 h => ?_)
    · refine z_aload_n (i := 0) 0 hc dX5_sort_25 rfl rfl ?_
      refine z_getV (u := 138) (v := 139) (kI := 134) (jI := 3) hc fl_RX5_22 tT_134 (by decide) rfl rfl rfl (by decide) dX5_sort_26 h (fun g2 h => ?_)
      refine z_iload_n (i := 1) 1 hc dX5_sort_29 rfl rfl ?_
      refine z_iload_n (i := 2) 2 hc dX5_sort_30 rfl rfl ?_
      refine z_iast (kI := (st 134 3)) (nI9 := 780) hc hap (z_ord_T g2) (z_ord_lt g2) (z_ord_c g2) rfl (by decide) dX5_sort_31 h (fun st3 h => ?_)
      refine z_iinc [(1, .int (zI (v1 + 1))), (0, .ref (a 134)), (2, .int (zI v2))] 1 hc dX5_sort_32 rfl (by decide) rfl ?_
      refine z_sub [(0, .ref (a 134)), (1, .int (zI (v1 + 1))), (2, .int (zI v2))] [1, 0, 2] rfl ?_
      exact w_X5_sort_35 hc hap k1 k2 h
    · refine z_sub [(0, .ref (a 134)), (1, .int (zI v1)), (2, .int (zI v2))] [0, 1, 2] rfl ?_
      exact w_X5_sort_35 hc hap k1 k2 h
  · refine z_sub [(0, .ref (a 134)), (1, .int (zI v1))] [0, 1] rfl ?_
    exact k2 (v1, st) (Option.some.inj h).symm
def J_X5_sort_b50 (v1 v2 v3 : Int) (st : z_St) : Option ((Int × z_St) ⊕ z_St) :=
  z_g (z32 v3 ∧ z32 v1) (if v3 < v1 then
    z_g (z32 (v3 + v2) ∧ z32 v1) <|
    z_g (z32 (v3 + (2 * v2)) ∧ z32 v1) <|
    z_b (J_X5_merge v3 (min (v3 + v2) v1) (min (v3 + (2 * v2)) v1) st) fun st6 =>
    some (.inl (v3 + (2 * v2), st6))
  else
    some (.inr st))
set_option maxRecDepth 100000 in
set_option maxHeartbeats 4000000 in
theorem w_X5_sort_b50 {κ : zK} {a : Nat → Nat} {v1 v2 v3 : Int} {st : z_St} {mc9 ms9 : Nat} {o : (Int × z_St) ⊕ z_St} (hc : z_C κ RX5 cX5_sort 4 9 mc9 ms9) (hap : z_AP κ a z_N) (k1 : ∀ s9 : (Int × z_St), o = .inl s9 → z_V κ z_T z_N a 0 0 50 [(0, .ref (a 134)), (1, .int (zI v1)), (2, .int (zI v2)), (3, .int (zI s9.1))] [] s9.2) (k2 : ∀ x9 : z_St, o = .inr x9 → z_V κ z_T z_N a 0 0 85 [(0, .ref (a 134)), (1, .int (zI v1)), (2, .int (zI v2))] [] x9) (h : J_X5_sort_b50 v1 v2 v3 st = some o) : z_V κ z_T z_N a 0 0 50 [(0, .ref (a 134)), (1, .int (zI v1)), (2, .int (zI v2)), (3, .int (zI v3))] [] st := by
  unfold J_X5_sort_b50 at h
  refine z_iload_n (i := 3) 3 hc dX5_sort_50 rfl rfl ?_
  refine z_iload_n (i := 1) 1 hc dX5_sort_51 rfl rfl ?_
  refine z_icmp_ge (tgt := 85) hc dX5_sort_52 (by decide) h (fun c52 h => ?_) (fun c52 h => ?_)
  · refine z_aload_n (i := 0) 0 hc dX5_sort_55 rfl rfl ?_
    refine z_iload_n (i := 3) 3 hc dX5_sort_56 rfl rfl ?_
    refine z_iload_n (i := 3) 3 hc dX5_sort_57 rfl rfl ?_
    refine z_iload_n (i := 2) 2 hc dX5_sort_58 rfl rfl ?_
    refine z_iadd hc dX5_sort_59 ?_
    refine z_iload_n (i := 1) 1 hc dX5_sort_60 rfl rfl ?_
    refine z_minI hc ml_RX5_77 h ⟨rfl, rfl, Nat.le_of_ble_eq_true rfl, by omega⟩ dX5_sort_61 (fun h => ?_)
    refine z_iload_n (i := 3) 3 hc dX5_sort_64 rfl rfl ?_
    refine z_iconst hc dX5_sort_65 ?_
    refine z_iload_n (i := 2) 2 hc dX5_sort_66 rfl rfl ?_
    refine z_imul hc dX5_sort_67 ?_
    refine z_iadd hc dX5_sort_68 ?_
    refine z_iload_n (i := 1) 1 hc dX5_sort_69 rfl rfl ?_
    refine z_minI hc ml_RX5_77 h ⟨rfl, rfl, Nat.le_of_ble_eq_true rfl, by omega⟩ dX5_sort_70 (fun h => ?_)
    obtain ⟨st6, hr5, h⟩ := z_b_some h
    refine z_callVV [.int (zI v3), .int (zI (min (v3 + v2) v1)), .int (zI (min (v3 + (2 * v2)) v1))] hc hap o_X5_merge ml_RX5_80 (fun l hl => c_X5_merge hl  hr5) (by decide) tT_134 (by decide) ⟨_, rfl, rfl⟩ rfl rfl (Nat.le_of_ble_eq_true rfl) (Nat.zero_le _) (Nat.zero_le _) dX5_sort_73 ?_
    refine z_iload_n (i := 3) 3 hc dX5_sort_76 rfl rfl ?_
    refine z_iconst hc dX5_sort_77 ?_
    refine z_iload_n (i := 2) 2 hc dX5_sort_78 rfl rfl ?_
    refine z_imul hc dX5_sort_79 ?_
    refine z_iadd hc dX5_sort_80 ?_
    refine z_istore_n (i := 3) [(3, .int (zI (v3 + (2 * v2)))), (0, .ref (a 134)), (1, .int (zI v1)), (2, .int (zI v2))] hc dX5_sort_81 rfl (by decide) rfl ?_
    refine z_goto (tgt := 50) hc dX5_sort_82 (by decide) ?_
    refine z_sub [(0, .ref (a 134)), (1, .int (zI v1)), (2, .int (zI v2)), (3, .int (zI (v3 + (2 * v2))))] [1, 2, 3, 0] rfl ?_
    exact k1 _ (Option.some.inj h).symm
  · refine z_sub [(0, .ref (a 134)), (1, .int (zI v1)), (2, .int (zI v2))] [0, 1, 2] rfl ?_
    exact k2 st (Option.some.inj h).symm
def J_X5_sort_b43 (v1 v2 : Int) (st : z_St) : Option ((Int × z_St) ⊕ z_St) :=
  z_g (z32 v2 ∧ z32 v1) (if v2 < v1 then
    z_b (z_iter z_F (fun q9 : (Int × z_St) => J_X5_sort_b50 v1 v2 q9.1 q9.2) (0, st)) fun lx7 =>
      z_g ((lx7 134 4) = 138 ∨ (lx7 134 4) = 139) <|
      z_g ((lx7 134 3) = 138 ∨ (lx7 134 3) = 139) <|
      z_let (z_up lx7 134 4 (lx7 134 3)) fun st10 =>
      z_let (z_up st10 134 3 (lx7 134 4)) fun st11 =>
      some (.inl (v2 * 2, st11))
  else
    some (.inr st))
set_option maxRecDepth 100000 in
set_option maxHeartbeats 4000000 in
theorem w_X5_sort_b43 {κ : zK} {a : Nat → Nat} {v1 v2 : Int} {st : z_St} {mc9 ms9 : Nat} {o : (Int × z_St) ⊕ z_St} (hc : z_C κ RX5 cX5_sort 4 9 mc9 ms9) (hap : z_AP κ a z_N) (k1 : ∀ s9 : (Int × z_St), o = .inl s9 → z_V κ z_T z_N a 0 0 43 [(0, .ref (a 134)), (1, .int (zI v1)), (2, .int (zI s9.1))] [] s9.2) (k2 : ∀ x9 : z_St, o = .inr x9 → z_V κ z_T z_N a 0 0 110 [(0, .ref (a 134))] [] x9) (h : J_X5_sort_b43 v1 v2 st = some o) : z_V κ z_T z_N a 0 0 43 [(0, .ref (a 134)), (1, .int (zI v1)), (2, .int (zI v2))] [] st := by
  unfold J_X5_sort_b43 at h
  refine z_iload_n (i := 2) 2 hc dX5_sort_43 rfl rfl ?_
  refine z_iload_n (i := 1) 1 hc dX5_sort_44 rfl rfl ?_
  refine z_icmp_ge (tgt := 110) hc dX5_sort_45 (by decide) h (fun c45 h => ?_) (fun c45 h => ?_)
  · refine z_iconst hc dX5_sort_48 ?_
    refine z_istore_n (i := 3) [(3, .int (zI 0)), (0, .ref (a 134)), (1, .int (zI v1)), (2, .int (zI v2))] hc dX5_sort_49 rfl (by decide) rfl ?_
    obtain ⟨lx7, hlx7, h⟩ := z_b_some h
    refine z_sub [(0, .ref (a 134)), (1, .int (zI v1)), (2, .int (zI v2)), (3, .int (zI 0))] [1, 2, 3, 0] rfl ?_
    refine z_loop (fun q9 : (Int × z_St) => J_X5_sort_b50 v1 v2 q9.1 q9.2) (fun q9 : (Int × z_St) => z_V κ z_T z_N a 0 0 50 [(0, .ref (a 134)), (1, .int (zI v1)), (2, .int (zI v2)), (3, .int (zI q9.1))] [] q9.2) (fun x9 : z_St => z_V κ z_T z_N a 0 0 85 [(0, .ref (a 134)), (1, .int (zI v1)), (2, .int (zI v2))] [] x9) (fun q9 o9 hb k1 k2 => ?_) _ _ _ hlx7 ?_
    · exact w_X5_sort_b50 hc hap k1 k2 hb
    · show z_V κ z_T z_N a 0 0 85 [(0, .ref (a 134)), (1, .int (zI v1)), (2, .int (zI v2))] [] lx7
      refine z_aload_n (i := 0) 0 hc dX5_sort_85 rfl rfl ?_
      refine z_getV (u := 138) (v := 139) (kI := 134) (jI := 4) hc fl_RX5_25 tT_134 (by decide) rfl rfl rfl (by decide) dX5_sort_86 h (fun g8 h => ?_)
      refine z_astore_n (i := 3) [(3, .ref (a ((lx7 134 4).toNat))), (0, .ref (a 134)), (1, .int (zI v1)), (2, .int (zI v2))] hc dX5_sort_89 rfl (by decide) rfl ?_
      refine z_aload_n (i := 0) 1 hc dX5_sort_90 rfl rfl ?_
      refine z_aload_n (i := 0) 1 hc dX5_sort_91 rfl rfl ?_
      refine z_getV (u := 138) (v := 139) (kI := 134) (jI := 3) hc fl_RX5_22 tT_134 (by decide) rfl rfl rfl (by decide) dX5_sort_92 h (fun g9 h => ?_)
      refine z_putV (kI := 134) (jI := 4) (x := (lx7 134 3)) hc hap fp_RX5_25 tT_134 (by decide) rfl rfl rfl (z_ord_0 g9) rfl dX5_sort_95 h (fun st10 h => ?_)
      refine z_aload_n (i := 0) 1 hc dX5_sort_98 rfl rfl ?_
      refine z_aload_n (i := 3) 0 hc dX5_sort_99 rfl rfl ?_
      refine z_putV (kI := 134) (jI := 3) (x := (lx7 134 4)) hc hap fp_RX5_22 tT_134 (by decide) rfl rfl rfl (z_ord_0 g8) rfl dX5_sort_100 h (fun st11 h => ?_)
      refine z_iload_n (i := 2) 3 hc dX5_sort_103 rfl rfl ?_
      refine z_iconst hc dX5_sort_104 ?_
      refine z_imul hc dX5_sort_105 ?_
      refine z_istore_n (i := 2) [(2, .int (zI (v2 * 2))), (3, .ref (a ((lx7 134 4).toNat))), (0, .ref (a 134)), (1, .int (zI v1))] hc dX5_sort_106 rfl (by decide) rfl ?_
      refine z_goto (tgt := 43) hc dX5_sort_107 (by decide) ?_
      refine z_sub [(0, .ref (a 134)), (1, .int (zI v1)), (2, .int (zI (v2 * 2)))] [2, 3, 0] rfl ?_
      exact k1 _ (Option.some.inj h).symm
  · refine z_sub [(0, .ref (a 134))] [0] rfl ?_
    exact k2 st (Option.some.inj h).symm
def J_X5_sort (st : z_St) : Option (z_St) :=
  z_b (z_iter z_F (fun q9 : (Int × Int × z_St) => J_X5_sort_b4 q9.1 q9.2.1 q9.2.2) (0, 0, st)) fun lx4 =>
    z_b (z_iter z_F (fun q9 : (Int × z_St) => J_X5_sort_b43 lx4.1 q9.1 q9.2) (1, lx4.2)) fun lx12 =>
      z_g (1 = 0 ∨ 1 = 1) <|
      z_let (z_up lx12 134 10 1) fun st13 =>
      some st13
set_option maxRecDepth 100000 in
set_option maxHeartbeats 4000000 in
theorem w_X5_sort {κ : zK} {a : Nat → Nat} {st : z_St} {o : z_St} (hc : z_C κ RX5 cX5_sort 4 9 0 0) (hap : z_AP κ a z_N) (he : z_E 2 κ none z_T z_N a 0 o) (h : J_X5_sort st = some o) : z_V κ z_T z_N a 0 0 0 [(0, .ref (a 134))] [] st := by
  unfold J_X5_sort at h
  refine z_iconst hc dX5_sort_0 ?_
  refine z_istore_n (i := 1) [(1, .int (zI 0)), (0, .ref (a 134))] hc dX5_sort_1 rfl (by decide) rfl ?_
  refine z_iconst hc dX5_sort_2 ?_
  refine z_istore_n (i := 2) [(2, .int (zI 0)), (1, .int (zI 0)), (0, .ref (a 134))] hc dX5_sort_3 rfl (by decide) rfl ?_
  obtain ⟨lx4, hlx4, h⟩ := z_b_some h
  refine z_sub [(0, .ref (a 134)), (1, .int (zI 0)), (2, .int (zI 0))] [2, 1, 0] rfl ?_
  refine z_loop (fun q9 : (Int × Int × z_St) => J_X5_sort_b4 q9.1 q9.2.1 q9.2.2) (fun q9 : (Int × Int × z_St) => z_V κ z_T z_N a 0 0 4 [(0, .ref (a 134)), (1, .int (zI q9.1)), (2, .int (zI q9.2.1))] [] q9.2.2) (fun x9 : (Int × z_St) => z_V κ z_T z_N a 0 0 41 [(0, .ref (a 134)), (1, .int (zI x9.1))] [] x9.2) (fun q9 o9 hb k1 k2 => ?_) _ _ _ hlx4 ?_
  · exact w_X5_sort_b4 hc hap k1 k2 hb
  · show z_V κ z_T z_N a 0 0 41 [(0, .ref (a 134)), (1, .int (zI lx4.1))] [] lx4.2
    refine z_iconst hc dX5_sort_41 ?_
    refine z_istore_n (i := 2) [(2, .int (zI 1)), (0, .ref (a 134)), (1, .int (zI lx4.1))] hc dX5_sort_42 rfl (by decide) rfl ?_
    obtain ⟨lx12, hlx12, h⟩ := z_b_some h
    refine z_sub [(0, .ref (a 134)), (1, .int (zI lx4.1)), (2, .int (zI 1))] [1, 2, 0] rfl ?_
    refine z_loop (fun q9 : (Int × z_St) => J_X5_sort_b43 lx4.1 q9.1 q9.2) (fun q9 : (Int × z_St) => z_V κ z_T z_N a 0 0 43 [(0, .ref (a 134)), (1, .int (zI lx4.1)), (2, .int (zI q9.1))] [] q9.2) (fun x9 : z_St => z_V κ z_T z_N a 0 0 110 [(0, .ref (a 134))] [] x9) (fun q9 o9 hb k1 k2 => ?_) _ _ _ hlx12 ?_
    · exact w_X5_sort_b43 hc hap k1 k2 hb
    · show z_V κ z_T z_N a 0 0 110 [(0, .ref (a 134))] [] lx12
      refine z_aload_n (i := 0) 0 hc dX5_sort_110 rfl rfl ?_
      refine z_iconst hc dX5_sort_111 ?_
      refine z_putZ (kI := 134) (jI := 10) hc hap fp_RX5_45 tT_134 (by decide) rfl rfl rfl dX5_sort_112 h (fun st13 h => ?_)
      have h := Option.some.inj h
      subst h
      exact z_retV hc he dX5_sort_115
set_option maxRecDepth 100000 in
set_option maxHeartbeats 4000000 in
theorem c_X5_sort {l : Launch} (hl : l.stackTraces = false) {a : Nat → Nat} {st : z_St} {o : z_St} (h : J_X5_sort st = some o) : z_M 2 l yX5_sort cX5_sort 4 none 9 z_T z_N a [.ref (a 134)] st 0 o := z_of hl (by decide +kernel) (Nat.le_of_ble_eq_true rfl) (fun κ hc hap he => w_X5_sort hc hap he h)
theorem dX5_numberAt_0 : decode cX5_numberAt 0 = .ok (.iload_n 1, 1) := by decide +kernel
theorem dX5_numberAt_1 : decode cX5_numberAt 1 = .ok (.aload_n 0, 1) := by decide +kernel
theorem dX5_numberAt_2 : decode cX5_numberAt 2 = .ok (.getfield 35, 3) := by decide +kernel
theorem dX5_numberAt_5 : decode cX5_numberAt 5 = .ok (.if_icmp .lt 5, 3) := by decide +kernel
theorem dX5_numberAt_8 : decode cX5_numberAt 8 = .ok (.iconst (-1), 1) := by decide +kernel
theorem dX5_numberAt_9 : decode cX5_numberAt 9 = .ok (.ireturn, 1) := by decide +kernel
theorem dX5_numberAt_10 : decode cX5_numberAt 10 = .ok (.iload_n 1, 1) := by decide +kernel
theorem dX5_numberAt_11 : decode cX5_numberAt 11 = .ok (.ifCond .ne 25, 3) := by decide +kernel
theorem dX5_numberAt_14 : decode cX5_numberAt 14 = .ok (.aload_n 0, 1) := by decide +kernel
theorem dX5_numberAt_15 : decode cX5_numberAt 15 = .ok (.getfield 38, 3) := by decide +kernel
theorem dX5_numberAt_18 : decode cX5_numberAt 18 = .ok (.iconst (-1), 1) := by decide +kernel
theorem dX5_numberAt_19 : decode cX5_numberAt 19 = .ok (.if_icmp .ne 7, 3) := by decide +kernel
theorem dX5_numberAt_22 : decode cX5_numberAt 22 = .ok (.iconst (-1), 1) := by decide +kernel
theorem dX5_numberAt_23 : decode cX5_numberAt 23 = .ok (.goto 12, 3) := by decide +kernel
theorem dX5_numberAt_26 : decode cX5_numberAt 26 = .ok (.aload_n 0, 1) := by decide +kernel
theorem dX5_numberAt_27 : decode cX5_numberAt 27 = .ok (.getfield 9, 3) := by decide +kernel
theorem dX5_numberAt_30 : decode cX5_numberAt 30 = .ok (.aload_n 0, 1) := by decide +kernel
theorem dX5_numberAt_31 : decode cX5_numberAt 31 = .ok (.getfield 38, 3) := by decide +kernel
theorem dX5_numberAt_34 : decode cX5_numberAt 34 = .ok (.iaload, 1) := by decide +kernel
theorem dX5_numberAt_35 : decode cX5_numberAt 35 = .ok (.ireturn, 1) := by decide +kernel
theorem dX5_numberAt_36 : decode cX5_numberAt 36 = .ok (.aload_n 0, 1) := by decide +kernel
theorem dX5_numberAt_37 : decode cX5_numberAt 37 = .ok (.getfield 45, 3) := by decide +kernel
theorem dX5_numberAt_40 : decode cX5_numberAt 40 = .ok (.ifCond .ne 7, 3) := by decide +kernel
theorem dX5_numberAt_43 : decode cX5_numberAt 43 = .ok (.aload_n 0, 1) := by decide +kernel
theorem dX5_numberAt_44 : decode cX5_numberAt 44 = .ok (.invokevirtual 74, 3) := by decide +kernel
theorem dX5_numberAt_47 : decode cX5_numberAt 47 = .ok (.aload_n 0, 1) := by decide +kernel
theorem dX5_numberAt_48 : decode cX5_numberAt 48 = .ok (.getfield 9, 3) := by decide +kernel
theorem dX5_numberAt_51 : decode cX5_numberAt 51 = .ok (.aload_n 0, 1) := by decide +kernel
theorem dX5_numberAt_52 : decode cX5_numberAt 52 = .ok (.getfield 22, 3) := by decide +kernel
theorem dX5_numberAt_55 : decode cX5_numberAt 55 = .ok (.iload_n 1, 1) := by decide +kernel
theorem dX5_numberAt_56 : decode cX5_numberAt 56 = .ok (.iaload, 1) := by decide +kernel
theorem dX5_numberAt_57 : decode cX5_numberAt 57 = .ok (.iaload, 1) := by decide +kernel
theorem dX5_numberAt_58 : decode cX5_numberAt 58 = .ok (.ireturn, 1) := by decide +kernel
def J_X5_numberAt_35 (s0 : Int) (st : z_St) : Option (Int × z_St) :=
  some (s0, st)
set_option maxRecDepth 100000 in
set_option maxHeartbeats 4000000 in
theorem w_X5_numberAt_35 {κ : zK} {a : Nat → Nat} {s0 : Int} {st : z_St} {o : Int × z_St} (hc : z_C κ RX5 cX5_numberAt 2 10 0 0) (hap : z_AP κ a z_N) (he : z_E 0 κ (some .int) z_T z_N a o.1 o.2) (h : J_X5_numberAt_35 s0 st = some o) : z_V κ z_T z_N a 0 0 35 [] [.int (zI s0)] st := by
  unfold J_X5_numberAt_35 at h
  have h := Option.some.inj h
  subst h
  exact z_retI hc he dX5_numberAt_35
def J_X5_numberAt_47 (v1 : Int) (st : z_St) : Option (Int × z_St) :=
  z_g ((st 134 3) = 138 ∨ (st 134 3) = 139) <|
  z_g (0 ≤ v1 ∧ v1 < 780) <|
  z_g (0 ≤ st (st 134 3) v1 ∧ st (st 134 3) v1 < 780) <|
  some (st 135 (st (st 134 3) v1), st)
set_option maxRecDepth 100000 in
set_option maxHeartbeats 4000000 in
theorem w_X5_numberAt_47 {κ : zK} {a : Nat → Nat} {v1 : Int} {st : z_St} {o : Int × z_St} (hc : z_C κ RX5 cX5_numberAt 2 10 0 0) (hap : z_AP κ a z_N) (he : z_E 0 κ (some .int) z_T z_N a o.1 o.2) (h : J_X5_numberAt_47 v1 st = some o) : z_V κ z_T z_N a 0 0 47 [(0, .ref (a 134)), (1, .int (zI v1))] [] st := by
  unfold J_X5_numberAt_47 at h
  refine z_aload_n (i := 0) 0 hc dX5_numberAt_47 rfl rfl ?_
  refine z_getA (k' := 135) hc fl_RX5_9 tT_134 (by decide) rfl rfl dX5_numberAt_48 ?_
  refine z_aload_n (i := 0) 0 hc dX5_numberAt_51 rfl rfl ?_
  refine z_getV (u := 138) (v := 139) (kI := 134) (jI := 3) hc fl_RX5_22 tT_134 (by decide) rfl rfl rfl (by decide) dX5_numberAt_52 h (fun g4 h => ?_)
  refine z_iload_n (i := 1) 1 hc dX5_numberAt_55 rfl rfl ?_
  refine z_iald (kI := (st 134 3)) (nI9 := 780) hc (z_ord_T g4) (z_ord_lt g4) (z_ord_c g4) rfl (by decide) dX5_numberAt_56 h (fun g5 h => ?_)
  refine z_iald (kI := 135) (nI9 := 780) hc tT_135 (by decide) rfl rfl (by decide) dX5_numberAt_57 h (fun g6 h => ?_)
  have h := Option.some.inj h
  subst h
  exact z_retI hc he dX5_numberAt_58
def J_X5_numberAt (x1 : Int) (st : z_St) : Option (Int × z_St) :=
  z_g (z32 x1 ∧ z32 (st 134 7)) (if x1 < st 134 7 then
    z_g (z32 x1) (if x1 = 0 then
      z_g (z32 (st 134 8) ∧ z32 (-1)) (if st 134 8 = (-1) then
        J_X5_numberAt_35 (-1) st
      else
        z_g (0 ≤ st 134 8 ∧ st 134 8 < 780) <|
        J_X5_numberAt_35 (st 135 (st 134 8)) st)
    else
      z_g (z32 (st 134 10)) (if st 134 10 = 0 then
        z_b (J_X5_sort st) fun st3 =>
        J_X5_numberAt_47 x1 st3
      else
        J_X5_numberAt_47 x1 st))
  else
    some ((-1), st))
set_option maxRecDepth 100000 in
set_option maxHeartbeats 4000000 in
theorem w_X5_numberAt {κ : zK} {a : Nat → Nat} {x1 : Int} {st : z_St} {o : Int × z_St} (hc : z_C κ RX5 cX5_numberAt 2 10 0 0) (hap : z_AP κ a z_N) (he : z_E 0 κ (some .int) z_T z_N a o.1 o.2) (h : J_X5_numberAt x1 st = some o) : z_V κ z_T z_N a 0 0 0 [(0, .ref (a 134)), (1, .int (zI x1))] [] st := by
  unfold J_X5_numberAt at h
  refine z_iload_n (i := 1) 1 hc dX5_numberAt_0 rfl rfl ?_
  refine z_aload_n (i := 0) 0 hc dX5_numberAt_1 rfl rfl ?_
  refine z_getI (kI := 134) (jI := 7) hc fl_RX5_35 tT_134 (by decide) rfl rfl rfl dX5_numberAt_2 ?_
  refine z_icmp_lt (tgt := 10) hc dX5_numberAt_5 (by decide) h (fun c5 h => ?_) (fun c5 h => ?_)
  · refine z_iload_n (i := 1) 1 hc dX5_numberAt_10 rfl rfl ?_
    refine z_if_ne (tgt := 36) hc dX5_numberAt_11 (by decide) h (fun c11 h => ?_) (fun c11 h => ?_)
    · refine z_aload_n (i := 0) 0 hc dX5_numberAt_14 rfl rfl ?_
      refine z_getI (kI := 134) (jI := 8) hc fl_RX5_38 tT_134 (by decide) rfl rfl rfl dX5_numberAt_15 ?_
      refine z_iconst hc dX5_numberAt_18 ?_
      refine z_icmp_ne (tgt := 26) hc dX5_numberAt_19 (by decide) h (fun c19 h => ?_) (fun c19 h => ?_)
      · refine z_iconst hc dX5_numberAt_22 ?_
        refine z_goto (tgt := 35) hc dX5_numberAt_23 (by decide) ?_
        refine z_sub [] [] rfl ?_
        exact w_X5_numberAt_35 hc hap he h
      · refine z_aload_n (i := 0) 0 hc dX5_numberAt_26 rfl rfl ?_
        refine z_getA (k' := 135) hc fl_RX5_9 tT_134 (by decide) rfl rfl dX5_numberAt_27 ?_
        refine z_aload_n (i := 0) 0 hc dX5_numberAt_30 rfl rfl ?_
        refine z_getI (kI := 134) (jI := 8) hc fl_RX5_38 tT_134 (by decide) rfl rfl rfl dX5_numberAt_31 ?_
        refine z_iald (kI := 135) (nI9 := 780) hc tT_135 (by decide) rfl rfl (by decide) dX5_numberAt_34 h (fun g1 h => ?_)
        refine z_sub [] [] rfl ?_
        exact w_X5_numberAt_35 hc hap he h
    · refine z_aload_n (i := 0) 0 hc dX5_numberAt_36 rfl rfl ?_
      refine z_getZ (kI := 134) (jI := 10) hc fl_RX5_45 tT_134 (by decide) rfl rfl rfl dX5_numberAt_37 ?_
      refine z_if_ne (tgt := 47) hc dX5_numberAt_40 (by decide) h (fun c40 h => ?_) (fun c40 h => ?_)
      · refine z_aload_n (i := 0) 0 hc dX5_numberAt_43 rfl rfl ?_
        obtain ⟨st3, hr2, h⟩ := z_b_some h
        refine z_callVV [] hc hap o_X5_sort ml_RX5_74 (fun l hl => c_X5_sort hl  hr2) (by decide) tT_134 (by decide) ⟨_, rfl, rfl⟩ rfl rfl (Nat.le_of_ble_eq_true rfl) (Nat.zero_le _) (Nat.zero_le _) dX5_numberAt_44 ?_
        refine z_sub [(0, .ref (a 134)), (1, .int (zI x1))] [0, 1] rfl ?_
        exact w_X5_numberAt_47 hc hap he h
      · refine z_sub [(0, .ref (a 134)), (1, .int (zI x1))] [0, 1] rfl ?_
        exact w_X5_numberAt_47 hc hap he h
  · refine z_iconst hc dX5_numberAt_8 ?_
    have h := Option.some.inj h
    subst h
    exact z_retI hc he dX5_numberAt_9
set_option maxRecDepth 100000 in
set_option maxHeartbeats 4000000 in
theorem c_X5_numberAt {l : Launch} (hl : l.stackTraces = false) {a : Nat → Nat} {x1 : Int} {st : z_St} {o : Int × z_St} (h : J_X5_numberAt x1 st = some o) : z_M 0 l yX5_numberAt cX5_numberAt 2 (some .int) 10 z_T z_N a [.ref (a 134), .int (zI x1)] st o.1 o.2 := z_of hl (by decide +kernel) (Nat.le_of_ble_eq_true rfl) (fun κ hc hap he => w_X5_numberAt hc hap he h)
theorem dX6_read_0 : decode cX6_read 0 = .ok (.aload_n 0, 1) := by decide +kernel
theorem dX6_read_1 : decode cX6_read 1 = .ok (.iload_n 1, 1) := by decide +kernel
theorem dX6_read_2 : decode cX6_read 2 = .ok (.bipush 10, 2) := by decide +kernel
theorem dX6_read_4 : decode cX6_read 4 = .ok (.if_icmp .ge 7, 3) := by decide +kernel
theorem dX6_read_7 : decode cX6_read 7 = .ok (.iconst 1, 1) := by decide +kernel
theorem dX6_read_8 : decode cX6_read 8 = .ok (.goto 25, 3) := by decide +kernel
theorem dX6_read_11 : decode cX6_read 11 = .ok (.iload_n 1, 1) := by decide +kernel
theorem dX6_read_12 : decode cX6_read 12 = .ok (.bipush 100, 2) := by decide +kernel
theorem dX6_read_14 : decode cX6_read 14 = .ok (.if_icmp .ge 7, 3) := by decide +kernel
theorem dX6_read_17 : decode cX6_read 17 = .ok (.iconst 2, 1) := by decide +kernel
theorem dX6_read_18 : decode cX6_read 18 = .ok (.goto 15, 3) := by decide +kernel
theorem dX6_read_21 : decode cX6_read 21 = .ok (.iload_n 1, 1) := by decide +kernel
theorem dX6_read_22 : decode cX6_read 22 = .ok (.sipush 1000, 3) := by decide +kernel
theorem dX6_read_25 : decode cX6_read 25 = .ok (.if_icmp .ge 7, 3) := by decide +kernel
theorem dX6_read_28 : decode cX6_read 28 = .ok (.iconst 3, 1) := by decide +kernel
theorem dX6_read_29 : decode cX6_read 29 = .ok (.goto 4, 3) := by decide +kernel
theorem dX6_read_32 : decode cX6_read 32 = .ok (.iconst 4, 1) := by decide +kernel
theorem dX6_read_33 : decode cX6_read 33 = .ok (.putfield 15, 3) := by decide +kernel
theorem dX6_read_36 : decode cX6_read 36 = .ok (.iload_n 1, 1) := by decide +kernel
theorem dX6_read_37 : decode cX6_read 37 = .ok (.istore_n 2, 1) := by decide +kernel
theorem dX6_read_38 : decode cX6_read 38 = .ok (.aload_n 0, 1) := by decide +kernel
theorem dX6_read_39 : decode cX6_read 39 = .ok (.getfield 15, 3) := by decide +kernel
theorem dX6_read_42 : decode cX6_read 42 = .ok (.iconst 1, 1) := by decide +kernel
theorem dX6_read_43 : decode cX6_read 43 = .ok (.isub, 1) := by decide +kernel
theorem dX6_read_44 : decode cX6_read 44 = .ok (.istore_n 3, 1) := by decide +kernel
theorem dX6_read_45 : decode cX6_read 45 = .ok (.iload_n 3, 1) := by decide +kernel
theorem dX6_read_46 : decode cX6_read 46 = .ok (.ifCond .lt 26, 3) := by decide +kernel
theorem dX6_read_49 : decode cX6_read 49 = .ok (.aload_n 0, 1) := by decide +kernel
theorem dX6_read_50 : decode cX6_read 50 = .ok (.getfield 9, 3) := by decide +kernel
theorem dX6_read_53 : decode cX6_read 53 = .ok (.iload_n 3, 1) := by decide +kernel
theorem dX6_read_54 : decode cX6_read 54 = .ok (.iload_n 2, 1) := by decide +kernel
theorem dX6_read_55 : decode cX6_read 55 = .ok (.bipush 10, 2) := by decide +kernel
theorem dX6_read_57 : decode cX6_read 57 = .ok (.irem, 1) := by decide +kernel
theorem dX6_read_58 : decode cX6_read 58 = .ok (.iconst 1, 1) := by decide +kernel
theorem dX6_read_59 : decode cX6_read 59 = .ok (.isub, 1) := by decide +kernel
theorem dX6_read_60 : decode cX6_read 60 = .ok (.iastore, 1) := by decide +kernel
theorem dX6_read_61 : decode cX6_read 61 = .ok (.iload_n 2, 1) := by decide +kernel
theorem dX6_read_62 : decode cX6_read 62 = .ok (.bipush 10, 2) := by decide +kernel
theorem dX6_read_64 : decode cX6_read 64 = .ok (.idiv, 1) := by decide +kernel
theorem dX6_read_65 : decode cX6_read 65 = .ok (.istore_n 2, 1) := by decide +kernel
theorem dX6_read_66 : decode cX6_read 66 = .ok (.iinc 3 (-1), 3) := by decide +kernel
theorem dX6_read_69 : decode cX6_read 69 = .ok (.goto (-24), 3) := by decide +kernel
theorem dX6_read_72 : decode cX6_read 72 = .ok (.return_, 1) := by decide +kernel
def J_X6_read_b45 (v0 v2 v3 : Int) (st : z_St) : Option ((Int × Int × z_St) ⊕ z_St) :=
  z_g (z32 v3) (if v3 < 0 then
    some (.inr st)
  else
    z_g (z32 v2 ∧ z32 10 ∧ (10 : Int) ≠ 0) <|
    z_g (0 ≤ v3 ∧ v3 < 4) <|
    z_let (z_up st (v0 + 1) v3 ((v2.tmod 10) - 1)) fun st2 =>
    z_g (z32 v2 ∧ z32 10 ∧ (10 : Int) ≠ 0) <|
    some (.inl (v2.tdiv 10, v3 + (-1), st2)))
set_option maxRecDepth 100000 in
set_option maxHeartbeats 4000000 in
theorem w_X6_read_b45 {κ : zK} {a : Nat → Nat} {v0 v2 v3 : Int} {st : z_St} {mc9 ms9 : Nat} {o : (Int × Int × z_St) ⊕ z_St} (hc : z_C κ RX6 cX6_read 4 8 mc9 ms9) (hap : z_AP κ a z_N) (hv0 : z_isRW v0) (k1 : ∀ s9 : (Int × Int × z_St), o = .inl s9 → z_V κ z_T z_N a 0 0 45 [(0, .ref (a v0.toNat)), (2, .int (zI s9.1)), (3, .int (zI s9.2.1))] [] s9.2.2) (k2 : ∀ x9 : z_St, o = .inr x9 → z_V κ z_T z_N a 0 0 72 [] [] x9) (h : J_X6_read_b45 v0 v2 v3 st = some o) : z_V κ z_T z_N a 0 0 45 [(0, .ref (a v0.toNat)), (2, .int (zI v2)), (3, .int (zI v3))] [] st := by
  unfold J_X6_read_b45 at h
  refine z_iload_n (i := 3) 2 hc dX6_read_45 rfl rfl ?_
  refine z_if_lt (tgt := 72) hc dX6_read_46 (by decide) h (fun c46 h => ?_) (fun c46 h => ?_)
  · refine z_sub [] [] rfl ?_
    exact k2 st (Option.some.inj h).symm
  · refine z_aload_n (i := 0) 0 hc dX6_read_49 rfl rfl ?_
    refine z_getA (k' := (v0.toNat + 1)) hc fl_RX6_9 (z_RW_T hv0) (z_RW_lt hv0) rfl rfl dX6_read_50 ?_
    refine z_iload_n (i := 3) 2 hc dX6_read_53 rfl rfl ?_
    refine z_iload_n (i := 2) 1 hc dX6_read_54 rfl rfl ?_
    refine z_bipush hc dX6_read_55 rfl ?_
    refine z_irem hc dX6_read_57 h (fun h => ?_)
    refine z_iconst hc dX6_read_58 ?_
    refine z_isub hc dX6_read_59 ?_
    refine z_iast (kI := (v0 + 1)) (nI9 := 4) hc hap (z_RW_T1 hv0) (z_RW_lt1 hv0) (z_RW_c1 hv0) rfl (by decide) dX6_read_60 h (fun st2 h => ?_)
    refine z_iload_n (i := 2) 1 hc dX6_read_61 rfl rfl ?_
    refine z_bipush hc dX6_read_62 rfl ?_
    refine z_idiv hc dX6_read_64 h (fun h => ?_)
    refine z_istore_n (i := 2) [(2, .int (zI (v2.tdiv 10))), (0, .ref (a v0.toNat)), (3, .int (zI v3))] hc dX6_read_65 rfl (by decide) rfl ?_
    refine z_iinc [(3, .int (zI (v3 + (-1)))), (2, .int (zI (v2.tdiv 10))), (0, .ref (a v0.toNat))] 2 hc dX6_read_66 rfl (by decide) rfl ?_
    refine z_goto (tgt := 45) hc dX6_read_69 (by decide) ?_
    refine z_sub [(0, .ref (a v0.toNat)), (2, .int (zI (v2.tdiv 10))), (3, .int (zI (v3 + (-1))))] [2, 1, 0] rfl ?_
    exact k1 _ (Option.some.inj h).symm
def J_X6_read_33 (v0 v1 s0 s1 : Int) (st : z_St) : Option (z_St) :=
  z_let (z_up st s1 1 s0) fun st1 =>
  z_b (z_iter z_F (fun q9 : (Int × Int × z_St) => J_X6_read_b45 v0 q9.1 q9.2.1 q9.2.2) (v1, (st1 v0 1) - 1, st1)) fun lx3 =>
    some lx3
set_option maxRecDepth 100000 in
set_option maxHeartbeats 4000000 in
theorem w_X6_read_33 {κ : zK} {a : Nat → Nat} {v0 v1 s0 s1 : Int} {st : z_St} {o : z_St} (hc : z_C κ RX6 cX6_read 4 8 0 0) (hap : z_AP κ a z_N) (hv0 : z_isRW v0) (hs1 : z_isRW s1) (he : z_E 2 κ none z_T z_N a 0 o) (h : J_X6_read_33 v0 v1 s0 s1 st = some o) : z_V κ z_T z_N a 0 0 33 [(0, .ref (a v0.toNat)), (1, .int (zI v1))] [.int (zI s0), .ref (a s1.toNat)] st := by
  unfold J_X6_read_33 at h
  refine z_putI (kI := s1) (jI := 1) hc hap fp_RX6_15 (z_RW_T hs1) (z_RW_lt hs1) (z_RW_c hs1) rfl rfl dX6_read_33 h (fun st1 h => ?_)
  refine z_iload_n (i := 1) 1 hc dX6_read_36 rfl rfl ?_
  refine z_istore_n (i := 2) [(2, .int (zI v1)), (0, .ref (a v0.toNat)), (1, .int (zI v1))] hc dX6_read_37 rfl (by decide) rfl ?_
  refine z_aload_n (i := 0) 1 hc dX6_read_38 rfl rfl ?_
  refine z_getI (kI := v0) (jI := 1) hc fl_RX6_15 (z_RW_T hv0) (z_RW_lt hv0) (z_RW_c hv0) rfl rfl dX6_read_39 ?_
  refine z_iconst hc dX6_read_42 ?_
  refine z_isub hc dX6_read_43 ?_
  refine z_istore_n (i := 3) [(3, .int (zI ((st1 v0 1) - 1))), (2, .int (zI v1)), (0, .ref (a v0.toNat)), (1, .int (zI v1))] hc dX6_read_44 rfl (by decide) rfl ?_
  obtain ⟨lx3, hlx3, h⟩ := z_b_some h
  refine z_sub [(0, .ref (a v0.toNat)), (2, .int (zI v1)), (3, .int (zI ((st1 v0 1) - 1)))] [2, 1, 0] rfl ?_
  refine z_loop (fun q9 : (Int × Int × z_St) => J_X6_read_b45 v0 q9.1 q9.2.1 q9.2.2) (fun q9 : (Int × Int × z_St) => z_V κ z_T z_N a 0 0 45 [(0, .ref (a v0.toNat)), (2, .int (zI q9.1)), (3, .int (zI q9.2.1))] [] q9.2.2) (fun x9 : z_St => z_V κ z_T z_N a 0 0 72 [] [] x9) (fun q9 o9 hb k1 k2 => ?_) _ _ _ hlx3 ?_
  · exact w_X6_read_b45 hc hap hv0 k1 k2 hb
  · show z_V κ z_T z_N a 0 0 72 [] [] lx3
    have h := Option.some.inj h
    subst h
    exact z_retV hc he dX6_read_72
def J_X6_read (x0 x1 : Int) (st : z_St) : Option (z_St) :=
  z_g (z32 x1 ∧ z32 10) (if x1 < 10 then
    J_X6_read_33 x0 x1 1 x0 st
  else
    z_g (z32 x1 ∧ z32 100) (if x1 < 100 then
      J_X6_read_33 x0 x1 2 x0 st
    else
      z_g (z32 x1 ∧ z32 1000) (if x1 < 1000 then
        J_X6_read_33 x0 x1 3 x0 st
      else
        J_X6_read_33 x0 x1 4 x0 st)))
set_option maxRecDepth 100000 in
set_option maxHeartbeats 4000000 in
theorem w_X6_read {κ : zK} {a : Nat → Nat} {x0 x1 : Int} {st : z_St} {o : z_St} (hc : z_C κ RX6 cX6_read 4 8 0 0) (hap : z_AP κ a z_N) (hx0 : z_isRW x0) (he : z_E 2 κ none z_T z_N a 0 o) (h : J_X6_read x0 x1 st = some o) : z_V κ z_T z_N a 0 0 0 [(0, .ref (a x0.toNat)), (1, .int (zI x1))] [] st := by
  unfold J_X6_read at h
  refine z_aload_n (i := 0) 0 hc dX6_read_0 rfl rfl ?_
  refine z_iload_n (i := 1) 1 hc dX6_read_1 rfl rfl ?_
  refine z_bipush hc dX6_read_2 rfl ?_
  refine z_icmp_ge (tgt := 11) hc dX6_read_4 (by decide) h (fun c4 h => ?_) (fun c4 h => ?_)
  · refine z_iconst hc dX6_read_7 ?_
    refine z_goto (tgt := 33) hc dX6_read_8 (by decide) ?_
    refine z_sub [(0, .ref (a x0.toNat)), (1, .int (zI x1))] [0, 1] rfl ?_
    exact w_X6_read_33 hc hap hx0 hx0 he h
  · refine z_iload_n (i := 1) 1 hc dX6_read_11 rfl rfl ?_
    refine z_bipush hc dX6_read_12 rfl ?_
    refine z_icmp_ge (tgt := 21) hc dX6_read_14 (by decide) h (fun c14 h => ?_) (fun c14 h => ?_)
    · refine z_iconst hc dX6_read_17 ?_
      refine z_goto (tgt := 33) hc dX6_read_18 (by decide) ?_
      refine z_sub [(0, .ref (a x0.toNat)), (1, .int (zI x1))] [0, 1] rfl ?_
      exact w_X6_read_33 hc hap hx0 hx0 he h
    · refine z_iload_n (i := 1) 1 hc dX6_read_21 rfl rfl ?_
      refine z_sipush hc dX6_read_22 rfl ?_
      refine z_icmp_ge (tgt := 32) hc dX6_read_25 (by decide) h (fun c25 h => ?_) (fun c25 h => ?_)
      · refine z_iconst hc dX6_read_28 ?_
        refine z_goto (tgt := 33) hc dX6_read_29 (by decide) ?_
        refine z_sub [(0, .ref (a x0.toNat)), (1, .int (zI x1))] [0, 1] rfl ?_
        exact w_X6_read_33 hc hap hx0 hx0 he h
      · refine z_iconst hc dX6_read_32 ?_
        refine z_sub [(0, .ref (a x0.toNat)), (1, .int (zI x1))] [0, 1] rfl ?_
        exact w_X6_read_33 hc hap hx0 hx0 he h
set_option maxRecDepth 100000 in
set_option maxHeartbeats 4000000 in
theorem c_X6_read {l : Launch} (hl : l.stackTraces = false) {a : Nat → Nat} {x0 x1 : Int} {st : z_St} {o : z_St} (hx0 : z_isRW x0) (h : J_X6_read x0 x1 st = some o) : z_M 2 l yX6_read cX6_read 4 none 8 z_T z_N a [.ref (a x0.toNat), .int (zI x1)] st 0 o := z_of hl (by decide +kernel) (Nat.le_of_ble_eq_true rfl) (fun κ hc hap he => w_X6_read hc hap hx0 he h)
theorem dX6_wordAt_0 : decode cX6_wordAt 0 = .ok (.iload_n 1, 1) := by decide +kernel
theorem dX6_wordAt_1 : decode cX6_wordAt 1 = .ok (.ifCond .lt 11, 3) := by decide +kernel
theorem dX6_wordAt_4 : decode cX6_wordAt 4 = .ok (.iload_n 1, 1) := by decide +kernel
theorem dX6_wordAt_5 : decode cX6_wordAt 5 = .ok (.aload_n 0, 1) := by decide +kernel
theorem dX6_wordAt_6 : decode cX6_wordAt 6 = .ok (.getfield 15, 3) := by decide +kernel
theorem dX6_wordAt_9 : decode cX6_wordAt 9 = .ok (.if_icmp .lt 7, 3) := by decide +kernel
theorem dX6_wordAt_12 : decode cX6_wordAt 12 = .ok (.iconst (-1), 1) := by decide +kernel
theorem dX6_wordAt_13 : decode cX6_wordAt 13 = .ok (.goto 9, 3) := by decide +kernel
theorem dX6_wordAt_16 : decode cX6_wordAt 16 = .ok (.aload_n 0, 1) := by decide +kernel
theorem dX6_wordAt_17 : decode cX6_wordAt 17 = .ok (.getfield 9, 3) := by decide +kernel
theorem dX6_wordAt_20 : decode cX6_wordAt 20 = .ok (.iload_n 1, 1) := by decide +kernel
theorem dX6_wordAt_21 : decode cX6_wordAt 21 = .ok (.iaload, 1) := by decide +kernel
theorem dX6_wordAt_22 : decode cX6_wordAt 22 = .ok (.ireturn, 1) := by decide +kernel
def J_X6_wordAt_22 (s0 : Int) (st : z_St) : Option (Int) :=
  some s0
set_option maxRecDepth 100000 in
set_option maxHeartbeats 4000000 in
theorem w_X6_wordAt_22 {κ : zK} {a : Nat → Nat} {s0 : Int} {st : z_St} {o : Int} (hc : z_C κ RX6 cX6_wordAt 2 8 0 0) (hap : z_AP κ a z_N) (he : z_E 0 κ (some .int) z_T z_N a o st) (h : J_X6_wordAt_22 s0 st = some o) : z_V κ z_T z_N a 0 0 22 [] [.int (zI s0)] st := by
  unfold J_X6_wordAt_22 at h
  have h := Option.some.inj h
  subst h
  exact z_retI hc he dX6_wordAt_22
def J_X6_wordAt_12 (st : z_St) : Option (Int) :=
  J_X6_wordAt_22 (-1) st
set_option maxRecDepth 100000 in
set_option maxHeartbeats 4000000 in
theorem w_X6_wordAt_12 {κ : zK} {a : Nat → Nat} {st : z_St} {o : Int} (hc : z_C κ RX6 cX6_wordAt 2 8 0 0) (hap : z_AP κ a z_N) (he : z_E 0 κ (some .int) z_T z_N a o st) (h : J_X6_wordAt_12 st = some o) : z_V κ z_T z_N a 0 0 12 [] [] st := by
  unfold J_X6_wordAt_12 at h
  refine z_iconst hc dX6_wordAt_12 ?_
  refine z_goto (tgt := 22) hc dX6_wordAt_13 (by decide) ?_
  refine z_sub [] [] rfl ?_
  exact w_X6_wordAt_22 hc hap he h
def J_X6_wordAt (x0 x1 : Int) (st : z_St) : Option (Int) :=
  z_g (z32 x1) (if x1 < 0 then
    J_X6_wordAt_12 st
  else
    z_g (z32 x1 ∧ z32 (st x0 1)) (if x1 < st x0 1 then
      z_g (0 ≤ x1 ∧ x1 < 4) <|
      J_X6_wordAt_22 (st (x0 + 1) x1) st
    else
      J_X6_wordAt_12 st))
set_option maxRecDepth 100000 in
set_option maxHeartbeats 4000000 in
theorem w_X6_wordAt {κ : zK} {a : Nat → Nat} {x0 x1 : Int} {st : z_St} {o : Int} (hc : z_C κ RX6 cX6_wordAt 2 8 0 0) (hap : z_AP κ a z_N) (hx0 : z_isRW x0) (he : z_E 0 κ (some .int) z_T z_N a o st) (h : J_X6_wordAt x0 x1 st = some o) : z_V κ z_T z_N a 0 0 0 [(0, .ref (a x0.toNat)), (1, .int (zI x1))] [] st := by
  unfold J_X6_wordAt at h
  refine z_iload_n (i := 1) 1 hc dX6_wordAt_0 rfl rfl ?_
  refine z_if_lt (tgt := 12) hc dX6_wordAt_1 (by decide) h (fun c1 h => ?_) (fun c1 h => ?_)
  · refine z_sub [] [] rfl ?_
    exact w_X6_wordAt_12 hc hap he h
  · refine z_iload_n (i := 1) 1 hc dX6_wordAt_4 rfl rfl ?_
    refine z_aload_n (i := 0) 0 hc dX6_wordAt_5 rfl rfl ?_
    refine z_getI (kI := x0) (jI := 1) hc fl_RX6_15 (z_RW_T hx0) (z_RW_lt hx0) (z_RW_c hx0) rfl rfl dX6_wordAt_6 ?_
    refine z_icmp_lt (tgt := 16) hc dX6_wordAt_9 (by decide) h (fun c9 h => ?_) (fun c9 h => ?_)
    · refine z_aload_n (i := 0) 0 hc dX6_wordAt_16 rfl rfl ?_
      refine z_getA (k' := (x0.toNat + 1)) hc fl_RX6_9 (z_RW_T hx0) (z_RW_lt hx0) rfl rfl dX6_wordAt_17 ?_
      refine z_iload_n (i := 1) 1 hc dX6_wordAt_20 rfl rfl ?_
      refine z_iald (kI := (x0 + 1)) (nI9 := 4) hc (z_RW_T1 hx0) (z_RW_lt1 hx0) (z_RW_c1 hx0) rfl (by decide) dX6_wordAt_21 h (fun g1 h => ?_)
      refine z_sub [] [] rfl ?_
      exact w_X6_wordAt_22 hc hap he h
    · refine z_sub [] [] rfl ?_
      exact w_X6_wordAt_12 hc hap he h
set_option maxRecDepth 100000 in
set_option maxHeartbeats 4000000 in
theorem c_X6_wordAt {l : Launch} (hl : l.stackTraces = false) {a : Nat → Nat} {x0 x1 : Int} {st : z_St} {o : Int} (hx0 : z_isRW x0) (h : J_X6_wordAt x0 x1 st = some o) : z_M 0 l yX6_wordAt cX6_wordAt 2 (some .int) 8 z_T z_N a [.ref (a x0.toNat), .int (zI x1)] st o st := z_of hl (by decide +kernel) (Nat.le_of_ble_eq_true rfl) (fun κ hc hap he => w_X6_wordAt hc hap hx0 he h)
theorem dX8_putEnd_0 : decode cX8_putEnd 0 = .ok (.lload_n 2, 1) := by decide +kernel
theorem dX8_putEnd_1 : decode cX8_putEnd 1 = .ok (.ldc2_w 36, 3) := by decide +kernel
theorem dX8_putEnd_4 : decode cX8_putEnd 4 = .ok (.lcmp, 1) := by decide +kernel
theorem dX8_putEnd_5 : decode cX8_putEnd 5 = .ok (.ifCond .ge 51, 3) := by decide +kernel
theorem dX8_putEnd_8 : decode cX8_putEnd 8 = .ok (.lload_n 2, 1) := by decide +kernel
theorem dX8_putEnd_9 : decode cX8_putEnd 9 = .ok (.aload_n 0, 1) := by decide +kernel
theorem dX8_putEnd_10 : decode cX8_putEnd 10 = .ok (.getfield 9, 3) := by decide +kernel
theorem dX8_putEnd_13 : decode cX8_putEnd 13 = .ok (.iload_n 1, 1) := by decide +kernel
theorem dX8_putEnd_14 : decode cX8_putEnd 14 = .ok (.laload, 1) := by decide +kernel
theorem dX8_putEnd_15 : decode cX8_putEnd 15 = .ok (.lcmp, 1) := by decide +kernel
theorem dX8_putEnd_16 : decode cX8_putEnd 16 = .ok (.ifCond .lt 25, 3) := by decide +kernel
theorem dX8_putEnd_19 : decode cX8_putEnd 19 = .ok (.lload_n 2, 1) := by decide +kernel
theorem dX8_putEnd_20 : decode cX8_putEnd 20 = .ok (.aload_n 0, 1) := by decide +kernel
theorem dX8_putEnd_21 : decode cX8_putEnd 21 = .ok (.getfield 9, 3) := by decide +kernel
theorem dX8_putEnd_24 : decode cX8_putEnd 24 = .ok (.iload_n 1, 1) := by decide +kernel
theorem dX8_putEnd_25 : decode cX8_putEnd 25 = .ok (.laload, 1) := by decide +kernel
theorem dX8_putEnd_26 : decode cX8_putEnd 26 = .ok (.lcmp, 1) := by decide +kernel
theorem dX8_putEnd_27 : decode cX8_putEnd 27 = .ok (.ifCond .ne 29, 3) := by decide +kernel
theorem dX8_putEnd_30 : decode cX8_putEnd 30 = .ok (.iload 4, 2) := by decide +kernel
theorem dX8_putEnd_32 : decode cX8_putEnd 32 = .ok (.aload_n 0, 1) := by decide +kernel
theorem dX8_putEnd_33 : decode cX8_putEnd 33 = .ok (.getfield 15, 3) := by decide +kernel
theorem dX8_putEnd_36 : decode cX8_putEnd 36 = .ok (.iload_n 1, 1) := by decide +kernel
theorem dX8_putEnd_37 : decode cX8_putEnd 37 = .ok (.iaload, 1) := by decide +kernel
theorem dX8_putEnd_38 : decode cX8_putEnd 38 = .ok (.if_icmp .ge 18, 3) := by decide +kernel
theorem dX8_putEnd_41 : decode cX8_putEnd 41 = .ok (.aload_n 0, 1) := by decide +kernel
theorem dX8_putEnd_42 : decode cX8_putEnd 42 = .ok (.getfield 9, 3) := by decide +kernel
theorem dX8_putEnd_45 : decode cX8_putEnd 45 = .ok (.iload_n 1, 1) := by decide +kernel
theorem dX8_putEnd_46 : decode cX8_putEnd 46 = .ok (.lload_n 2, 1) := by decide +kernel
theorem dX8_putEnd_47 : decode cX8_putEnd 47 = .ok (.lastore, 1) := by decide +kernel
theorem dX8_putEnd_48 : decode cX8_putEnd 48 = .ok (.aload_n 0, 1) := by decide +kernel
theorem dX8_putEnd_49 : decode cX8_putEnd 49 = .ok (.getfield 15, 3) := by decide +kernel
theorem dX8_putEnd_52 : decode cX8_putEnd 52 = .ok (.iload_n 1, 1) := by decide +kernel
theorem dX8_putEnd_53 : decode cX8_putEnd 53 = .ok (.iload 4, 2) := by decide +kernel
theorem dX8_putEnd_55 : decode cX8_putEnd 55 = .ok (.iastore, 1) := by decide +kernel
theorem dX8_putEnd_56 : decode cX8_putEnd 56 = .ok (.return_, 1) := by decide +kernel
def J_X8_putEnd_56 (st : z_St) : Option (z_St) :=
  some st
set_option maxRecDepth 100000 in
set_option maxHeartbeats 4000000 in
theorem w_X8_putEnd_56 {κ : zK} {a : Nat → Nat} {st : z_St} {o : z_St} (hc : z_C κ RX8 cX8_putEnd 5 8 0 0) (hap : z_AP κ a z_N) (he : z_E 2 κ none z_T z_N a 0 o) (h : J_X8_putEnd_56 st = some o) : z_V κ z_T z_N a 0 0 56 [] [] st := by
  unfold J_X8_putEnd_56 at h
  have h := Option.some.inj h
  subst h
  exact z_retV hc he dX8_putEnd_56
def J_X8_putEnd_41 (v1 v2 v4 : Int) (st : z_St) : Option (z_St) :=
  z_g (0 ≤ v1 ∧ v1 < 340) <|
  z_let (z_up st 141 v1 v2) fun st2 =>
  z_g (0 ≤ v1 ∧ v1 < 340) <|
  z_let (z_up st2 142 v1 v4) fun st3 =>
  J_X8_putEnd_56 st3
set_option maxRecDepth 100000 in
set_option maxHeartbeats 4000000 in
theorem w_X8_putEnd_41 {κ : zK} {a : Nat → Nat} {v1 v2 v4 : Int} {st : z_St} {o : z_St} (hc : z_C κ RX8 cX8_putEnd 5 8 0 0) (hap : z_AP κ a z_N) (he : z_E 2 κ none z_T z_N a 0 o) (h : J_X8_putEnd_41 v1 v2 v4 st = some o) : z_V κ z_T z_N a 0 0 41 [(0, .ref (a 140)), (1, .int (zI v1)), (2, .long (zJ v2)), (4, .int (zI v4))] [] st := by
  unfold J_X8_putEnd_41 at h
  refine z_aload_n (i := 0) 0 hc dX8_putEnd_41 rfl rfl ?_
  refine z_getA (k' := 141) hc fl_RX8_9 tT_140 (by decide) rfl rfl dX8_putEnd_42 ?_
  refine z_iload_n (i := 1) 1 hc dX8_putEnd_45 rfl rfl ?_
  refine z_lload_n (i := 2) 2 hc dX8_putEnd_46 rfl rfl ?_
  refine z_last (kI := 141) (nI9 := 340) hc hap tT_141 (by decide) rfl rfl (by decide) dX8_putEnd_47 h (fun st2 h => ?_)
  refine z_aload_n (i := 0) 0 hc dX8_putEnd_48 rfl rfl ?_
  refine z_getA (k' := 142) hc fl_RX8_15 tT_140 (by decide) rfl rfl dX8_putEnd_49 ?_
  refine z_iload_n (i := 1) 1 hc dX8_putEnd_52 rfl rfl ?_
  refine z_iload 3 hc dX8_putEnd_53 rfl ?_
  refine z_iast (kI := 142) (nI9 := 340) hc hap tT_142 (by decide) rfl rfl (by decide) dX8_putEnd_55 h (fun st3 h => ?_)
  refine z_sub [] [] rfl ?_
  exact w_X8_putEnd_56 hc hap he h
def J_X8_putEnd (x1 x2 x4 : Int) (st : z_St) : Option (z_St) :=
  z_g (z64 x2 ∧ z64 1152921504606846976) (if x2 < 1152921504606846976 then
    z_g (0 ≤ x1 ∧ x1 < 340) <|
    z_g (z64 x2 ∧ z64 (st 141 x1)) (if x2 < st 141 x1 then
      J_X8_putEnd_41 x1 x2 x4 st
    else
      z_g (0 ≤ x1 ∧ x1 < 340) <|
      z_g (z64 x2 ∧ z64 (st 141 x1)) (if x2 = st 141 x1 then
        z_g (0 ≤ x1 ∧ x1 < 340) <|
        z_g (z32 x4 ∧ z32 (st 142 x1)) (if x4 < st 142 x1 then
          J_X8_putEnd_41 x1 x2 x4 st
        else
          J_X8_putEnd_56 st)
      else
        J_X8_putEnd_56 st))
  else
    J_X8_putEnd_56 st)
set_option maxRecDepth 100000 in
set_option maxHeartbeats 4000000 in
theorem w_X8_putEnd {κ : zK} {a : Nat → Nat} {x1 x2 x4 : Int} {st : z_St} {o : z_St} (hc : z_C κ RX8 cX8_putEnd 5 8 0 0) (hap : z_AP κ a z_N) (he : z_E 2 κ none z_T z_N a 0 o) (h : J_X8_putEnd x1 x2 x4 st = some o) : z_V κ z_T z_N a 0 0 0 [(0, .ref (a 140)), (1, .int (zI x1)), (2, .long (zJ x2)), (4, .int (zI x4))] [] st := by
  unfold J_X8_putEnd at h
  refine z_lload_n (i := 2) 2 hc dX8_putEnd_0 rfl rfl ?_
  refine z_ldc2 1152921504606846976 hc kc_RX8_36 dX8_putEnd_1 rfl ?_
  refine z_lcmp_ge (tgt := 56) hc dX8_putEnd_4 dX8_putEnd_5 (by decide) h (fun c4 h => ?_) (fun c4 h => ?_)
  · refine z_lload_n (i := 2) 2 hc dX8_putEnd_8 rfl rfl ?_
    refine z_aload_n (i := 0) 0 hc dX8_putEnd_9 rfl rfl ?_
    refine z_getA (k' := 141) hc fl_RX8_9 tT_140 (by decide) rfl rfl dX8_putEnd_10 ?_
    refine z_iload_n (i := 1) 1 hc dX8_putEnd_13 rfl rfl ?_
    refine z_lald (kI := 141) (nI9 := 340) hc tT_141 (by decide) rfl rfl (by decide) dX8_putEnd_14 h (fun g1 h => ?_)
    refine z_lcmp_lt (tgt := 41) hc dX8_putEnd_15 dX8_putEnd_16 (by decide) h (fun c15 h => ?_) (fun c15 h => ?_)
    · refine z_sub [(0, .ref (a 140)), (1, .int (zI x1)), (2, .long (zJ x2)), (4, .int (zI x4))] [0, 1, 2, 3] rfl ?_
      exact w_X8_putEnd_41 hc hap he h
    · refine z_lload_n (i := 2) 2 hc dX8_putEnd_19 rfl rfl ?_
      refine z_aload_n (i := 0) 0 hc dX8_putEnd_20 rfl rfl ?_
      refine z_getA (k' := 141) hc fl_RX8_9 tT_140 (by decide) rfl rfl dX8_putEnd_21 ?_
      refine z_iload_n (i := 1) 1 hc dX8_putEnd_24 rfl rfl ?_
      refine z_lald (kI := 141) (nI9 := 340) hc tT_141 (by decide) rfl rfl (by decide) dX8_putEnd_25 h (fun g4 h => ?_)
      refine z_lcmp_ne (tgt := 56) hc dX8_putEnd_26 dX8_putEnd_27 (by decide) h (fun c26 h => ?_) (fun c26 h => ?_)
      · refine z_iload 3 hc dX8_putEnd_30 rfl ?_
        refine z_aload_n (i := 0) 0 hc dX8_putEnd_32 rfl rfl ?_
        refine z_getA (k' := 142) hc fl_RX8_15 tT_140 (by decide) rfl rfl dX8_putEnd_33 ?_
        refine z_iload_n (i := 1) 1 hc dX8_putEnd_36 rfl rfl ?_
        refine z_iald (kI := 142) (nI9 := 340) hc tT_142 (by decide) rfl rfl (by decide) dX8_putEnd_37 h (fun g5 h => ?_)
        refine z_icmp_ge (tgt := 56) hc dX8_putEnd_38 (by decide) h (fun c38 h => ?_) (fun c38 h => ?_)
        · refine z_sub [(0, .ref (a 140)), (1, .int (zI x1)), (2, .long (zJ x2)), (4, .int (zI x4))] [0, 1, 2, 3] rfl ?_
          exact w_X8_putEnd_41 hc hap he h
        · refine z_sub [] [] rfl ?_
          exact w_X8_putEnd_56 hc hap he h
      · refine z_sub [] [] rfl ?_
        exact w_X8_putEnd_56 hc hap he h
  · refine z_sub [] [] rfl ?_
    exact w_X8_putEnd_56 hc hap he h
set_option maxRecDepth 100000 in
set_option maxHeartbeats 4000000 in
theorem c_X8_putEnd {l : Launch} (hl : l.stackTraces = false) {a : Nat → Nat} {x1 x2 x4 : Int} {st : z_St} {o : z_St} (h : J_X8_putEnd x1 x2 x4 st = some o) : z_M 2 l yX8_putEnd cX8_putEnd 5 none 8 z_T z_N a [.ref (a 140), .int (zI x1), .long (zJ x2), .int (zI x4)] st 0 o := z_of hl (by decide +kernel) (Nat.le_of_ble_eq_true rfl) (fun κ hc hap he => w_X8_putEnd hc hap he h)
theorem dX8_lengthen_0 : decode cX8_lengthen 0 = .ok (.iconst 1, 1) := by decide +kernel
theorem dX8_lengthen_1 : decode cX8_lengthen 1 = .ok (.istore 6, 2) := by decide +kernel
theorem dX8_lengthen_3 : decode cX8_lengthen 3 = .ok (.iload 6, 2) := by decide +kernel
theorem dX8_lengthen_5 : decode cX8_lengthen 5 = .ok (.iload_n 3, 1) := by decide +kernel
theorem dX8_lengthen_6 : decode cX8_lengthen 6 = .ok (.if_icmp .ge 117, 3) := by decide +kernel
theorem dX8_lengthen_9 : decode cX8_lengthen 9 = .ok (.aload_n 1, 1) := by decide +kernel
theorem dX8_lengthen_10 : decode cX8_lengthen 10 = .ok (.iload 5, 2) := by decide +kernel
theorem dX8_lengthen_12 : decode cX8_lengthen 12 = .ok (.iload 6, 2) := by decide +kernel
theorem dX8_lengthen_14 : decode cX8_lengthen 14 = .ok (.iload_n 3, 1) := by decide +kernel
theorem dX8_lengthen_15 : decode cX8_lengthen 15 = .ok (.invokevirtual 44, 3) := by decide +kernel
theorem dX8_lengthen_18 : decode cX8_lengthen 18 = .ok (.lstore 7, 2) := by decide +kernel
theorem dX8_lengthen_20 : decode cX8_lengthen 20 = .ok (.iconst 0, 1) := by decide +kernel
theorem dX8_lengthen_21 : decode cX8_lengthen 21 = .ok (.istore 9, 2) := by decide +kernel
theorem dX8_lengthen_23 : decode cX8_lengthen 23 = .ok (.iload 9, 2) := by decide +kernel
theorem dX8_lengthen_25 : decode cX8_lengthen 25 = .ok (.iload_n 2, 1) := by decide +kernel
theorem dX8_lengthen_26 : decode cX8_lengthen 26 = .ok (.if_icmp .ge 91, 3) := by decide +kernel
theorem dX8_lengthen_29 : decode cX8_lengthen 29 = .ok (.lload 7, 2) := by decide +kernel
theorem dX8_lengthen_31 : decode cX8_lengthen 31 = .ok (.ldc2_w 36, 3) := by decide +kernel
theorem dX8_lengthen_34 : decode cX8_lengthen 34 = .ok (.lcmp, 1) := by decide +kernel
theorem dX8_lengthen_35 : decode cX8_lengthen 35 = .ok (.ifCond .ge 82, 3) := by decide +kernel
theorem dX8_lengthen_38 : decode cX8_lengthen 38 = .ok (.iload 6, 2) := by decide +kernel
theorem dX8_lengthen_40 : decode cX8_lengthen 40 = .ok (.bipush 20, 2) := by decide +kernel
theorem dX8_lengthen_42 : decode cX8_lengthen 42 = .ok (.imul, 1) := by decide +kernel
theorem dX8_lengthen_43 : decode cX8_lengthen 43 = .ok (.iload 4, 2) := by decide +kernel
theorem dX8_lengthen_45 : decode cX8_lengthen 45 = .ok (.iconst 2, 1) := by decide +kernel
theorem dX8_lengthen_46 : decode cX8_lengthen 46 = .ok (.isub, 1) := by decide +kernel
theorem dX8_lengthen_47 : decode cX8_lengthen 47 = .ok (.iconst 5, 1) := by decide +kernel
theorem dX8_lengthen_48 : decode cX8_lengthen 48 = .ok (.imul, 1) := by decide +kernel
theorem dX8_lengthen_49 : decode cX8_lengthen 49 = .ok (.iadd, 1) := by decide +kernel
theorem dX8_lengthen_50 : decode cX8_lengthen 50 = .ok (.iload 9, 2) := by decide +kernel
theorem dX8_lengthen_52 : decode cX8_lengthen 52 = .ok (.iadd, 1) := by decide +kernel
theorem dX8_lengthen_53 : decode cX8_lengthen 53 = .ok (.istore 10, 2) := by decide +kernel
theorem dX8_lengthen_55 : decode cX8_lengthen 55 = .ok (.aload_n 0, 1) := by decide +kernel
theorem dX8_lengthen_56 : decode cX8_lengthen 56 = .ok (.getfield 9, 3) := by decide +kernel
theorem dX8_lengthen_59 : decode cX8_lengthen 59 = .ok (.iload 10, 2) := by decide +kernel
theorem dX8_lengthen_61 : decode cX8_lengthen 61 = .ok (.laload, 1) := by decide +kernel
theorem dX8_lengthen_62 : decode cX8_lengthen 62 = .ok (.lload 7, 2) := by decide +kernel
theorem dX8_lengthen_64 : decode cX8_lengthen 64 = .ok (.ladd, 1) := by decide +kernel
theorem dX8_lengthen_65 : decode cX8_lengthen 65 = .ok (.aload_n 1, 1) := by decide +kernel
theorem dX8_lengthen_66 : decode cX8_lengthen 66 = .ok (.iload 9, 2) := by decide +kernel
theorem dX8_lengthen_68 : decode cX8_lengthen 68 = .ok (.iload 5, 2) := by decide +kernel
theorem dX8_lengthen_70 : decode cX8_lengthen 70 = .ok (.invokevirtual 50, 3) := by decide +kernel
theorem dX8_lengthen_73 : decode cX8_lengthen 73 = .ok (.ladd, 1) := by decide +kernel
theorem dX8_lengthen_74 : decode cX8_lengthen 74 = .ok (.lstore 11, 2) := by decide +kernel
theorem dX8_lengthen_76 : decode cX8_lengthen 76 = .ok (.aload_n 0, 1) := by decide +kernel
theorem dX8_lengthen_77 : decode cX8_lengthen 77 = .ok (.iload_n 3, 1) := by decide +kernel
theorem dX8_lengthen_78 : decode cX8_lengthen 78 = .ok (.bipush 20, 2) := by decide +kernel
theorem dX8_lengthen_80 : decode cX8_lengthen 80 = .ok (.imul, 1) := by decide +kernel
theorem dX8_lengthen_81 : decode cX8_lengthen 81 = .ok (.iload 4, 2) := by decide +kernel
theorem dX8_lengthen_83 : decode cX8_lengthen 83 = .ok (.iconst 1, 1) := by decide +kernel
theorem dX8_lengthen_84 : decode cX8_lengthen 84 = .ok (.isub, 1) := by decide +kernel
theorem dX8_lengthen_85 : decode cX8_lengthen 85 = .ok (.iconst 5, 1) := by decide +kernel
theorem dX8_lengthen_86 : decode cX8_lengthen 86 = .ok (.imul, 1) := by decide +kernel
theorem dX8_lengthen_87 : decode cX8_lengthen 87 = .ok (.iadd, 1) := by decide +kernel
theorem dX8_lengthen_88 : decode cX8_lengthen 88 = .ok (.iload 5, 2) := by decide +kernel
theorem dX8_lengthen_90 : decode cX8_lengthen 90 = .ok (.iadd, 1) := by decide +kernel
theorem dX8_lengthen_91 : decode cX8_lengthen 91 = .ok (.lload 11, 2) := by decide +kernel
theorem dX8_lengthen_93 : decode cX8_lengthen 93 = .ok (.aload_n 0, 1) := by decide +kernel
theorem dX8_lengthen_94 : decode cX8_lengthen 94 = .ok (.getfield 15, 3) := by decide +kernel
theorem dX8_lengthen_97 : decode cX8_lengthen 97 = .ok (.iload 10, 2) := by decide +kernel
theorem dX8_lengthen_99 : decode cX8_lengthen 99 = .ok (.iaload, 1) := by decide +kernel
theorem dX8_lengthen_100 : decode cX8_lengthen 100 = .ok (.bipush 10, 2) := by decide +kernel
theorem dX8_lengthen_102 : decode cX8_lengthen 102 = .ok (.imul, 1) := by decide +kernel
theorem dX8_lengthen_103 : decode cX8_lengthen 103 = .ok (.iload 5, 2) := by decide +kernel
theorem dX8_lengthen_105 : decode cX8_lengthen 105 = .ok (.iadd, 1) := by decide +kernel
theorem dX8_lengthen_106 : decode cX8_lengthen 106 = .ok (.iconst 1, 1) := by decide +kernel
theorem dX8_lengthen_107 : decode cX8_lengthen 107 = .ok (.iadd, 1) := by decide +kernel
theorem dX8_lengthen_108 : decode cX8_lengthen 108 = .ok (.invokevirtual 54, 3) := by decide +kernel
theorem dX8_lengthen_111 : decode cX8_lengthen 111 = .ok (.iinc 9 1, 3) := by decide +kernel
theorem dX8_lengthen_114 : decode cX8_lengthen 114 = .ok (.goto (-91), 3) := by decide +kernel
theorem dX8_lengthen_117 : decode cX8_lengthen 117 = .ok (.iinc 6 1, 3) := by decide +kernel
theorem dX8_lengthen_120 : decode cX8_lengthen 120 = .ok (.goto (-117), 3) := by decide +kernel
theorem dX8_lengthen_123 : decode cX8_lengthen 123 = .ok (.return_, 1) := by decide +kernel
def J_X8_lengthen_b23 (v2 v3 v4 v5 v6 v7 v9 : Int) (st : z_St) : Option ((Int × z_St) ⊕ z_St) :=
  z_g (z32 v9 ∧ z32 v2) (if v9 < v2 then
    z_g (z64 v7 ∧ z64 1152921504606846976) (if v7 < 1152921504606846976 then
      z_g (0 ≤ ((v6 * 20) + ((v4 - 2) * 5)) + v9 ∧ ((v6 * 20) + ((v4 - 2) * 5)) + v9 < 340) <|
      z_b (J_X0_toll v9 v5 st) fun r4 =>
      z_g (0 ≤ ((v6 * 20) + ((v4 - 2) * 5)) + v9 ∧ ((v6 * 20) + ((v4 - 2) * 5)) + v9 < 340) <|
      z_b (J_X8_putEnd (((v3 * 20) + ((v4 - 1) * 5)) + v5) (((st 141 (((v6 * 20) + ((v4 - 2) * 5)) + v9)) + v7) + r4) ((((st 142 (((v6 * 20) + ((v4 - 2) * 5)) + v9)) * 10) + v5) + 1) st) fun st8 =>
      some (.inl (v9 + 1, st8))
    else
      some (.inr st))
  else
    some (.inr st))
set_option maxRecDepth 100000 in
set_option maxHeartbeats 4000000 in
theorem w_X8_lengthen_b23 {κ : zK} {a : Nat → Nat} {v2 v3 v4 v5 v6 v7 v9 : Int} {st : z_St} {mc9 ms9 : Nat} {o : (Int × z_St) ⊕ z_St} (hc : z_C κ RX8 cX8_lengthen 13 9 mc9 ms9) (hap : z_AP κ a z_N) (k1 : ∀ s9 : (Int × z_St), o = .inl s9 → z_V κ z_T z_N a 0 0 23 [(0, .ref (a 140)), (1, .ref (a 99)), (2, .int (zI v2)), (3, .int (zI v3)), (4, .int (zI v4)), (5, .int (zI v5)), (6, .int (zI v6)), (7, .long (zJ v7)), (9, .int (zI s9.1))] [] s9.2) (k2 : ∀ x9 : z_St, o = .inr x9 → z_V κ z_T z_N a 0 0 117 [(0, .ref (a 140)), (1, .ref (a 99)), (2, .int (zI v2)), (3, .int (zI v3)), (4, .int (zI v4)), (5, .int (zI v5)), (6, .int (zI v6))] [] x9) (h : J_X8_lengthen_b23 v2 v3 v4 v5 v6 v7 v9 st = some o) : z_V κ z_T z_N a 0 0 23 [(0, .ref (a 140)), (1, .ref (a 99)), (2, .int (zI v2)), (3, .int (zI v3)), (4, .int (zI v4)), (5, .int (zI v5)), (6, .int (zI v6)), (7, .long (zJ v7)), (9, .int (zI v9))] [] st := by
  unfold J_X8_lengthen_b23 at h
  refine z_iload 8 hc dX8_lengthen_23 rfl ?_
  refine z_iload_n (i := 2) 2 hc dX8_lengthen_25 rfl rfl ?_
  refine z_icmp_ge (tgt := 117) hc dX8_lengthen_26 (by decide) h (fun c26 h => ?_) (fun c26 h => ?_)
  · refine z_lload 7 hc dX8_lengthen_29 rfl ?_
    refine z_ldc2 1152921504606846976 hc kc_RX8_36 dX8_lengthen_31 rfl ?_
    refine z_lcmp_ge (tgt := 117) hc dX8_lengthen_34 dX8_lengthen_35 (by decide) h (fun c34 h => ?_) (fun c34 h => ?_)
    · refine z_iload 6 hc dX8_lengthen_38 rfl ?_
      refine z_bipush hc dX8_lengthen_40 rfl ?_
      refine z_imul hc dX8_lengthen_42 ?_
      refine z_iload 4 hc dX8_lengthen_43 rfl ?_
      refine z_iconst hc dX8_lengthen_45 ?_
      refine z_isub hc dX8_lengthen_46 ?_
      refine z_iconst hc dX8_lengthen_47 ?_
      refine z_imul hc dX8_lengthen_48 ?_
      refine z_iadd hc dX8_lengthen_49 ?_
      refine z_iload 8 hc dX8_lengthen_50 rfl ?_
      refine z_iadd hc dX8_lengthen_52 ?_
      refine z_istore [(10, .int (zI (((v6 * 20) + ((v4 - 2) * 5)) + v9))), (0, .ref (a 140)), (1, .ref (a 99)), (2, .int (zI v2)), (3, .int (zI v3)), (4, .int (zI v4)), (5, .int (zI v5)), (6, .int (zI v6)), (7, .long (zJ v7)), (9, .int (zI v9))] hc dX8_lengthen_53 (by decide) rfl ?_
      refine z_aload_n (i := 0) 1 hc dX8_lengthen_55 rfl rfl ?_
      refine z_getA (k' := 141) hc fl_RX8_9 tT_140 (by decide) rfl rfl dX8_lengthen_56 ?_
      refine z_iload 0 hc dX8_lengthen_59 rfl ?_
      refine z_lald (kI := 141) (nI9 := 340) hc tT_141 (by decide) rfl rfl (by decide) dX8_lengthen_61 h (fun g3 h => ?_)
      refine z_lload 8 hc dX8_lengthen_62 rfl ?_
      refine z_ladd hc dX8_lengthen_64 ?_
      refine z_aload_n (i := 1) 2 hc dX8_lengthen_65 rfl rfl ?_
      refine z_iload 9 hc dX8_lengthen_66 rfl ?_
      refine z_iload 6 hc dX8_lengthen_68 rfl ?_
      obtain ⟨r4, hr4, h⟩ := z_b_some h
      refine z_callVJ [.int (zI v9), .int (zI v5)] hc hap o_X0_toll ml_RX8_50 (fun l hl => c_X0_toll hl  hr4) (by decide) tT_99 (by decide) ⟨_, rfl, rfl⟩ rfl rfl (Nat.le_of_ble_eq_true rfl) (Nat.zero_le _) (Nat.zero_le _) dX8_lengthen_70 ?_
      refine z_ladd hc dX8_lengthen_73 ?_
      refine z_lstore [(11, .long (zJ (((st 141 (((v6 * 20) + ((v4 - 2) * 5)) + v9)) + v7) + r4))), (10, .int (zI (((v6 * 20) + ((v4 - 2) * 5)) + v9))), (0, .ref (a 140)), (1, .ref (a 99)), (2, .int (zI v2)), (3, .int (zI v3)), (4, .int (zI v4)), (5, .int (zI v5)), (6, .int (zI v6)), (7, .long (zJ v7)), (9, .int (zI v9))] hc dX8_lengthen_74 (by decide) rfl ?_
      refine z_aload_n (i := 0) 2 hc dX8_lengthen_76 rfl rfl ?_
      refine z_iload_n (i := 3) 5 hc dX8_lengthen_77 rfl rfl ?_
      refine z_bipush hc dX8_lengthen_78 rfl ?_
      refine z_imul hc dX8_lengthen_80 ?_
      refine z_iload 6 hc dX8_lengthen_81 rfl ?_
      refine z_iconst hc dX8_lengthen_83 ?_
      refine z_isub hc dX8_lengthen_84 ?_
      refine z_iconst hc dX8_lengthen_85 ?_
      refine z_imul hc dX8_lengthen_86 ?_
      refine z_iadd hc dX8_lengthen_87 ?_
      refine z_iload 7 hc dX8_lengthen_88 rfl ?_
      refine z_iadd hc dX8_lengthen_90 ?_
      refine z_lload 0 hc dX8_lengthen_91 rfl ?_
      refine z_aload_n (i := 0) 2 hc dX8_lengthen_93 rfl rfl ?_
      refine z_getA (k' := 142) hc fl_RX8_15 tT_140 (by decide) rfl rfl dX8_lengthen_94 ?_
      refine z_iload 1 hc dX8_lengthen_97 rfl ?_
      refine z_iald (kI := 142) (nI9 := 340) hc tT_142 (by decide) rfl rfl (by decide) dX8_lengthen_99 h (fun g6 h => ?_)
      refine z_bipush hc dX8_lengthen_100 rfl ?_
      refine z_imul hc dX8_lengthen_102 ?_
      refine z_iload 7 hc dX8_lengthen_103 rfl ?_
      refine z_iadd hc dX8_lengthen_105 ?_
      refine z_iconst hc dX8_lengthen_106 ?_
      refine z_iadd hc dX8_lengthen_107 ?_
      obtain ⟨st8, hr7, h⟩ := z_b_some h
      refine z_callVV [.int (zI (((v3 * 20) + ((v4 - 1) * 5)) + v5)), .long (zJ (((st 141 (((v6 * 20) + ((v4 - 2) * 5)) + v9)) + v7) + r4)), .int (zI ((((st 142 (((v6 * 20) + ((v4 - 2) * 5)) + v9)) * 10) + v5) + 1))] hc hap o_X8_putEnd ml_RX8_54 (fun l hl => c_X8_putEnd hl  hr7) (by decide) tT_140 (by decide) ⟨_, rfl, rfl⟩ rfl rfl (Nat.le_of_ble_eq_true rfl) (Nat.zero_le _) (Nat.zero_le _) dX8_lengthen_108 ?_
      refine z_iinc [(9, .int (zI (v9 + 1))), (11, .long (zJ (((st 141 (((v6 * 20) + ((v4 - 2) * 5)) + v9)) + v7) + r4))), (10, .int (zI (((v6 * 20) + ((v4 - 2) * 5)) + v9))), (0, .ref (a 140)), (1, .ref (a 99)), (2, .int (zI v2)), (3, .int (zI v3)), (4, .int (zI v4)), (5, .int (zI v5)), (6, .int (zI v6)), (7, .long (zJ v7))] 10 hc dX8_lengthen_111 rfl (by decide) rfl ?_
      refine z_goto (tgt := 23) hc dX8_lengthen_114 (by decide) ?_
      refine z_sub [(0, .ref (a 140)), (1, .ref (a 99)), (2, .int (zI v2)), (3, .int (zI v3)), (4, .int (zI v4)), (5, .int (zI v5)), (6, .int (zI v6)), (7, .long (zJ v7)), (9, .int (zI (v9 + 1)))] [3, 4, 5, 6, 7, 8, 9, 10, 0] rfl ?_
      exact k1 _ (Option.some.inj h).symm
    · refine z_sub [(0, .ref (a 140)), (1, .ref (a 99)), (2, .int (zI v2)), (3, .int (zI v3)), (4, .int (zI v4)), (5, .int (zI v5)), (6, .int (zI v6))] [0, 1, 2, 3, 4, 5, 6] rfl ?_
      exact k2 st (Option.some.inj h).symm
  · refine z_sub [(0, .ref (a 140)), (1, .ref (a 99)), (2, .int (zI v2)), (3, .int (zI v3)), (4, .int (zI v4)), (5, .int (zI v5)), (6, .int (zI v6))] [0, 1, 2, 3, 4, 5, 6] rfl ?_
    exact k2 st (Option.some.inj h).symm
def J_X8_lengthen_b3 (v2 v3 v4 v5 v6 : Int) (st : z_St) : Option ((Int × z_St) ⊕ z_St) :=
  z_g (z32 v6 ∧ z32 v3) (if v6 < v3 then
    z_b (J_X0_span v5 v6 v3 st) fun r1 =>
    z_b (z_iter z_F (fun q9 : (Int × z_St) => J_X8_lengthen_b23 v2 v3 v4 v5 v6 r1 q9.1 q9.2) (0, st)) fun lx9 =>
      some (.inl (v6 + 1, lx9))
  else
    some (.inr st))
set_option maxRecDepth 100000 in
set_option maxHeartbeats 4000000 in
theorem w_X8_lengthen_b3 {κ : zK} {a : Nat → Nat} {v2 v3 v4 v5 v6 : Int} {st : z_St} {mc9 ms9 : Nat} {o : (Int × z_St) ⊕ z_St} (hc : z_C κ RX8 cX8_lengthen 13 9 mc9 ms9) (hap : z_AP κ a z_N) (k1 : ∀ s9 : (Int × z_St), o = .inl s9 → z_V κ z_T z_N a 0 0 3 [(0, .ref (a 140)), (1, .ref (a 99)), (2, .int (zI v2)), (3, .int (zI v3)), (4, .int (zI v4)), (5, .int (zI v5)), (6, .int (zI s9.1))] [] s9.2) (k2 : ∀ x9 : z_St, o = .inr x9 → z_V κ z_T z_N a 0 0 123 [] [] x9) (h : J_X8_lengthen_b3 v2 v3 v4 v5 v6 st = some o) : z_V κ z_T z_N a 0 0 3 [(0, .ref (a 140)), (1, .ref (a 99)), (2, .int (zI v2)), (3, .int (zI v3)), (4, .int (zI v4)), (5, .int (zI v5)), (6, .int (zI v6))] [] st := by
  unfold J_X8_lengthen_b3 at h
  refine z_iload 6 hc dX8_lengthen_3 rfl ?_
  refine z_iload_n (i := 3) 3 hc dX8_lengthen_5 rfl rfl ?_
  refine z_icmp_ge (tgt := 123) hc dX8_lengthen_6 (by decide) h (fun c6 h => ?_) (fun c6 h => ?_)
  · refine z_aload_n (i := 1) 1 hc dX8_lengthen_9 rfl rfl ?_
    refine z_iload 5 hc dX8_lengthen_10 rfl ?_
    refine z_iload 6 hc dX8_lengthen_12 rfl ?_
    refine z_iload_n (i := 3) 3 hc dX8_lengthen_14 rfl rfl ?_
    obtain ⟨r1, hr1, h⟩ := z_b_some h
    refine z_callVJ [.int (zI v5), .int (zI v6), .int (zI v3)] hc hap o_X0_span ml_RX8_44 (fun l hl => c_X0_span hl  hr1) (by decide) tT_99 (by decide) ⟨_, rfl, rfl⟩ rfl rfl (Nat.le_of_ble_eq_true rfl) (Nat.zero_le _) (Nat.zero_le _) dX8_lengthen_15 ?_
    refine z_lstore [(7, .long (zJ r1)), (0, .ref (a 140)), (1, .ref (a 99)), (2, .int (zI v2)), (3, .int (zI v3)), (4, .int (zI v4)), (5, .int (zI v5)), (6, .int (zI v6))] hc dX8_lengthen_18 (by decide) rfl ?_
    refine z_iconst hc dX8_lengthen_20 ?_
    refine z_istore [(9, .int (zI 0)), (7, .long (zJ r1)), (0, .ref (a 140)), (1, .ref (a 99)), (2, .int (zI v2)), (3, .int (zI v3)), (4, .int (zI v4)), (5, .int (zI v5)), (6, .int (zI v6))] hc dX8_lengthen_21 (by decide) rfl ?_
    obtain ⟨lx9, hlx9, h⟩ := z_b_some h
    refine z_sub [(0, .ref (a 140)), (1, .ref (a 99)), (2, .int (zI v2)), (3, .int (zI v3)), (4, .int (zI v4)), (5, .int (zI v5)), (6, .int (zI v6)), (7, .long (zJ r1)), (9, .int (zI 0))] [2, 3, 4, 5, 6, 7, 8, 1, 0] rfl ?_
    refine z_loop (fun q9 : (Int × z_St) => J_X8_lengthen_b23 v2 v3 v4 v5 v6 r1 q9.1 q9.2) (fun q9 : (Int × z_St) => z_V κ z_T z_N a 0 0 23 [(0, .ref (a 140)), (1, .ref (a 99)), (2, .int (zI v2)), (3, .int (zI v3)), (4, .int (zI v4)), (5, .int (zI v5)), (6, .int (zI v6)), (7, .long (zJ r1)), (9, .int (zI q9.1))] [] q9.2) (fun x9 : z_St => z_V κ z_T z_N a 0 0 117 [(0, .ref (a 140)), (1, .ref (a 99)), (2, .int (zI v2)), (3, .int (zI v3)), (4, .int (zI v4)), (5, .int (zI v5)), (6, .int (zI v6))] [] x9) (fun q9 o9 hb k1 k2 => ?_) _ _ _ hlx9 ?_
    · exact w_X8_lengthen_b23 hc hap k1 k2 hb
    · show z_V κ z_T z_N a 0 0 117 [(0, .ref (a 140)), (1, .ref (a 99)), (2, .int (zI v2)), (3, .int (zI v3)), (4, .int (zI v4)), (5, .int (zI v5)), (6, .int (zI v6))] [] lx9
      refine z_iinc [(6, .int (zI (v6 + 1))), (0, .ref (a 140)), (1, .ref (a 99)), (2, .int (zI v2)), (3, .int (zI v3)), (4, .int (zI v4)), (5, .int (zI v5))] 6 hc dX8_lengthen_117 rfl (by decide) rfl ?_
      refine z_goto (tgt := 3) hc dX8_lengthen_120 (by decide) ?_
      refine z_sub [(0, .ref (a 140)), (1, .ref (a 99)), (2, .int (zI v2)), (3, .int (zI v3)), (4, .int (zI v4)), (5, .int (zI v5)), (6, .int (zI (v6 + 1)))] [1, 2, 3, 4, 5, 6, 0] rfl ?_
      exact k1 _ (Option.some.inj h).symm
  · refine z_sub [] [] rfl ?_
    exact k2 st (Option.some.inj h).symm
def J_X8_lengthen (x2 x3 x4 x5 : Int) (st : z_St) : Option (z_St) :=
  z_b (z_iter z_F (fun q9 : (Int × z_St) => J_X8_lengthen_b3 x2 x3 x4 x5 q9.1 q9.2) (1, st)) fun lx10 =>
    some lx10
set_option maxRecDepth 100000 in
set_option maxHeartbeats 4000000 in
theorem w_X8_lengthen {κ : zK} {a : Nat → Nat} {x2 x3 x4 x5 : Int} {st : z_St} {o : z_St} (hc : z_C κ RX8 cX8_lengthen 13 9 0 0) (hap : z_AP κ a z_N) (he : z_E 2 κ none z_T z_N a 0 o) (h : J_X8_lengthen x2 x3 x4 x5 st = some o) : z_V κ z_T z_N a 0 0 0 [(0, .ref (a 140)), (1, .ref (a 99)), (2, .int (zI x2)), (3, .int (zI x3)), (4, .int (zI x4)), (5, .int (zI x5))] [] st := by
  unfold J_X8_lengthen at h
  refine z_iconst hc dX8_lengthen_0 ?_
  refine z_istore [(6, .int (zI 1)), (0, .ref (a 140)), (1, .ref (a 99)), (2, .int (zI x2)), (3, .int (zI x3)), (4, .int (zI x4)), (5, .int (zI x5))] hc dX8_lengthen_1 (by decide) rfl ?_
  obtain ⟨lx10, hlx10, h⟩ := z_b_some h
  refine z_sub [(0, .ref (a 140)), (1, .ref (a 99)), (2, .int (zI x2)), (3, .int (zI x3)), (4, .int (zI x4)), (5, .int (zI x5)), (6, .int (zI 1))] [1, 2, 3, 4, 5, 6, 0] rfl ?_
  refine z_loop (fun q9 : (Int × z_St) => J_X8_lengthen_b3 x2 x3 x4 x5 q9.1 q9.2) (fun q9 : (Int × z_St) => z_V κ z_T z_N a 0 0 3 [(0, .ref (a 140)), (1, .ref (a 99)), (2, .int (zI x2)), (3, .int (zI x3)), (4, .int (zI x4)), (5, .int (zI x5)), (6, .int (zI q9.1))] [] q9.2) (fun x9 : z_St => z_V κ z_T z_N a 0 0 123 [] [] x9) (fun q9 o9 hb k1 k2 => ?_) _ _ _ hlx10 ?_
  · exact w_X8_lengthen_b3 hc hap k1 k2 hb
  · show z_V κ z_T z_N a 0 0 123 [] [] lx10
    have h := Option.some.inj h
    subst h
    exact z_retV hc he dX8_lengthen_123
set_option maxRecDepth 100000 in
set_option maxHeartbeats 4000000 in
theorem c_X8_lengthen {l : Launch} (hl : l.stackTraces = false) {a : Nat → Nat} {x2 x3 x4 x5 : Int} {st : z_St} {o : z_St} (h : J_X8_lengthen x2 x3 x4 x5 st = some o) : z_M 2 l yX8_lengthen cX8_lengthen 13 none 9 z_T z_N a [.ref (a 140), .ref (a 99), .int (zI x2), .int (zI x3), .int (zI x4), .int (zI x5)] st 0 o := z_of hl (by decide +kernel) (Nat.le_of_ble_eq_true rfl) (fun κ hc hap he => w_X8_lengthen hc hap he h)
theorem dX8_drop_0 : decode cX8_drop 0 = .ok (.aload_n 0, 1) := by decide +kernel
theorem dX8_drop_1 : decode cX8_drop 1 = .ok (.getfield 9, 3) := by decide +kernel
theorem dX8_drop_4 : decode cX8_drop 4 = .ok (.iload_n 1, 1) := by decide +kernel
theorem dX8_drop_5 : decode cX8_drop 5 = .ok (.ldc2_w 36, 3) := by decide +kernel
theorem dX8_drop_8 : decode cX8_drop 8 = .ok (.lastore, 1) := by decide +kernel
theorem dX8_drop_9 : decode cX8_drop 9 = .ok (.aload_n 0, 1) := by decide +kernel
theorem dX8_drop_10 : decode cX8_drop 10 = .ok (.dup, 1) := by decide +kernel
theorem dX8_drop_11 : decode cX8_drop 11 = .ok (.getfield 23, 3) := by decide +kernel
theorem dX8_drop_14 : decode cX8_drop 14 = .ok (.iconst 1, 1) := by decide +kernel
theorem dX8_drop_15 : decode cX8_drop 15 = .ok (.iadd, 1) := by decide +kernel
theorem dX8_drop_16 : decode cX8_drop 16 = .ok (.putfield 23, 3) := by decide +kernel
theorem dX8_drop_19 : decode cX8_drop 19 = .ok (.return_, 1) := by decide +kernel
def J_X8_drop (x1 : Int) (st : z_St) : Option (z_St) :=
  z_g (0 ≤ x1 ∧ x1 < 340) <|
  z_let (z_up st 141 x1 1152921504606846976) fun st1 =>
  z_let (z_up st1 140 3 ((st1 140 3) + 1)) fun st2 =>
  some st2
set_option maxRecDepth 100000 in
set_option maxHeartbeats 4000000 in
theorem w_X8_drop {κ : zK} {a : Nat → Nat} {x1 : Int} {st : z_St} {o : z_St} (hc : z_C κ RX8 cX8_drop 2 8 0 0) (hap : z_AP κ a z_N) (he : z_E 2 κ none z_T z_N a 0 o) (h : J_X8_drop x1 st = some o) : z_V κ z_T z_N a 0 0 0 [(0, .ref (a 140)), (1, .int (zI x1))] [] st := by
  unfold J_X8_drop at h
  refine z_aload_n (i := 0) 0 hc dX8_drop_0 rfl rfl ?_
  refine z_getA (k' := 141) hc fl_RX8_9 tT_140 (by decide) rfl rfl dX8_drop_1 ?_
  refine z_iload_n (i := 1) 1 hc dX8_drop_4 rfl rfl ?_
  refine z_ldc2 1152921504606846976 hc kc_RX8_36 dX8_drop_5 rfl ?_
  refine z_last (kI := 141) (nI9 := 340) hc hap tT_141 (by decide) rfl rfl (by decide) dX8_drop_8 h (fun st1 h => ?_)
  refine z_aload_n (i := 0) 0 hc dX8_drop_9 rfl rfl ?_
  refine z_dup hc dX8_drop_10 rfl ?_
  refine z_getI (kI := 140) (jI := 3) hc fl_RX8_23 tT_140 (by decide) rfl rfl rfl dX8_drop_11 ?_
  refine z_iconst hc dX8_drop_14 ?_
  refine z_iadd hc dX8_drop_15 ?_
  refine z_putI (kI := 140) (jI := 3) hc hap fp_RX8_23 tT_140 (by decide) rfl rfl rfl dX8_drop_16 h (fun st2 h => ?_)
  have h := Option.some.inj h
  subst h
  exact z_retV hc he dX8_drop_19
set_option maxRecDepth 100000 in
set_option maxHeartbeats 4000000 in
theorem c_X8_drop {l : Launch} (hl : l.stackTraces = false) {a : Nat → Nat} {x1 : Int} {st : z_St} {o : z_St} (h : J_X8_drop x1 st = some o) : z_M 2 l yX8_drop cX8_drop 2 none 8 z_T z_N a [.ref (a 140), .int (zI x1)] st 0 o := z_of hl (by decide +kernel) (Nat.le_of_ble_eq_true rfl) (fun κ hc hap he => w_X8_drop hc hap he h)
theorem dX8_dropDear_0 : decode cX8_dropDear 0 = .ok (.ldc2_w 36, 3) := by decide +kernel
theorem dX8_dropDear_3 : decode cX8_dropDear 3 = .ok (.lstore 4, 2) := by decide +kernel
theorem dX8_dropDear_5 : decode cX8_dropDear 5 = .ok (.iload_n 1, 1) := by decide +kernel
theorem dX8_dropDear_6 : decode cX8_dropDear 6 = .ok (.istore 6, 2) := by decide +kernel
theorem dX8_dropDear_8 : decode cX8_dropDear 8 = .ok (.iload 6, 2) := by decide +kernel
theorem dX8_dropDear_10 : decode cX8_dropDear 10 = .ok (.iload_n 1, 1) := by decide +kernel
theorem dX8_dropDear_11 : decode cX8_dropDear 11 = .ok (.bipush 20, 2) := by decide +kernel
theorem dX8_dropDear_13 : decode cX8_dropDear 13 = .ok (.iadd, 1) := by decide +kernel
theorem dX8_dropDear_14 : decode cX8_dropDear 14 = .ok (.if_icmp .ge 23, 3) := by decide +kernel
theorem dX8_dropDear_17 : decode cX8_dropDear 17 = .ok (.lload 4, 2) := by decide +kernel
theorem dX8_dropDear_19 : decode cX8_dropDear 19 = .ok (.aload_n 0, 1) := by decide +kernel
theorem dX8_dropDear_20 : decode cX8_dropDear 20 = .ok (.getfield 9, 3) := by decide +kernel
theorem dX8_dropDear_23 : decode cX8_dropDear 23 = .ok (.iload 6, 2) := by decide +kernel
theorem dX8_dropDear_25 : decode cX8_dropDear 25 = .ok (.laload, 1) := by decide +kernel
theorem dX8_dropDear_26 : decode cX8_dropDear 26 = .ok (.invokestatic 74, 3) := by decide +kernel
theorem dX8_dropDear_29 : decode cX8_dropDear 29 = .ok (.lstore 4, 2) := by decide +kernel
theorem dX8_dropDear_31 : decode cX8_dropDear 31 = .ok (.iinc 6 1, 3) := by decide +kernel
theorem dX8_dropDear_34 : decode cX8_dropDear 34 = .ok (.goto (-26), 3) := by decide +kernel
theorem dX8_dropDear_37 : decode cX8_dropDear 37 = .ok (.iload_n 1, 1) := by decide +kernel
theorem dX8_dropDear_38 : decode cX8_dropDear 38 = .ok (.istore 6, 2) := by decide +kernel
theorem dX8_dropDear_40 : decode cX8_dropDear 40 = .ok (.iload 6, 2) := by decide +kernel
theorem dX8_dropDear_42 : decode cX8_dropDear 42 = .ok (.iload_n 1, 1) := by decide +kernel
theorem dX8_dropDear_43 : decode cX8_dropDear 43 = .ok (.bipush 20, 2) := by decide +kernel
theorem dX8_dropDear_45 : decode cX8_dropDear 45 = .ok (.iadd, 1) := by decide +kernel
theorem dX8_dropDear_46 : decode cX8_dropDear 46 = .ok (.if_icmp .ge 44, 3) := by decide +kernel
theorem dX8_dropDear_49 : decode cX8_dropDear 49 = .ok (.aload_n 0, 1) := by decide +kernel
theorem dX8_dropDear_50 : decode cX8_dropDear 50 = .ok (.getfield 9, 3) := by decide +kernel
theorem dX8_dropDear_53 : decode cX8_dropDear 53 = .ok (.iload 6, 2) := by decide +kernel
theorem dX8_dropDear_55 : decode cX8_dropDear 55 = .ok (.laload, 1) := by decide +kernel
theorem dX8_dropDear_56 : decode cX8_dropDear 56 = .ok (.ldc2_w 36, 3) := by decide +kernel
theorem dX8_dropDear_59 : decode cX8_dropDear 59 = .ok (.lcmp, 1) := by decide +kernel
theorem dX8_dropDear_60 : decode cX8_dropDear 60 = .ok (.ifCond .ge 24, 3) := by decide +kernel
theorem dX8_dropDear_63 : decode cX8_dropDear 63 = .ok (.aload_n 0, 1) := by decide +kernel
theorem dX8_dropDear_64 : decode cX8_dropDear 64 = .ok (.getfield 9, 3) := by decide +kernel
theorem dX8_dropDear_67 : decode cX8_dropDear 67 = .ok (.iload 6, 2) := by decide +kernel
theorem dX8_dropDear_69 : decode cX8_dropDear 69 = .ok (.laload, 1) := by decide +kernel
theorem dX8_dropDear_70 : decode cX8_dropDear 70 = .ok (.lload 4, 2) := by decide +kernel
theorem dX8_dropDear_72 : decode cX8_dropDear 72 = .ok (.lsub, 1) := by decide +kernel
theorem dX8_dropDear_73 : decode cX8_dropDear 73 = .ok (.lload_n 2, 1) := by decide +kernel
theorem dX8_dropDear_74 : decode cX8_dropDear 74 = .ok (.lcmp, 1) := by decide +kernel
theorem dX8_dropDear_75 : decode cX8_dropDear 75 = .ok (.ifCond .le 9, 3) := by decide +kernel
theorem dX8_dropDear_78 : decode cX8_dropDear 78 = .ok (.aload_n 0, 1) := by decide +kernel
theorem dX8_dropDear_79 : decode cX8_dropDear 79 = .ok (.iload 6, 2) := by decide +kernel
theorem dX8_dropDear_81 : decode cX8_dropDear 81 = .ok (.invokevirtual 80, 3) := by decide +kernel
theorem dX8_dropDear_84 : decode cX8_dropDear 84 = .ok (.iinc 6 1, 3) := by decide +kernel
theorem dX8_dropDear_87 : decode cX8_dropDear 87 = .ok (.goto (-47), 3) := by decide +kernel
theorem dX8_dropDear_90 : decode cX8_dropDear 90 = .ok (.return_, 1) := by decide +kernel
def J_X8_dropDear_b8 (v1 v2 v4 v6 : Int) (st : z_St) : Option ((Int × Int) ⊕ Int) :=
  z_g (z32 v6 ∧ z32 (v1 + 20)) (if v6 < v1 + 20 then
    z_g (0 ≤ v6 ∧ v6 < 340) <|
    z_g (z64 v4 ∧ z64 (st 141 v6)) <|
    some (.inl (min v4 (st 141 v6), v6 + 1))
  else
    some (.inr v4))
set_option maxRecDepth 100000 in
set_option maxHeartbeats 4000000 in
theorem w_X8_dropDear_b8 {κ : zK} {a : Nat → Nat} {v1 v2 v4 v6 : Int} {st : z_St} {mc9 ms9 : Nat} {o : (Int × Int) ⊕ Int} (hc : z_C κ RX8 cX8_dropDear 7 9 mc9 ms9) (hap : z_AP κ a z_N) (k1 : ∀ s9 : (Int × Int), o = .inl s9 → z_V κ z_T z_N a 0 0 8 [(0, .ref (a 140)), (1, .int (zI v1)), (2, .long (zJ v2)), (4, .long (zJ s9.1)), (6, .int (zI s9.2))] [] st) (k2 : ∀ x9 : Int, o = .inr x9 → z_V κ z_T z_N a 0 0 37 [(0, .ref (a 140)), (1, .int (zI v1)), (2, .long (zJ v2)), (4, .long (zJ x9))] [] st) (h : J_X8_dropDear_b8 v1 v2 v4 v6 st = some o) : z_V κ z_T z_N a 0 0 8 [(0, .ref (a 140)), (1, .int (zI v1)), (2, .long (zJ v2)), (4, .long (zJ v4)), (6, .int (zI v6))] [] st := by
  unfold J_X8_dropDear_b8 at h
  refine z_iload 4 hc dX8_dropDear_8 rfl ?_
  refine z_iload_n (i := 1) 1 hc dX8_dropDear_10 rfl rfl ?_
  refine z_bipush hc dX8_dropDear_11 rfl ?_
  refine z_iadd hc dX8_dropDear_13 ?_
  refine z_icmp_ge (tgt := 37) hc dX8_dropDear_14 (by decide) h (fun c14 h => ?_) (fun c14 h => ?_)
  · refine z_lload 3 hc dX8_dropDear_17 rfl ?_
    refine z_aload_n (i := 0) 0 hc dX8_dropDear_19 rfl rfl ?_
    refine z_getA (k' := 141) hc fl_RX8_9 tT_140 (by decide) rfl rfl dX8_dropDear_20 ?_
    refine z_iload 4 hc dX8_dropDear_23 rfl ?_
    refine z_lald (kI := 141) (nI9 := 340) hc tT_141 (by decide) rfl rfl (by decide) dX8_dropDear_25 h (fun g1 h => ?_)
    refine z_minJ hc ml_RX8_74 h ⟨rfl, rfl, Nat.le_of_ble_eq_true rfl, by omega⟩ dX8_dropDear_26 (fun h => ?_)
    refine z_lstore [(4, .long (zJ (min v4 (st 141 v6)))), (0, .ref (a 140)), (1, .int (zI v1)), (2, .long (zJ v2)), (6, .int (zI v6))] hc dX8_dropDear_29 (by decide) rfl ?_
    refine z_iinc [(6, .int (zI (v6 + 1))), (4, .long (zJ (min v4 (st 141 v6)))), (0, .ref (a 140)), (1, .int (zI v1)), (2, .long (zJ v2))] 4 hc dX8_dropDear_31 rfl (by decide) rfl ?_
    refine z_goto (tgt := 8) hc dX8_dropDear_34 (by decide) ?_
    refine z_sub [(0, .ref (a 140)), (1, .int (zI v1)), (2, .long (zJ v2)), (4, .long (zJ (min v4 (st 141 v6)))), (6, .int (zI (v6 + 1)))] [2, 3, 4, 1, 0] rfl ?_
    exact k1 _ (Option.some.inj h).symm
  · refine z_sub [(0, .ref (a 140)), (1, .int (zI v1)), (2, .long (zJ v2)), (4, .long (zJ v4))] [0, 1, 2, 3] rfl ?_
    exact k2 v4 (Option.some.inj h).symm
def J_X8_dropDear_84 (v1 v2 v4 v6 : Int) (st : z_St) : Option ((Int × z_St) ⊕ z_St) :=
  some (.inl (v6 + 1, st))
set_option maxRecDepth 100000 in
set_option maxHeartbeats 4000000 in
theorem w_X8_dropDear_84 {κ : zK} {a : Nat → Nat} {v1 v2 v4 v6 : Int} {st : z_St} {mc9 ms9 : Nat} {o : (Int × z_St) ⊕ z_St} (hc : z_C κ RX8 cX8_dropDear 7 9 mc9 ms9) (hap : z_AP κ a z_N) (k1 : ∀ s9 : (Int × z_St), o = .inl s9 → z_V κ z_T z_N a 0 0 40 [(0, .ref (a 140)), (1, .int (zI v1)), (2, .long (zJ v2)), (4, .long (zJ v4)), (6, .int (zI s9.1))] [] s9.2) (k2 : ∀ x9 : z_St, o = .inr x9 → z_V κ z_T z_N a 0 0 90 [] [] x9) (h : J_X8_dropDear_84 v1 v2 v4 v6 st = some o) : z_V κ z_T z_N a 0 0 84 [(0, .ref (a 140)), (1, .int (zI v1)), (2, .long (zJ v2)), (4, .long (zJ v4)), (6, .int (zI v6))] [] st := by
  unfold J_X8_dropDear_84 at h
  refine z_iinc [(6, .int (zI (v6 + 1))), (0, .ref (a 140)), (1, .int (zI v1)), (2, .long (zJ v2)), (4, .long (zJ v4))] 4 hc dX8_dropDear_84 rfl (by decide) rfl ?_
  refine z_goto (tgt := 40) hc dX8_dropDear_87 (by decide) ?_
  refine z_sub [(0, .ref (a 140)), (1, .int (zI v1)), (2, .long (zJ v2)), (4, .long (zJ v4)), (6, .int (zI (v6 + 1)))] [1, 2, 3, 4, 0] rfl ?_
  exact k1 _ (Option.some.inj h).symm
def J_X8_dropDear_b40 (v1 v2 v4 v6 : Int) (st : z_St) : Option ((Int × z_St) ⊕ z_St) :=
  z_g (z32 v6 ∧ z32 (v1 + 20)) (if v6 < v1 + 20 then
    z_g (0 ≤ v6 ∧ v6 < 340) <|
    z_g (z64 (st 141 v6) ∧ z64 1152921504606846976) (if st 141 v6 < 1152921504606846976 then
      z_g (0 ≤ v6 ∧ v6 < 340) <|
      z_g (z64 ((st 141 v6) - v4) ∧ z64 v2) (if v2 < (st 141 v6) - v4 then
        z_b (J_X8_drop v6 st) fun st6 =>
        J_X8_dropDear_84 v1 v2 v4 v6 st6
      else
        J_X8_dropDear_84 v1 v2 v4 v6 st)
    else
      J_X8_dropDear_84 v1 v2 v4 v6 st)
  else
    some (.inr st))
set_option maxRecDepth 100000 in
set_option maxHeartbeats 4000000 in
theorem w_X8_dropDear_b40 {κ : zK} {a : Nat → Nat} {v1 v2 v4 v6 : Int} {st : z_St} {mc9 ms9 : Nat} {o : (Int × z_St) ⊕ z_St} (hc : z_C κ RX8 cX8_dropDear 7 9 mc9 ms9) (hap : z_AP κ a z_N) (k1 : ∀ s9 : (Int × z_St), o = .inl s9 → z_V κ z_T z_N a 0 0 40 [(0, .ref (a 140)), (1, .int (zI v1)), (2, .long (zJ v2)), (4, .long (zJ v4)), (6, .int (zI s9.1))] [] s9.2) (k2 : ∀ x9 : z_St, o = .inr x9 → z_V κ z_T z_N a 0 0 90 [] [] x9) (h : J_X8_dropDear_b40 v1 v2 v4 v6 st = some o) : z_V κ z_T z_N a 0 0 40 [(0, .ref (a 140)), (1, .int (zI v1)), (2, .long (zJ v2)), (4, .long (zJ v4)), (6, .int (zI v6))] [] st := by
  unfold J_X8_dropDear_b40 at h
  refine z_iload 4 hc dX8_dropDear_40 rfl ?_
  refine z_iload_n (i := 1) 1 hc dX8_dropDear_42 rfl rfl ?_
  refine z_bipush hc dX8_dropDear_43 rfl ?_
  refine z_iadd hc dX8_dropDear_45 ?_
  refine z_icmp_ge (tgt := 90) hc dX8_dropDear_46 (by decide) h (fun c46 h => ?_) (fun c46 h => ?_)
  · refine z_aload_n (i := 0) 0 hc dX8_dropDear_49 rfl rfl ?_
    refine z_getA (k' := 141) hc fl_RX8_9 tT_140 (by decide) rfl rfl dX8_dropDear_50 ?_
    refine z_iload 4 hc dX8_dropDear_53 rfl ?_
    refine z_lald (kI := 141) (nI9 := 340) hc tT_141 (by decide) rfl rfl (by decide) dX8_dropDear_55 h (fun g3 h => ?_)
    refine z_ldc2 1152921504606846976 hc kc_RX8_36 dX8_dropDear_56 rfl ?_
    refine z_lcmp_ge (tgt := 84) hc dX8_dropDear_59 dX8_dropDear_60 (by decide) h (fun c59 h => ?_) (fun c59 h => ?_)
    · refine z_aload_n (i := 0) 0 hc dX8_dropDear_63 rfl rfl ?_
      refine z_getA (k' := 141) hc fl_RX8_9 tT_140 (by decide) rfl rfl dX8_dropDear_64 ?_
      refine z_iload 4 hc dX8_dropDear_67 rfl ?_
      refine z_lald (kI := 141) (nI9 := 340) hc tT_141 (by decide) rfl rfl (by decide) dX8_dropDear_69 h (fun g4 h => ?_)
      refine z_lload 3 hc dX8_dropDear_70 rfl ?_
      refine z_lsub hc dX8_dropDear_72 ?_
      refine z_lload_n (i := 2) 2 hc dX8_dropDear_73 rfl rfl ?_
      refine z_lcmp_le (tgt := 84) hc dX8_dropDear_74 dX8_dropDear_75 (by decide) h (fun c74 h => ?_) (fun c74 h => ?_)
      · refine z_aload_n (i := 0) 0 hc dX8_dropDear_78 rfl rfl ?_
        refine z_iload 4 hc dX8_dropDear_79 rfl ?_
        obtain ⟨st6, hr5, h⟩ := z_b_some h
        refine z_callVV [.int (zI v6)] hc hap o_X8_drop ml_RX8_80 (fun l hl => c_X8_drop hl  hr5) (by decide) tT_140 (by decide) ⟨_, rfl, rfl⟩ rfl rfl (Nat.le_of_ble_eq_true rfl) (Nat.zero_le _) (Nat.zero_le _) dX8_dropDear_81 ?_
        refine z_sub [(0, .ref (a 140)), (1, .int (zI v1)), (2, .long (zJ v2)), (4, .long (zJ v4)), (6, .int (zI v6))] [0, 1, 2, 3, 4] rfl ?_
        exact w_X8_dropDear_84 hc hap k1 k2 h
      · refine z_sub [(0, .ref (a 140)), (1, .int (zI v1)), (2, .long (zJ v2)), (4, .long (zJ v4)), (6, .int (zI v6))] [0, 1, 2, 3, 4] rfl ?_
        exact w_X8_dropDear_84 hc hap k1 k2 h
    · refine z_sub [(0, .ref (a 140)), (1, .int (zI v1)), (2, .long (zJ v2)), (4, .long (zJ v4)), (6, .int (zI v6))] [0, 1, 2, 3, 4] rfl ?_
      exact w_X8_dropDear_84 hc hap k1 k2 h
  · refine z_sub [] [] rfl ?_
    exact k2 st (Option.some.inj h).symm
def J_X8_dropDear (x1 x2 : Int) (st : z_St) : Option (z_St) :=
  z_b (z_iter z_F (fun q9 : (Int × Int) => J_X8_dropDear_b8 x1 x2 q9.1 q9.2 st) (1152921504606846976, x1)) fun lx2 =>
    z_b (z_iter z_F (fun q9 : (Int × z_St) => J_X8_dropDear_b40 x1 x2 lx2 q9.1 q9.2) (x1, st)) fun lx7 =>
      some lx7
set_option maxRecDepth 100000 in
set_option maxHeartbeats 4000000 in
theorem w_X8_dropDear {κ : zK} {a : Nat → Nat} {x1 x2 : Int} {st : z_St} {o : z_St} (hc : z_C κ RX8 cX8_dropDear 7 9 0 0) (hap : z_AP κ a z_N) (he : z_E 2 κ none z_T z_N a 0 o) (h : J_X8_dropDear x1 x2 st = some o) : z_V κ z_T z_N a 0 0 0 [(0, .ref (a 140)), (1, .int (zI x1)), (2, .long (zJ x2))] [] st := by
  unfold J_X8_dropDear at h
  refine z_ldc2 1152921504606846976 hc kc_RX8_36 dX8_dropDear_0 rfl ?_
  refine z_lstore [(4, .long (zJ 1152921504606846976)), (0, .ref (a 140)), (1, .int (zI x1)), (2, .long (zJ x2))] hc dX8_dropDear_3 (by decide) rfl ?_
  refine z_iload_n (i := 1) 2 hc dX8_dropDear_5 rfl rfl ?_
  refine z_istore [(6, .int (zI x1)), (4, .long (zJ 1152921504606846976)), (0, .ref (a 140)), (1, .int (zI x1)), (2, .long (zJ x2))] hc dX8_dropDear_6 (by decide) rfl ?_
  obtain ⟨lx2, hlx2, h⟩ := z_b_some h
  refine z_sub [(0, .ref (a 140)), (1, .int (zI x1)), (2, .long (zJ x2)), (4, .long (zJ 1152921504606846976)), (6, .int (zI x1))] [2, 3, 4, 1, 0] rfl ?_
  refine z_loop (fun q9 : (Int × Int) => J_X8_dropDear_b8 x1 x2 q9.1 q9.2 st) (fun q9 : (Int × Int) => z_V κ z_T z_N a 0 0 8 [(0, .ref (a 140)), (1, .int (zI x1)), (2, .long (zJ x2)), (4, .long (zJ q9.1)), (6, .int (zI q9.2))] [] st) (fun x9 : Int => z_V κ z_T z_N a 0 0 37 [(0, .ref (a 140)), (1, .int (zI x1)), (2, .long (zJ x2)), (4, .long (zJ x9))] [] st) (fun q9 o9 hb k1 k2 => ?_) _ _ _ hlx2 ?_
  · exact w_X8_dropDear_b8 hc hap k1 k2 hb
  · show z_V κ z_T z_N a 0 0 37 [(0, .ref (a 140)), (1, .int (zI x1)), (2, .long (zJ x2)), (4, .long (zJ lx2))] [] st
    refine z_iload_n (i := 1) 1 hc dX8_dropDear_37 rfl rfl ?_
    refine z_istore [(6, .int (zI x1)), (0, .ref (a 140)), (1, .int (zI x1)), (2, .long (zJ x2)), (4, .long (zJ lx2))] hc dX8_dropDear_38 (by decide) rfl ?_
    obtain ⟨lx7, hlx7, h⟩ := z_b_some h
    refine z_sub [(0, .ref (a 140)), (1, .int (zI x1)), (2, .long (zJ x2)), (4, .long (zJ lx2)), (6, .int (zI x1))] [1, 2, 3, 4, 0] rfl ?_
    refine z_loop (fun q9 : (Int × z_St) => J_X8_dropDear_b40 x1 x2 lx2 q9.1 q9.2) (fun q9 : (Int × z_St) => z_V κ z_T z_N a 0 0 40 [(0, .ref (a 140)), (1, .int (zI x1)), (2, .long (zJ x2)), (4, .long (zJ lx2)), (6, .int (zI q9.1))] [] q9.2) (fun x9 : z_St => z_V κ z_T z_N a 0 0 90 [] [] x9) (fun q9 o9 hb k1 k2 => ?_) _ _ _ hlx7 ?_
    · exact w_X8_dropDear_b40 hc hap k1 k2 hb
    · show z_V κ z_T z_N a 0 0 90 [] [] lx7
      have h := Option.some.inj h
      subst h
      exact z_retV hc he dX8_dropDear_90
set_option maxRecDepth 100000 in
set_option maxHeartbeats 4000000 in
theorem c_X8_dropDear {l : Launch} (hl : l.stackTraces = false) {a : Nat → Nat} {x1 x2 : Int} {st : z_St} {o : z_St} (h : J_X8_dropDear x1 x2 st = some o) : z_M 2 l yX8_dropDear cX8_dropDear 7 none 9 z_T z_N a [.ref (a 140), .int (zI x1), .long (zJ x2)] st 0 o := z_of hl (by decide +kernel) (Nat.le_of_ble_eq_true rfl) (fun κ hc hap he => w_X8_dropDear hc hap he h)
theorem dX8_countAhead_0 : decode cX8_countAhead 0 = .ok (.iconst 0, 1) := by decide +kernel
theorem dX8_countAhead_1 : decode cX8_countAhead 1 = .ok (.istore_n 3, 1) := by decide +kernel
theorem dX8_countAhead_2 : decode cX8_countAhead 2 = .ok (.iload_n 1, 1) := by decide +kernel
theorem dX8_countAhead_3 : decode cX8_countAhead 3 = .ok (.istore 4, 2) := by decide +kernel
theorem dX8_countAhead_5 : decode cX8_countAhead 5 = .ok (.iload 4, 2) := by decide +kernel
theorem dX8_countAhead_7 : decode cX8_countAhead 7 = .ok (.iload_n 1, 1) := by decide +kernel
theorem dX8_countAhead_8 : decode cX8_countAhead 8 = .ok (.bipush 20, 2) := by decide +kernel
theorem dX8_countAhead_10 : decode cX8_countAhead 10 = .ok (.iadd, 1) := by decide +kernel
theorem dX8_countAhead_11 : decode cX8_countAhead 11 = .ok (.if_icmp .ge 105, 3) := by decide +kernel
theorem dX8_countAhead_14 : decode cX8_countAhead 14 = .ok (.aload_n 0, 1) := by decide +kernel
theorem dX8_countAhead_15 : decode cX8_countAhead 15 = .ok (.getfield 9, 3) := by decide +kernel
theorem dX8_countAhead_18 : decode cX8_countAhead 18 = .ok (.iload 4, 2) := by decide +kernel
theorem dX8_countAhead_20 : decode cX8_countAhead 20 = .ok (.laload, 1) := by decide +kernel
theorem dX8_countAhead_21 : decode cX8_countAhead 21 = .ok (.aload_n 0, 1) := by decide +kernel
theorem dX8_countAhead_22 : decode cX8_countAhead 22 = .ok (.getfield 9, 3) := by decide +kernel
theorem dX8_countAhead_25 : decode cX8_countAhead 25 = .ok (.iload_n 2, 1) := by decide +kernel
theorem dX8_countAhead_26 : decode cX8_countAhead 26 = .ok (.laload, 1) := by decide +kernel
theorem dX8_countAhead_27 : decode cX8_countAhead 27 = .ok (.lcmp, 1) := by decide +kernel
theorem dX8_countAhead_28 : decode cX8_countAhead 28 = .ok (.ifCond .ge 7, 3) := by decide +kernel
theorem dX8_countAhead_31 : decode cX8_countAhead 31 = .ok (.iconst 1, 1) := by decide +kernel
theorem dX8_countAhead_32 : decode cX8_countAhead 32 = .ok (.goto 4, 3) := by decide +kernel
theorem dX8_countAhead_35 : decode cX8_countAhead 35 = .ok (.iconst 0, 1) := by decide +kernel
theorem dX8_countAhead_36 : decode cX8_countAhead 36 = .ok (.istore 5, 2) := by decide +kernel
theorem dX8_countAhead_38 : decode cX8_countAhead 38 = .ok (.aload_n 0, 1) := by decide +kernel
theorem dX8_countAhead_39 : decode cX8_countAhead 39 = .ok (.getfield 9, 3) := by decide +kernel
theorem dX8_countAhead_42 : decode cX8_countAhead 42 = .ok (.iload 4, 2) := by decide +kernel
theorem dX8_countAhead_44 : decode cX8_countAhead 44 = .ok (.laload, 1) := by decide +kernel
theorem dX8_countAhead_45 : decode cX8_countAhead 45 = .ok (.aload_n 0, 1) := by decide +kernel
theorem dX8_countAhead_46 : decode cX8_countAhead 46 = .ok (.getfield 9, 3) := by decide +kernel
theorem dX8_countAhead_49 : decode cX8_countAhead 49 = .ok (.iload_n 2, 1) := by decide +kernel
theorem dX8_countAhead_50 : decode cX8_countAhead 50 = .ok (.laload, 1) := by decide +kernel
theorem dX8_countAhead_51 : decode cX8_countAhead 51 = .ok (.lcmp, 1) := by decide +kernel
theorem dX8_countAhead_52 : decode cX8_countAhead 52 = .ok (.ifCond .ne 23, 3) := by decide +kernel
theorem dX8_countAhead_55 : decode cX8_countAhead 55 = .ok (.aload_n 0, 1) := by decide +kernel
theorem dX8_countAhead_56 : decode cX8_countAhead 56 = .ok (.getfield 15, 3) := by decide +kernel
theorem dX8_countAhead_59 : decode cX8_countAhead 59 = .ok (.iload 4, 2) := by decide +kernel
theorem dX8_countAhead_61 : decode cX8_countAhead 61 = .ok (.iaload, 1) := by decide +kernel
theorem dX8_countAhead_62 : decode cX8_countAhead 62 = .ok (.aload_n 0, 1) := by decide +kernel
theorem dX8_countAhead_63 : decode cX8_countAhead 63 = .ok (.getfield 15, 3) := by decide +kernel
theorem dX8_countAhead_66 : decode cX8_countAhead 66 = .ok (.iload_n 2, 1) := by decide +kernel
theorem dX8_countAhead_67 : decode cX8_countAhead 67 = .ok (.iaload, 1) := by decide +kernel
theorem dX8_countAhead_68 : decode cX8_countAhead 68 = .ok (.if_icmp .ge 7, 3) := by decide +kernel
theorem dX8_countAhead_71 : decode cX8_countAhead 71 = .ok (.iconst 1, 1) := by decide +kernel
theorem dX8_countAhead_72 : decode cX8_countAhead 72 = .ok (.goto 4, 3) := by decide +kernel
theorem dX8_countAhead_75 : decode cX8_countAhead 75 = .ok (.iconst 0, 1) := by decide +kernel
theorem dX8_countAhead_76 : decode cX8_countAhead 76 = .ok (.istore 6, 2) := by decide +kernel
theorem dX8_countAhead_78 : decode cX8_countAhead 78 = .ok (.iload_n 3, 1) := by decide +kernel
theorem dX8_countAhead_79 : decode cX8_countAhead 79 = .ok (.aload_n 0, 1) := by decide +kernel
theorem dX8_countAhead_80 : decode cX8_countAhead 80 = .ok (.getfield 9, 3) := by decide +kernel
theorem dX8_countAhead_83 : decode cX8_countAhead 83 = .ok (.iload 4, 2) := by decide +kernel
theorem dX8_countAhead_85 : decode cX8_countAhead 85 = .ok (.laload, 1) := by decide +kernel
theorem dX8_countAhead_86 : decode cX8_countAhead 86 = .ok (.ldc2_w 36, 3) := by decide +kernel
theorem dX8_countAhead_89 : decode cX8_countAhead 89 = .ok (.lcmp, 1) := by decide +kernel
theorem dX8_countAhead_90 : decode cX8_countAhead 90 = .ok (.ifCond .ge 17, 3) := by decide +kernel
theorem dX8_countAhead_93 : decode cX8_countAhead 93 = .ok (.iload 5, 2) := by decide +kernel
theorem dX8_countAhead_95 : decode cX8_countAhead 95 = .ok (.ifCond .ne 8, 3) := by decide +kernel
theorem dX8_countAhead_98 : decode cX8_countAhead 98 = .ok (.iload 6, 2) := by decide +kernel
theorem dX8_countAhead_100 : decode cX8_countAhead 100 = .ok (.ifCond .eq 7, 3) := by decide +kernel
theorem dX8_countAhead_103 : decode cX8_countAhead 103 = .ok (.iconst 1, 1) := by decide +kernel
theorem dX8_countAhead_104 : decode cX8_countAhead 104 = .ok (.goto 4, 3) := by decide +kernel
theorem dX8_countAhead_107 : decode cX8_countAhead 107 = .ok (.iconst 0, 1) := by decide +kernel
theorem dX8_countAhead_108 : decode cX8_countAhead 108 = .ok (.iadd, 1) := by decide +kernel
theorem dX8_countAhead_109 : decode cX8_countAhead 109 = .ok (.istore_n 3, 1) := by decide +kernel
theorem dX8_countAhead_110 : decode cX8_countAhead 110 = .ok (.iinc 4 1, 3) := by decide +kernel
theorem dX8_countAhead_113 : decode cX8_countAhead 113 = .ok (.goto (-108), 3) := by decide +kernel
theorem dX8_countAhead_116 : decode cX8_countAhead 116 = .ok (.iload_n 3, 1) := by decide +kernel
theorem dX8_countAhead_117 : decode cX8_countAhead 117 = .ok (.ireturn, 1) := by decide +kernel
def J_X8_countAhead_108 (v1 v2 v4 s0 s1 : Int) (st : z_St) : Option ((Int × Int) ⊕ Int) :=
  some (.inl (s1 + s0, v4 + 1))
set_option maxRecDepth 100000 in
set_option maxHeartbeats 4000000 in
theorem w_X8_countAhead_108 {κ : zK} {a : Nat → Nat} {v1 v2 v4 s0 s1 : Int} {st : z_St} {mc9 ms9 : Nat} {o : (Int × Int) ⊕ Int} (hc : z_C κ RX8 cX8_countAhead 7 8 mc9 ms9) (hap : z_AP κ a z_N) (k1 : ∀ s9 : (Int × Int), o = .inl s9 → z_V κ z_T z_N a 0 0 5 [(0, .ref (a 140)), (1, .int (zI v1)), (2, .int (zI v2)), (3, .int (zI s9.1)), (4, .int (zI s9.2))] [] st) (k2 : ∀ x9 : Int, o = .inr x9 → z_V κ z_T z_N a 0 0 116 [(3, .int (zI x9))] [] st) (h : J_X8_countAhead_108 v1 v2 v4 s0 s1 st = some o) : z_V κ z_T z_N a 0 0 108 [(0, .ref (a 140)), (1, .int (zI v1)), (2, .int (zI v2)), (4, .int (zI v4))] [.int (zI s0), .int (zI s1)] st := by
  unfold J_X8_countAhead_108 at h
  refine z_iadd hc dX8_countAhead_108 ?_
  refine z_istore_n (i := 3) [(3, .int (zI (s1 + s0))), (0, .ref (a 140)), (1, .int (zI v1)), (2, .int (zI v2)), (4, .int (zI v4))] hc dX8_countAhead_109 rfl (by decide) rfl ?_
  refine z_iinc [(4, .int (zI (v4 + 1))), (3, .int (zI (s1 + s0))), (0, .ref (a 140)), (1, .int (zI v1)), (2, .int (zI v2))] 4 hc dX8_countAhead_110 rfl (by decide) rfl ?_
  refine z_goto (tgt := 5) hc dX8_countAhead_113 (by decide) ?_
  refine z_sub [(0, .ref (a 140)), (1, .int (zI v1)), (2, .int (zI v2)), (3, .int (zI (s1 + s0))), (4, .int (zI (v4 + 1)))] [2, 3, 4, 1, 0] rfl ?_
  exact k1 _ (Option.some.inj h).symm
def J_X8_countAhead_107 (v1 v2 v4 s0 : Int) (st : z_St) : Option ((Int × Int) ⊕ Int) :=
  J_X8_countAhead_108 v1 v2 v4 0 s0 st
set_option maxRecDepth 100000 in
set_option maxHeartbeats 4000000 in
theorem w_X8_countAhead_107 {κ : zK} {a : Nat → Nat} {v1 v2 v4 s0 : Int} {st : z_St} {mc9 ms9 : Nat} {o : (Int × Int) ⊕ Int} (hc : z_C κ RX8 cX8_countAhead 7 8 mc9 ms9) (hap : z_AP κ a z_N) (k1 : ∀ s9 : (Int × Int), o = .inl s9 → z_V κ z_T z_N a 0 0 5 [(0, .ref (a 140)), (1, .int (zI v1)), (2, .int (zI v2)), (3, .int (zI s9.1)), (4, .int (zI s9.2))] [] st) (k2 : ∀ x9 : Int, o = .inr x9 → z_V κ z_T z_N a 0 0 116 [(3, .int (zI x9))] [] st) (h : J_X8_countAhead_107 v1 v2 v4 s0 st = some o) : z_V κ z_T z_N a 0 0 107 [(0, .ref (a 140)), (1, .int (zI v1)), (2, .int (zI v2)), (4, .int (zI v4))] [.int (zI s0)] st := by
  unfold J_X8_countAhead_107 at h
  refine z_iconst hc dX8_countAhead_107 ?_
  refine z_sub [(0, .ref (a 140)), (1, .int (zI v1)), (2, .int (zI v2)), (4, .int (zI v4))] [0, 1, 2, 3] rfl ?_
  exact w_X8_countAhead_108 hc hap k1 k2 h
def J_X8_countAhead_103 (v1 v2 v4 s0 : Int) (st : z_St) : Option ((Int × Int) ⊕ Int) :=
  J_X8_countAhead_108 v1 v2 v4 1 s0 st
set_option maxRecDepth 100000 in
set_option maxHeartbeats 4000000 in
theorem w_X8_countAhead_103 {κ : zK} {a : Nat → Nat} {v1 v2 v4 s0 : Int} {st : z_St} {mc9 ms9 : Nat} {o : (Int × Int) ⊕ Int} (hc : z_C κ RX8 cX8_countAhead 7 8 mc9 ms9) (hap : z_AP κ a z_N) (k1 : ∀ s9 : (Int × Int), o = .inl s9 → z_V κ z_T z_N a 0 0 5 [(0, .ref (a 140)), (1, .int (zI v1)), (2, .int (zI v2)), (3, .int (zI s9.1)), (4, .int (zI s9.2))] [] st) (k2 : ∀ x9 : Int, o = .inr x9 → z_V κ z_T z_N a 0 0 116 [(3, .int (zI x9))] [] st) (h : J_X8_countAhead_103 v1 v2 v4 s0 st = some o) : z_V κ z_T z_N a 0 0 103 [(0, .ref (a 140)), (1, .int (zI v1)), (2, .int (zI v2)), (4, .int (zI v4))] [.int (zI s0)] st := by
  unfold J_X8_countAhead_103 at h
  refine z_iconst hc dX8_countAhead_103 ?_
  refine z_goto (tgt := 108) hc dX8_countAhead_104 (by decide) ?_
  refine z_sub [(0, .ref (a 140)), (1, .int (zI v1)), (2, .int (zI v2)), (4, .int (zI v4))] [0, 1, 2, 3] rfl ?_
  exact w_X8_countAhead_108 hc hap k1 k2 h
def J_X8_countAhead_76 (v1 v2 v3 v4 v5 s0 : Int) (st : z_St) : Option ((Int × Int) ⊕ Int) :=
  z_g (0 ≤ v4 ∧ v4 < 340) <|
  z_g (z64 (st 141 v4) ∧ z64 1152921504606846976) (if st 141 v4 < 1152921504606846976 then
    z_g (z32 v5) (if v5 = 0 then
      z_g (z32 s0) (if s0 = 0 then
        J_X8_countAhead_107 v1 v2 v4 v3 st
      else
        J_X8_countAhead_103 v1 v2 v4 v3 st)
    else
      J_X8_countAhead_103 v1 v2 v4 v3 st)
  else
    J_X8_countAhead_107 v1 v2 v4 v3 st)
set_option maxRecDepth 100000 in
set_option maxHeartbeats 4000000 in
theorem w_X8_countAhead_76 {κ : zK} {a : Nat → Nat} {v1 v2 v3 v4 v5 s0 : Int} {st : z_St} {mc9 ms9 : Nat} {o : (Int × Int) ⊕ Int} (hc : z_C κ RX8 cX8_countAhead 7 8 mc9 ms9) (hap : z_AP κ a z_N) (k1 : ∀ s9 : (Int × Int), o = .inl s9 → z_V κ z_T z_N a 0 0 5 [(0, .ref (a 140)), (1, .int (zI v1)), (2, .int (zI v2)), (3, .int (zI s9.1)), (4, .int (zI s9.2))] [] st) (k2 : ∀ x9 : Int, o = .inr x9 → z_V κ z_T z_N a 0 0 116 [(3, .int (zI x9))] [] st) (h : J_X8_countAhead_76 v1 v2 v3 v4 v5 s0 st = some o) : z_V κ z_T z_N a 0 0 76 [(0, .ref (a 140)), (1, .int (zI v1)), (2, .int (zI v2)), (3, .int (zI v3)), (4, .int (zI v4)), (5, .int (zI v5))] [.int (zI s0)] st := by
  unfold J_X8_countAhead_76 at h
  refine z_istore [(6, .int (zI s0)), (0, .ref (a 140)), (1, .int (zI v1)), (2, .int (zI v2)), (3, .int (zI v3)), (4, .int (zI v4)), (5, .int (zI v5))] hc dX8_countAhead_76 (by decide) rfl ?_
  refine z_iload_n (i := 3) 4 hc dX8_countAhead_78 rfl rfl ?_
  refine z_aload_n (i := 0) 1 hc dX8_countAhead_79 rfl rfl ?_
  refine z_getA (k' := 141) hc fl_RX8_9 tT_140 (by decide) rfl rfl dX8_countAhead_80 ?_
  refine z_iload 5 hc dX8_countAhead_83 rfl ?_
  refine z_lald (kI := 141) (nI9 := 340) hc tT_141 (by decide) rfl rfl (by decide) dX8_countAhead_85 h (fun g7 h => ?_)
  refine z_ldc2 1152921504606846976 hc kc_RX8_36 dX8_countAhead_86 rfl ?_
  refine z_lcmp_ge (tgt := 107) hc dX8_countAhead_89 dX8_countAhead_90 (by decide) h (fun c89 h => ?_) (fun c89 h => ?_)
  · refine z_iload 6 hc dX8_countAhead_93 rfl ?_
    refine z_if_ne (tgt := 103) hc dX8_countAhead_95 (by decide) h (fun c95 h => ?_) (fun c95 h => ?_)
    · refine z_iload 0 hc dX8_countAhead_98 rfl ?_
      refine z_if_eq (tgt := 107) hc dX8_countAhead_100 (by decide) h (fun c100 h => ?_) (fun c100 h => ?_)
      · refine z_sub [(0, .ref (a 140)), (1, .int (zI v1)), (2, .int (zI v2)), (4, .int (zI v4))] [1, 2, 3, 5] rfl ?_
        exact w_X8_countAhead_107 hc hap k1 k2 h
      · refine z_sub [(0, .ref (a 140)), (1, .int (zI v1)), (2, .int (zI v2)), (4, .int (zI v4))] [1, 2, 3, 5] rfl ?_
        exact w_X8_countAhead_103 hc hap k1 k2 h
    · refine z_sub [(0, .ref (a 140)), (1, .int (zI v1)), (2, .int (zI v2)), (4, .int (zI v4))] [1, 2, 3, 5] rfl ?_
      exact w_X8_countAhead_103 hc hap k1 k2 h
  · refine z_sub [(0, .ref (a 140)), (1, .int (zI v1)), (2, .int (zI v2)), (4, .int (zI v4))] [1, 2, 3, 5] rfl ?_
    exact w_X8_countAhead_107 hc hap k1 k2 h
def J_X8_countAhead_75 (v1 v2 v3 v4 v5 : Int) (st : z_St) : Option ((Int × Int) ⊕ Int) :=
  J_X8_countAhead_76 v1 v2 v3 v4 v5 0 st
set_option maxRecDepth 100000 in
set_option maxHeartbeats 4000000 in
theorem w_X8_countAhead_75 {κ : zK} {a : Nat → Nat} {v1 v2 v3 v4 v5 : Int} {st : z_St} {mc9 ms9 : Nat} {o : (Int × Int) ⊕ Int} (hc : z_C κ RX8 cX8_countAhead 7 8 mc9 ms9) (hap : z_AP κ a z_N) (k1 : ∀ s9 : (Int × Int), o = .inl s9 → z_V κ z_T z_N a 0 0 5 [(0, .ref (a 140)), (1, .int (zI v1)), (2, .int (zI v2)), (3, .int (zI s9.1)), (4, .int (zI s9.2))] [] st) (k2 : ∀ x9 : Int, o = .inr x9 → z_V κ z_T z_N a 0 0 116 [(3, .int (zI x9))] [] st) (h : J_X8_countAhead_75 v1 v2 v3 v4 v5 st = some o) : z_V κ z_T z_N a 0 0 75 [(0, .ref (a 140)), (1, .int (zI v1)), (2, .int (zI v2)), (3, .int (zI v3)), (4, .int (zI v4)), (5, .int (zI v5))] [] st := by
  unfold J_X8_countAhead_75 at h
  refine z_iconst hc dX8_countAhead_75 ?_
  refine z_sub [(0, .ref (a 140)), (1, .int (zI v1)), (2, .int (zI v2)), (3, .int (zI v3)), (4, .int (zI v4)), (5, .int (zI v5))] [0, 1, 2, 3, 4, 5] rfl ?_
  exact w_X8_countAhead_76 hc hap k1 k2 h
def J_X8_countAhead_36 (v1 v2 v3 v4 s0 : Int) (st : z_St) : Option ((Int × Int) ⊕ Int) :=
  z_g (0 ≤ v4 ∧ v4 < 340) <|
  z_g (0 ≤ v2 ∧ v2 < 340) <|
  z_g (z64 (st 141 v4) ∧ z64 (st 141 v2)) (if st 141 v4 = st 141 v2 then
    z_g (0 ≤ v4 ∧ v4 < 340) <|
    z_g (0 ≤ v2 ∧ v2 < 340) <|
    z_g (z32 (st 142 v4) ∧ z32 (st 142 v2)) (if st 142 v4 < st 142 v2 then
      J_X8_countAhead_76 v1 v2 v3 v4 s0 1 st
    else
      J_X8_countAhead_75 v1 v2 v3 v4 s0 st)
  else
    J_X8_countAhead_75 v1 v2 v3 v4 s0 st)
set_option maxRecDepth 100000 in
set_option maxHeartbeats 4000000 in
theorem w_X8_countAhead_36 {κ : zK} {a : Nat → Nat} {v1 v2 v3 v4 s0 : Int} {st : z_St} {mc9 ms9 : Nat} {o : (Int × Int) ⊕ Int} (hc : z_C κ RX8 cX8_countAhead 7 8 mc9 ms9) (hap : z_AP κ a z_N) (k1 : ∀ s9 : (Int × Int), o = .inl s9 → z_V κ z_T z_N a 0 0 5 [(0, .ref (a 140)), (1, .int (zI v1)), (2, .int (zI v2)), (3, .int (zI s9.1)), (4, .int (zI s9.2))] [] st) (k2 : ∀ x9 : Int, o = .inr x9 → z_V κ z_T z_N a 0 0 116 [(3, .int (zI x9))] [] st) (h : J_X8_countAhead_36 v1 v2 v3 v4 s0 st = some o) : z_V κ z_T z_N a 0 0 36 [(0, .ref (a 140)), (1, .int (zI v1)), (2, .int (zI v2)), (3, .int (zI v3)), (4, .int (zI v4))] [.int (zI s0)] st := by
  unfold J_X8_countAhead_36 at h
  refine z_istore [(5, .int (zI s0)), (0, .ref (a 140)), (1, .int (zI v1)), (2, .int (zI v2)), (3, .int (zI v3)), (4, .int (zI v4))] hc dX8_countAhead_36 (by decide) rfl ?_
  refine z_aload_n (i := 0) 1 hc dX8_countAhead_38 rfl rfl ?_
  refine z_getA (k' := 141) hc fl_RX8_9 tT_140 (by decide) rfl rfl dX8_countAhead_39 ?_
  refine z_iload 5 hc dX8_countAhead_42 rfl ?_
  refine z_lald (kI := 141) (nI9 := 340) hc tT_141 (by decide) rfl rfl (by decide) dX8_countAhead_44 h (fun g3 h => ?_)
  refine z_aload_n (i := 0) 1 hc dX8_countAhead_45 rfl rfl ?_
  refine z_getA (k' := 141) hc fl_RX8_9 tT_140 (by decide) rfl rfl dX8_countAhead_46 ?_
  refine z_iload_n (i := 2) 3 hc dX8_countAhead_49 rfl rfl ?_
  refine z_lald (kI := 141) (nI9 := 340) hc tT_141 (by decide) rfl rfl (by decide) dX8_countAhead_50 h (fun g4 h => ?_)
  refine z_lcmp_ne (tgt := 75) hc dX8_countAhead_51 dX8_countAhead_52 (by decide) h (fun c51 h => ?_) (fun c51 h => ?_)
  · refine z_aload_n (i := 0) 1 hc dX8_countAhead_55 rfl rfl ?_
    refine z_getA (k' := 142) hc fl_RX8_15 tT_140 (by decide) rfl rfl dX8_countAhead_56 ?_
    refine z_iload 5 hc dX8_countAhead_59 rfl ?_
    refine z_iald (kI := 142) (nI9 := 340) hc tT_142 (by decide) rfl rfl (by decide) dX8_countAhead_61 h (fun g5 h => ?_)
    refine z_aload_n (i := 0) 1 hc dX8_countAhead_62 rfl rfl ?_
    refine z_getA (k' := 142) hc fl_RX8_15 tT_140 (by decide) rfl rfl dX8_countAhead_63 ?_
    refine z_iload_n (i := 2) 3 hc dX8_countAhead_66 rfl rfl ?_
    refine z_iald (kI := 142) (nI9 := 340) hc tT_142 (by decide) rfl rfl (by decide) dX8_countAhead_67 h (fun g6 h => ?_)
    refine z_icmp_ge (tgt := 75) hc dX8_countAhead_68 (by decide) h (fun c68 h => ?_) (fun c68 h => ?_)
    · refine z_iconst hc dX8_countAhead_71 ?_
      refine z_goto (tgt := 76) hc dX8_countAhead_72 (by decide) ?_
      refine z_sub [(0, .ref (a 140)), (1, .int (zI v1)), (2, .int (zI v2)), (3, .int (zI v3)), (4, .int (zI v4)), (5, .int (zI s0))] [1, 2, 3, 4, 5, 0] rfl ?_
      exact w_X8_countAhead_76 hc hap k1 k2 h
    · refine z_sub [(0, .ref (a 140)), (1, .int (zI v1)), (2, .int (zI v2)), (3, .int (zI v3)), (4, .int (zI v4)), (5, .int (zI s0))] [1, 2, 3, 4, 5, 0] rfl ?_
      exact w_X8_countAhead_75 hc hap k1 k2 h
  · refine z_sub [(0, .ref (a 140)), (1, .int (zI v1)), (2, .int (zI v2)), (3, .int (zI v3)), (4, .int (zI v4)), (5, .int (zI s0))] [1, 2, 3, 4, 5, 0] rfl ?_
    exact w_X8_countAhead_75 hc hap k1 k2 h
def J_X8_countAhead_b5 (v1 v2 v3 v4 : Int) (st : z_St) : Option ((Int × Int) ⊕ Int) :=
  z_g (z32 v4 ∧ z32 (v1 + 20)) (if v4 < v1 + 20 then
    z_g (0 ≤ v4 ∧ v4 < 340) <|
    z_g (0 ≤ v2 ∧ v2 < 340) <|
    z_g (z64 (st 141 v4) ∧ z64 (st 141 v2)) (if st 141 v4 < st 141 v2 then
      J_X8_countAhead_36 v1 v2 v3 v4 1 st
    else
      J_X8_countAhead_36 v1 v2 v3 v4 0 st)
  else
    some (.inr v3))
set_option maxRecDepth 100000 in
set_option maxHeartbeats 4000000 in
theorem w_X8_countAhead_b5 {κ : zK} {a : Nat → Nat} {v1 v2 v3 v4 : Int} {st : z_St} {mc9 ms9 : Nat} {o : (Int × Int) ⊕ Int} (hc : z_C κ RX8 cX8_countAhead 7 8 mc9 ms9) (hap : z_AP κ a z_N) (k1 : ∀ s9 : (Int × Int), o = .inl s9 → z_V κ z_T z_N a 0 0 5 [(0, .ref (a 140)), (1, .int (zI v1)), (2, .int (zI v2)), (3, .int (zI s9.1)), (4, .int (zI s9.2))] [] st) (k2 : ∀ x9 : Int, o = .inr x9 → z_V κ z_T z_N a 0 0 116 [(3, .int (zI x9))] [] st) (h : J_X8_countAhead_b5 v1 v2 v3 v4 st = some o) : z_V κ z_T z_N a 0 0 5 [(0, .ref (a 140)), (1, .int (zI v1)), (2, .int (zI v2)), (3, .int (zI v3)), (4, .int (zI v4))] [] st := by
  unfold J_X8_countAhead_b5 at h
  refine z_iload 4 hc dX8_countAhead_5 rfl ?_
  refine z_iload_n (i := 1) 1 hc dX8_countAhead_7 rfl rfl ?_
  refine z_bipush hc dX8_countAhead_8 rfl ?_
  refine z_iadd hc dX8_countAhead_10 ?_
  refine z_icmp_ge (tgt := 116) hc dX8_countAhead_11 (by decide) h (fun c11 h => ?_) (fun c11 h => ?_)
  · refine z_aload_n (i := 0) 0 hc dX8_countAhead_14 rfl rfl ?_
    refine z_getA (k' := 141) hc fl_RX8_9 tT_140 (by decide) rfl rfl dX8_countAhead_15 ?_
    refine z_iload 4 hc dX8_countAhead_18 rfl ?_
    refine z_lald (kI := 141) (nI9 := 340) hc tT_141 (by decide) rfl rfl (by decide) dX8_countAhead_20 h (fun g1 h => ?_)
    refine z_aload_n (i := 0) 0 hc dX8_countAhead_21 rfl rfl ?_
    refine z_getA (k' := 141) hc fl_RX8_9 tT_140 (by decide) rfl rfl dX8_countAhead_22 ?_
    refine z_iload_n (i := 2) 2 hc dX8_countAhead_25 rfl rfl ?_
    refine z_lald (kI := 141) (nI9 := 340) hc tT_141 (by decide) rfl rfl (by decide) dX8_countAhead_26 h (fun g2 h => ?_)
    refine z_lcmp_ge (tgt := 35) hc dX8_countAhead_27 dX8_countAhead_28 (by decide) h (fun c27 h => ?_) (fun c27 h => ?_)
    · refine z_iconst hc dX8_countAhead_31 ?_
      refine z_goto (tgt := 36) hc dX8_countAhead_32 (by decide) ?_
      refine z_sub [(0, .ref (a 140)), (1, .int (zI v1)), (2, .int (zI v2)), (3, .int (zI v3)), (4, .int (zI v4))] [0, 1, 2, 3, 4] rfl ?_
      exact w_X8_countAhead_36 hc hap k1 k2 h
    · refine z_iconst hc dX8_countAhead_35 ?_
      refine z_sub [(0, .ref (a 140)), (1, .int (zI v1)), (2, .int (zI v2)), (3, .int (zI v3)), (4, .int (zI v4))] [0, 1, 2, 3, 4] rfl ?_
      exact w_X8_countAhead_36 hc hap k1 k2 h
  · refine z_sub [(3, .int (zI v3))] [3] rfl ?_
    exact k2 v3 (Option.some.inj h).symm
def J_X8_countAhead (x1 x2 : Int) (st : z_St) : Option (Int) :=
  z_b (z_iter z_F (fun q9 : (Int × Int) => J_X8_countAhead_b5 x1 x2 q9.1 q9.2 st) (0, x1)) fun lx8 =>
    some lx8
set_option maxRecDepth 100000 in
set_option maxHeartbeats 4000000 in
theorem w_X8_countAhead {κ : zK} {a : Nat → Nat} {x1 x2 : Int} {st : z_St} {o : Int} (hc : z_C κ RX8 cX8_countAhead 7 8 0 0) (hap : z_AP κ a z_N) (he : z_E 0 κ (some .int) z_T z_N a o st) (h : J_X8_countAhead x1 x2 st = some o) : z_V κ z_T z_N a 0 0 0 [(0, .ref (a 140)), (1, .int (zI x1)), (2, .int (zI x2))] [] st := by
  unfold J_X8_countAhead at h
  refine z_iconst hc dX8_countAhead_0 ?_
  refine z_istore_n (i := 3) [(3, .int (zI 0)), (0, .ref (a 140)), (1, .int (zI x1)), (2, .int (zI x2))] hc dX8_countAhead_1 rfl (by decide) rfl ?_
  refine z_iload_n (i := 1) 2 hc dX8_countAhead_2 rfl rfl ?_
  refine z_istore [(4, .int (zI x1)), (3, .int (zI 0)), (0, .ref (a 140)), (1, .int (zI x1)), (2, .int (zI x2))] hc dX8_countAhead_3 (by decide) rfl ?_
  obtain ⟨lx8, hlx8, h⟩ := z_b_some h
  refine z_sub [(0, .ref (a 140)), (1, .int (zI x1)), (2, .int (zI x2)), (3, .int (zI 0)), (4, .int (zI x1))] [2, 3, 4, 1, 0] rfl ?_
  refine z_loop (fun q9 : (Int × Int) => J_X8_countAhead_b5 x1 x2 q9.1 q9.2 st) (fun q9 : (Int × Int) => z_V κ z_T z_N a 0 0 5 [(0, .ref (a 140)), (1, .int (zI x1)), (2, .int (zI x2)), (3, .int (zI q9.1)), (4, .int (zI q9.2))] [] st) (fun x9 : Int => z_V κ z_T z_N a 0 0 116 [(3, .int (zI x9))] [] st) (fun q9 o9 hb k1 k2 => ?_) _ _ _ hlx8 ?_
  · exact w_X8_countAhead_b5 hc hap k1 k2 hb
  · show z_V κ z_T z_N a 0 0 116 [(3, .int (zI lx8))] [] st
    refine z_iload_n (i := 3) 0 hc dX8_countAhead_116 rfl rfl ?_
    have h := Option.some.inj h
    subst h
    exact z_retI hc he dX8_countAhead_117
set_option maxRecDepth 100000 in
set_option maxHeartbeats 4000000 in
theorem c_X8_countAhead {l : Launch} (hl : l.stackTraces = false) {a : Nat → Nat} {x1 x2 : Int} {st : z_St} {o : Int} (h : J_X8_countAhead x1 x2 st = some o) : z_M 0 l yX8_countAhead cX8_countAhead 7 (some .int) 8 z_T z_N a [.ref (a 140), .int (zI x1), .int (zI x2)] st o st := z_of hl (by decide +kernel) (Nat.le_of_ble_eq_true rfl) (fun κ hc hap he => w_X8_countAhead hc hap he h)
theorem dX8_dropLate_0 : decode cX8_dropLate 0 = .ok (.iconst 0, 1) := by decide +kernel
theorem dX8_dropLate_1 : decode cX8_dropLate 1 = .ok (.istore_n 3, 1) := by decide +kernel
theorem dX8_dropLate_2 : decode cX8_dropLate 2 = .ok (.iload_n 3, 1) := by decide +kernel
theorem dX8_dropLate_3 : decode cX8_dropLate 3 = .ok (.bipush 20, 2) := by decide +kernel
theorem dX8_dropLate_5 : decode cX8_dropLate 5 = .ok (.if_icmp .ge 47, 3) := by decide +kernel
theorem dX8_dropLate_8 : decode cX8_dropLate 8 = .ok (.aload_n 0, 1) := by decide +kernel
theorem dX8_dropLate_9 : decode cX8_dropLate 9 = .ok (.getfield 19, 3) := by decide +kernel
theorem dX8_dropLate_12 : decode cX8_dropLate 12 = .ok (.iload_n 3, 1) := by decide +kernel
theorem dX8_dropLate_13 : decode cX8_dropLate 13 = .ok (.aload_n 0, 1) := by decide +kernel
theorem dX8_dropLate_14 : decode cX8_dropLate 14 = .ok (.getfield 9, 3) := by decide +kernel
theorem dX8_dropLate_17 : decode cX8_dropLate 17 = .ok (.iload_n 1, 1) := by decide +kernel
theorem dX8_dropLate_18 : decode cX8_dropLate 18 = .ok (.iload_n 3, 1) := by decide +kernel
theorem dX8_dropLate_19 : decode cX8_dropLate 19 = .ok (.iadd, 1) := by decide +kernel
theorem dX8_dropLate_20 : decode cX8_dropLate 20 = .ok (.laload, 1) := by decide +kernel
theorem dX8_dropLate_21 : decode cX8_dropLate 21 = .ok (.ldc2_w 36, 3) := by decide +kernel
theorem dX8_dropLate_24 : decode cX8_dropLate 24 = .ok (.lcmp, 1) := by decide +kernel
theorem dX8_dropLate_25 : decode cX8_dropLate 25 = .ok (.ifCond .ge 19, 3) := by decide +kernel
theorem dX8_dropLate_28 : decode cX8_dropLate 28 = .ok (.aload_n 0, 1) := by decide +kernel
theorem dX8_dropLate_29 : decode cX8_dropLate 29 = .ok (.iload_n 1, 1) := by decide +kernel
theorem dX8_dropLate_30 : decode cX8_dropLate 30 = .ok (.iload_n 1, 1) := by decide +kernel
theorem dX8_dropLate_31 : decode cX8_dropLate 31 = .ok (.iload_n 3, 1) := by decide +kernel
theorem dX8_dropLate_32 : decode cX8_dropLate 32 = .ok (.iadd, 1) := by decide +kernel
theorem dX8_dropLate_33 : decode cX8_dropLate 33 = .ok (.invokevirtual 84, 3) := by decide +kernel
theorem dX8_dropLate_36 : decode cX8_dropLate 36 = .ok (.iload_n 2, 1) := by decide +kernel
theorem dX8_dropLate_37 : decode cX8_dropLate 37 = .ok (.if_icmp .lt 7, 3) := by decide +kernel
theorem dX8_dropLate_40 : decode cX8_dropLate 40 = .ok (.iconst 1, 1) := by decide +kernel
theorem dX8_dropLate_41 : decode cX8_dropLate 41 = .ok (.goto 4, 3) := by decide +kernel
theorem dX8_dropLate_44 : decode cX8_dropLate 44 = .ok (.iconst 0, 1) := by decide +kernel
theorem dX8_dropLate_45 : decode cX8_dropLate 45 = .ok (.bastore, 1) := by decide +kernel
theorem dX8_dropLate_46 : decode cX8_dropLate 46 = .ok (.iinc 3 1, 3) := by decide +kernel
theorem dX8_dropLate_49 : decode cX8_dropLate 49 = .ok (.goto (-47), 3) := by decide +kernel
theorem dX8_dropLate_52 : decode cX8_dropLate 52 = .ok (.iconst 0, 1) := by decide +kernel
theorem dX8_dropLate_53 : decode cX8_dropLate 53 = .ok (.istore_n 3, 1) := by decide +kernel
theorem dX8_dropLate_54 : decode cX8_dropLate 54 = .ok (.iload_n 3, 1) := by decide +kernel
theorem dX8_dropLate_55 : decode cX8_dropLate 55 = .ok (.bipush 20, 2) := by decide +kernel
theorem dX8_dropLate_57 : decode cX8_dropLate 57 = .ok (.if_icmp .ge 25, 3) := by decide +kernel
theorem dX8_dropLate_60 : decode cX8_dropLate 60 = .ok (.aload_n 0, 1) := by decide +kernel
theorem dX8_dropLate_61 : decode cX8_dropLate 61 = .ok (.getfield 19, 3) := by decide +kernel
theorem dX8_dropLate_64 : decode cX8_dropLate 64 = .ok (.iload_n 3, 1) := by decide +kernel
theorem dX8_dropLate_65 : decode cX8_dropLate 65 = .ok (.baload, 1) := by decide +kernel
theorem dX8_dropLate_66 : decode cX8_dropLate 66 = .ok (.ifCond .eq 10, 3) := by decide +kernel
theorem dX8_dropLate_69 : decode cX8_dropLate 69 = .ok (.aload_n 0, 1) := by decide +kernel
theorem dX8_dropLate_70 : decode cX8_dropLate 70 = .ok (.iload_n 1, 1) := by decide +kernel
theorem dX8_dropLate_71 : decode cX8_dropLate 71 = .ok (.iload_n 3, 1) := by decide +kernel
theorem dX8_dropLate_72 : decode cX8_dropLate 72 = .ok (.iadd, 1) := by decide +kernel
theorem dX8_dropLate_73 : decode cX8_dropLate 73 = .ok (.invokevirtual 80, 3) := by decide +kernel
theorem dX8_dropLate_76 : decode cX8_dropLate 76 = .ok (.iinc 3 1, 3) := by decide +kernel
theorem dX8_dropLate_79 : decode cX8_dropLate 79 = .ok (.goto (-25), 3) := by decide +kernel
theorem dX8_dropLate_82 : decode cX8_dropLate 82 = .ok (.return_, 1) := by decide +kernel
def J_X8_dropLate_45 (v1 v2 v3 s0 s1 : Int) (st : z_St) : Option ((Int × z_St) ⊕ z_St) :=
  z_g ((0 ≤ s1 ∧ s1 < 20) ∧ ((s0 : Int) = 0 ∨ (s0 : Int) = 1)) <|
  z_let (z_up st 143 s1 s0) fun st4 =>
  some (.inl (v3 + 1, st4))
set_option maxRecDepth 100000 in
set_option maxHeartbeats 4000000 in
theorem w_X8_dropLate_45 {κ : zK} {a : Nat → Nat} {v1 v2 v3 s0 s1 : Int} {st : z_St} {mc9 ms9 : Nat} {o : (Int × z_St) ⊕ z_St} (hc : z_C κ RX8 cX8_dropLate 4 9 mc9 ms9) (hap : z_AP κ a z_N) (k1 : ∀ s9 : (Int × z_St), o = .inl s9 → z_V κ z_T z_N a 0 0 2 [(0, .ref (a 140)), (1, .int (zI v1)), (2, .int (zI v2)), (3, .int (zI s9.1))] [] s9.2) (k2 : ∀ x9 : z_St, o = .inr x9 → z_V κ z_T z_N a 0 0 52 [(0, .ref (a 140)), (1, .int (zI v1))] [] x9) (h : J_X8_dropLate_45 v1 v2 v3 s0 s1 st = some o) : z_V κ z_T z_N a 0 0 45 [(0, .ref (a 140)), (1, .int (zI v1)), (2, .int (zI v2)), (3, .int (zI v3))] [.int (zI s0), .int (zI s1), .ref (a 143)] st := by
  unfold J_X8_dropLate_45 at h
  refine z_zast (kI := 143) (nI9 := 20) hc hap tT_143 (by decide) rfl rfl (by decide) dX8_dropLate_45 h (fun st4 h => ?_)
  refine z_iinc [(3, .int (zI (v3 + 1))), (0, .ref (a 140)), (1, .int (zI v1)), (2, .int (zI v2))] 3 hc dX8_dropLate_46 rfl (by decide) rfl ?_
  refine z_goto (tgt := 2) hc dX8_dropLate_49 (by decide) ?_
  refine z_sub [(0, .ref (a 140)), (1, .int (zI v1)), (2, .int (zI v2)), (3, .int (zI (v3 + 1)))] [1, 2, 3, 0] rfl ?_
  exact k1 _ (Option.some.inj h).symm
def J_X8_dropLate_44 (v1 v2 v3 s0 : Int) (st : z_St) : Option ((Int × z_St) ⊕ z_St) :=
  J_X8_dropLate_45 v1 v2 v3 0 s0 st
set_option maxRecDepth 100000 in
set_option maxHeartbeats 4000000 in
theorem w_X8_dropLate_44 {κ : zK} {a : Nat → Nat} {v1 v2 v3 s0 : Int} {st : z_St} {mc9 ms9 : Nat} {o : (Int × z_St) ⊕ z_St} (hc : z_C κ RX8 cX8_dropLate 4 9 mc9 ms9) (hap : z_AP κ a z_N) (k1 : ∀ s9 : (Int × z_St), o = .inl s9 → z_V κ z_T z_N a 0 0 2 [(0, .ref (a 140)), (1, .int (zI v1)), (2, .int (zI v2)), (3, .int (zI s9.1))] [] s9.2) (k2 : ∀ x9 : z_St, o = .inr x9 → z_V κ z_T z_N a 0 0 52 [(0, .ref (a 140)), (1, .int (zI v1))] [] x9) (h : J_X8_dropLate_44 v1 v2 v3 s0 st = some o) : z_V κ z_T z_N a 0 0 44 [(0, .ref (a 140)), (1, .int (zI v1)), (2, .int (zI v2)), (3, .int (zI v3))] [.int (zI s0), .ref (a 143)] st := by
  unfold J_X8_dropLate_44 at h
  refine z_iconst hc dX8_dropLate_44 ?_
  refine z_sub [(0, .ref (a 140)), (1, .int (zI v1)), (2, .int (zI v2)), (3, .int (zI v3))] [0, 1, 2, 3] rfl ?_
  exact w_X8_dropLate_45 hc hap k1 k2 h
def J_X8_dropLate_b2 (v1 v2 v3 : Int) (st : z_St) : Option ((Int × z_St) ⊕ z_St) :=
  z_g (z32 v3 ∧ z32 20) (if v3 < 20 then
    z_g (0 ≤ v1 + v3 ∧ v1 + v3 < 340) <|
    z_g (z64 (st 141 (v1 + v3)) ∧ z64 1152921504606846976) (if st 141 (v1 + v3) < 1152921504606846976 then
      z_b (J_X8_countAhead v1 (v1 + v3) st) fun r2 =>
      z_g (z32 r2 ∧ z32 v2) (if r2 < v2 then
        J_X8_dropLate_44 v1 v2 v3 v3 st
      else
        J_X8_dropLate_45 v1 v2 v3 1 v3 st)
    else
      J_X8_dropLate_44 v1 v2 v3 v3 st)
  else
    some (.inr st))
set_option maxRecDepth 100000 in
set_option maxHeartbeats 4000000 in
theorem w_X8_dropLate_b2 {κ : zK} {a : Nat → Nat} {v1 v2 v3 : Int} {st : z_St} {mc9 ms9 : Nat} {o : (Int × z_St) ⊕ z_St} (hc : z_C κ RX8 cX8_dropLate 4 9 mc9 ms9) (hap : z_AP κ a z_N) (k1 : ∀ s9 : (Int × z_St), o = .inl s9 → z_V κ z_T z_N a 0 0 2 [(0, .ref (a 140)), (1, .int (zI v1)), (2, .int (zI v2)), (3, .int (zI s9.1))] [] s9.2) (k2 : ∀ x9 : z_St, o = .inr x9 → z_V κ z_T z_N a 0 0 52 [(0, .ref (a 140)), (1, .int (zI v1))] [] x9) (h : J_X8_dropLate_b2 v1 v2 v3 st = some o) : z_V κ z_T z_N a 0 0 2 [(0, .ref (a 140)), (1, .int (zI v1)), (2, .int (zI v2)), (3, .int (zI v3))] [] st := by
  unfold J_X8_dropLate_b2 at h
  refine z_iload_n (i := 3) 3 hc dX8_dropLate_2 rfl rfl ?_
  refine z_bipush hc dX8_dropLate_3 rfl ?_
  refine z_icmp_ge (tgt := 52) hc dX8_dropLate_5 (by decide) h (fun c5 h => ?_) (fun c5 h => ?_)
  · refine z_aload_n (i := 0) 0 hc dX8_dropLate_8 rfl rfl ?_
    refine z_getA (k' := 143) hc fl_RX8_19 tT_140 (by decide) rfl rfl dX8_dropLate_9 ?_
    refine z_iload_n (i := 3) 3 hc dX8_dropLate_12 rfl rfl ?_
    refine z_aload_n (i := 0) 0 hc dX8_dropLate_13 rfl rfl ?_
    refine z_getA (k' := 141) hc fl_RX8_9 tT_140 (by decide) rfl rfl dX8_dropLate_14 ?_
    refine z_iload_n (i := 1) 1 hc dX8_dropLate_17 rfl rfl ?_
    refine z_iload_n (i := 3) 3 hc dX8_dropLate_18 rfl rfl ?_
    refine z_iadd hc dX8_dropLate_19 ?_
    refine z_lald (kI := 141) (nI9 := 340) hc tT_141 (by decide) rfl rfl (by decide) dX8_dropLate_20 h (fun g1 h => ?_)
    refine z_ldc2 1152921504606846976 hc kc_RX8_36 dX8_dropLate_21 rfl ?_
    refine z_lcmp_ge (tgt := 44) hc dX8_dropLate_24 dX8_dropLate_25 (by decide) h (fun c24 h => ?_) (fun c24 h => ?_)
    · refine z_aload_n (i := 0) 0 hc dX8_dropLate_28 rfl rfl ?_
      refine z_iload_n (i := 1) 1 hc dX8_dropLate_29 rfl rfl ?_
      refine z_iload_n (i := 1) 1 hc dX8_dropLate_30 rfl rfl ?_
      refine z_iload_n (i := 3) 3 hc dX8_dropLate_31 rfl rfl ?_
      refine z_iadd hc dX8_dropLate_32 ?_
      obtain ⟨r2, hr2, h⟩ := z_b_some h
      refine z_callVI [.int (zI v1), .int (zI (v1 + v3))] hc hap o_X8_countAhead ml_RX8_84 (fun l hl => c_X8_countAhead hl  hr2) (by decide) tT_140 (by decide) ⟨_, rfl, rfl⟩ rfl rfl (Nat.le_of_ble_eq_true rfl) (Nat.zero_le _) (Nat.zero_le _) dX8_dropLate_33 ?_
      refine z_iload_n (i := 2) 2 hc dX8_dropLate_36 rfl rfl ?_
      refine z_icmp_lt (tgt := 44) hc dX8_dropLate_37 (by decide) h (fun c37 h => ?_) (fun c37 h => ?_)
      · refine z_sub [(0, .ref (a 140)), (1, .int (zI v1)), (2, .int (zI v2)), (3, .int (zI v3))] [0, 1, 2, 3] rfl ?_
        exact w_X8_dropLate_44 hc hap k1 k2 h
      · refine z_iconst hc dX8_dropLate_40 ?_
        refine z_goto (tgt := 45) hc dX8_dropLate_41 (by decide) ?_
        refine z_sub [(0, .ref (a 140)), (1, .int (zI v1)), (2, .int (zI v2)), (3, .int (zI v3))] [0, 1, 2, 3] rfl ?_
        exact w_X8_dropLate_45 hc hap k1 k2 h
    · refine z_sub [(0, .ref (a 140)), (1, .int (zI v1)), (2, .int (zI v2)), (3, .int (zI v3))] [0, 1, 2, 3] rfl ?_
      exact w_X8_dropLate_44 hc hap k1 k2 h
  · refine z_sub [(0, .ref (a 140)), (1, .int (zI v1))] [0, 1] rfl ?_
    exact k2 st (Option.some.inj h).symm
def J_X8_dropLate_76 (v1 v3 : Int) (st : z_St) : Option ((Int × z_St) ⊕ z_St) :=
  some (.inl (v3 + 1, st))
set_option maxRecDepth 100000 in
set_option maxHeartbeats 4000000 in
theorem w_X8_dropLate_76 {κ : zK} {a : Nat → Nat} {v1 v3 : Int} {st : z_St} {mc9 ms9 : Nat} {o : (Int × z_St) ⊕ z_St} (hc : z_C κ RX8 cX8_dropLate 4 9 mc9 ms9) (hap : z_AP κ a z_N) (k1 : ∀ s9 : (Int × z_St), o = .inl s9 → z_V κ z_T z_N a 0 0 54 [(0, .ref (a 140)), (1, .int (zI v1)), (3, .int (zI s9.1))] [] s9.2) (k2 : ∀ x9 : z_St, o = .inr x9 → z_V κ z_T z_N a 0 0 82 [] [] x9) (h : J_X8_dropLate_76 v1 v3 st = some o) : z_V κ z_T z_N a 0 0 76 [(0, .ref (a 140)), (1, .int (zI v1)), (3, .int (zI v3))] [] st := by
  unfold J_X8_dropLate_76 at h
  refine z_iinc [(3, .int (zI (v3 + 1))), (0, .ref (a 140)), (1, .int (zI v1))] 2 hc dX8_dropLate_76 rfl (by decide) rfl ?_
  refine z_goto (tgt := 54) hc dX8_dropLate_79 (by decide) ?_
  refine z_sub [(0, .ref (a 140)), (1, .int (zI v1)), (3, .int (zI (v3 + 1)))] [1, 2, 0] rfl ?_
  exact k1 _ (Option.some.inj h).symm
def J_X8_dropLate_b54 (v1 v3 : Int) (st : z_St) : Option ((Int × z_St) ⊕ z_St) :=
  z_g (z32 v3 ∧ z32 20) (if v3 < 20 then
    z_g (0 ≤ v3 ∧ v3 < 20) <|
    z_g (z32 (st 143 v3)) (if st 143 v3 = 0 then
      J_X8_dropLate_76 v1 v3 st
    else
      z_b (J_X8_drop (v1 + v3) st) fun st8 =>
      J_X8_dropLate_76 v1 v3 st8)
  else
    some (.inr st))
set_option maxRecDepth 100000 in
set_option maxHeartbeats 4000000 in
theorem w_X8_dropLate_b54 {κ : zK} {a : Nat → Nat} {v1 v3 : Int} {st : z_St} {mc9 ms9 : Nat} {o : (Int × z_St) ⊕ z_St} (hc : z_C κ RX8 cX8_dropLate 4 9 mc9 ms9) (hap : z_AP κ a z_N) (k1 : ∀ s9 : (Int × z_St), o = .inl s9 → z_V κ z_T z_N a 0 0 54 [(0, .ref (a 140)), (1, .int (zI v1)), (3, .int (zI s9.1))] [] s9.2) (k2 : ∀ x9 : z_St, o = .inr x9 → z_V κ z_T z_N a 0 0 82 [] [] x9) (h : J_X8_dropLate_b54 v1 v3 st = some o) : z_V κ z_T z_N a 0 0 54 [(0, .ref (a 140)), (1, .int (zI v1)), (3, .int (zI v3))] [] st := by
  unfold J_X8_dropLate_b54 at h
  refine z_iload_n (i := 3) 2 hc dX8_dropLate_54 rfl rfl ?_
  refine z_bipush hc dX8_dropLate_55 rfl ?_
  refine z_icmp_ge (tgt := 82) hc dX8_dropLate_57 (by decide) h (fun c57 h => ?_) (fun c57 h => ?_)
  · refine z_aload_n (i := 0) 0 hc dX8_dropLate_60 rfl rfl ?_
    refine z_getA (k' := 143) hc fl_RX8_19 tT_140 (by decide) rfl rfl dX8_dropLate_61 ?_
    refine z_iload_n (i := 3) 2 hc dX8_dropLate_64 rfl rfl ?_
    refine z_zald (kI := 143) (nI9 := 20) hc tT_143 (by decide) rfl rfl (by decide) dX8_dropLate_65 h (fun g6 h => ?_)
    refine z_if_eq (tgt := 76) hc dX8_dropLate_66 (by decide) h (fun c66 h => ?_) (fun c66 h => ?_)
    · refine z_sub [(0, .ref (a 140)), (1, .int (zI v1)), (3, .int (zI v3))] [0, 1, 2] rfl ?_
      exact w_X8_dropLate_76 hc hap k1 k2 h
    · refine z_aload_n (i := 0) 0 hc dX8_dropLate_69 rfl rfl ?_
      refine z_iload_n (i := 1) 1 hc dX8_dropLate_70 rfl rfl ?_
      refine z_iload_n (i := 3) 2 hc dX8_dropLate_71 rfl rfl ?_
      refine z_iadd hc dX8_dropLate_72 ?_
      obtain ⟨st8, hr7, h⟩ := z_b_some h
      refine z_callVV [.int (zI (v1 + v3))] hc hap o_X8_drop ml_RX8_80 (fun l hl => c_X8_drop hl  hr7) (by decide) tT_140 (by decide) ⟨_, rfl, rfl⟩ rfl rfl (Nat.le_of_ble_eq_true rfl) (Nat.zero_le _) (Nat.zero_le _) dX8_dropLate_73 ?_
      refine z_sub [(0, .ref (a 140)), (1, .int (zI v1)), (3, .int (zI v3))] [0, 1, 2] rfl ?_
      exact w_X8_dropLate_76 hc hap k1 k2 h
  · refine z_sub [] [] rfl ?_
    exact k2 st (Option.some.inj h).symm
def J_X8_dropLate (x1 x2 : Int) (st : z_St) : Option (z_St) :=
  z_b (z_iter z_F (fun q9 : (Int × z_St) => J_X8_dropLate_b2 x1 x2 q9.1 q9.2) (0, st)) fun lx5 =>
    z_b (z_iter z_F (fun q9 : (Int × z_St) => J_X8_dropLate_b54 x1 q9.1 q9.2) (0, lx5)) fun lx9 =>
      some lx9
set_option maxRecDepth 100000 in
set_option maxHeartbeats 4000000 in
theorem w_X8_dropLate {κ : zK} {a : Nat → Nat} {x1 x2 : Int} {st : z_St} {o : z_St} (hc : z_C κ RX8 cX8_dropLate 4 9 0 0) (hap : z_AP κ a z_N) (he : z_E 2 κ none z_T z_N a 0 o) (h : J_X8_dropLate x1 x2 st = some o) : z_V κ z_T z_N a 0 0 0 [(0, .ref (a 140)), (1, .int (zI x1)), (2, .int (zI x2))] [] st := by
  unfold J_X8_dropLate at h
  refine z_iconst hc dX8_dropLate_0 ?_
  refine z_istore_n (i := 3) [(3, .int (zI 0)), (0, .ref (a 140)), (1, .int (zI x1)), (2, .int (zI x2))] hc dX8_dropLate_1 rfl (by decide) rfl ?_
  obtain ⟨lx5, hlx5, h⟩ := z_b_some h
  refine z_sub [(0, .ref (a 140)), (1, .int (zI x1)), (2, .int (zI x2)), (3, .int (zI 0))] [1, 2, 3, 0] rfl ?_
  refine z_loop (fun q9 : (Int × z_St) => J_X8_dropLate_b2 x1 x2 q9.1 q9.2) (fun q9 : (Int × z_St) => z_V κ z_T z_N a 0 0 2 [(0, .ref (a 140)), (1, .int (zI x1)), (2, .int (zI x2)), (3, .int (zI q9.1))] [] q9.2) (fun x9 : z_St => z_V κ z_T z_N a 0 0 52 [(0, .ref (a 140)), (1, .int (zI x1))] [] x9) (fun q9 o9 hb k1 k2 => ?_) _ _ _ hlx5 ?_
  · exact w_X8_dropLate_b2 hc hap k1 k2 hb
  · show z_V κ z_T z_N a 0 0 52 [(0, .ref (a 140)), (1, .int (zI x1))] [] lx5
    refine z_iconst hc dX8_dropLate_52 ?_
    refine z_istore_n (i := 3) [(3, .int (zI 0)), (0, .ref (a 140)), (1, .int (zI x1))] hc dX8_dropLate_53 rfl (by decide) rfl ?_
    obtain ⟨lx9, hlx9, h⟩ := z_b_some h
    refine z_sub [(0, .ref (a 140)), (1, .int (zI x1)), (3, .int (zI 0))] [1, 2, 0] rfl ?_
    refine z_loop (fun q9 : (Int × z_St) => J_X8_dropLate_b54 x1 q9.1 q9.2) (fun q9 : (Int × z_St) => z_V κ z_T z_N a 0 0 54 [(0, .ref (a 140)), (1, .int (zI x1)), (3, .int (zI q9.1))] [] q9.2) (fun x9 : z_St => z_V κ z_T z_N a 0 0 82 [] [] x9) (fun q9 o9 hb k1 k2 => ?_) _ _ _ hlx9 ?_
    · exact w_X8_dropLate_b54 hc hap k1 k2 hb
    · show z_V κ z_T z_N a 0 0 82 [] [] lx9
      have h := Option.some.inj h
      subst h
      exact z_retV hc he dX8_dropLate_82
set_option maxRecDepth 100000 in
set_option maxHeartbeats 4000000 in
theorem c_X8_dropLate {l : Launch} (hl : l.stackTraces = false) {a : Nat → Nat} {x1 x2 : Int} {st : z_St} {o : z_St} (h : J_X8_dropLate x1 x2 st = some o) : z_M 2 l yX8_dropLate cX8_dropLate 4 none 9 z_T z_N a [.ref (a 140), .int (zI x1), .int (zI x2)] st 0 o := z_of hl (by decide +kernel) (Nat.le_of_ble_eq_true rfl) (fun κ hc hap he => w_X8_dropLate hc hap he h)
theorem dX8_finish_0 : decode cX8_finish 0 = .ok (.aload_n 0, 1) := by decide +kernel
theorem dX8_finish_1 : decode cX8_finish 1 = .ok (.iconst (-1), 1) := by decide +kernel
theorem dX8_finish_2 : decode cX8_finish 2 = .ok (.putfield 27, 3) := by decide +kernel
theorem dX8_finish_5 : decode cX8_finish 5 = .ok (.aload_n 0, 1) := by decide +kernel
theorem dX8_finish_6 : decode cX8_finish 6 = .ok (.ldc2_w 30, 3) := by decide +kernel
theorem dX8_finish_9 : decode cX8_finish 9 = .ok (.putfield 32, 3) := by decide +kernel
theorem dX8_finish_12 : decode cX8_finish 12 = .ok (.iconst 1, 1) := by decide +kernel
theorem dX8_finish_13 : decode cX8_finish 13 = .ok (.istore 4, 2) := by decide +kernel
theorem dX8_finish_15 : decode cX8_finish 15 = .ok (.iload 4, 2) := by decide +kernel
theorem dX8_finish_17 : decode cX8_finish 17 = .ok (.iconst 4, 1) := by decide +kernel
theorem dX8_finish_18 : decode cX8_finish 18 = .ok (.if_icmp .gt 154, 3) := by decide +kernel
theorem dX8_finish_21 : decode cX8_finish 21 = .ok (.iconst 0, 1) := by decide +kernel
theorem dX8_finish_22 : decode cX8_finish 22 = .ok (.istore 5, 2) := by decide +kernel
theorem dX8_finish_24 : decode cX8_finish 24 = .ok (.iload 5, 2) := by decide +kernel
theorem dX8_finish_26 : decode cX8_finish 26 = .ok (.iload_n 2, 1) := by decide +kernel
theorem dX8_finish_27 : decode cX8_finish 27 = .ok (.if_icmp .ge 139, 3) := by decide +kernel
theorem dX8_finish_30 : decode cX8_finish 30 = .ok (.iload_n 3, 1) := by decide +kernel
theorem dX8_finish_31 : decode cX8_finish 31 = .ok (.bipush 20, 2) := by decide +kernel
theorem dX8_finish_33 : decode cX8_finish 33 = .ok (.imul, 1) := by decide +kernel
theorem dX8_finish_34 : decode cX8_finish 34 = .ok (.iload 4, 2) := by decide +kernel
theorem dX8_finish_36 : decode cX8_finish 36 = .ok (.iconst 1, 1) := by decide +kernel
theorem dX8_finish_37 : decode cX8_finish 37 = .ok (.isub, 1) := by decide +kernel
theorem dX8_finish_38 : decode cX8_finish 38 = .ok (.iconst 5, 1) := by decide +kernel
theorem dX8_finish_39 : decode cX8_finish 39 = .ok (.imul, 1) := by decide +kernel
theorem dX8_finish_40 : decode cX8_finish 40 = .ok (.iadd, 1) := by decide +kernel
theorem dX8_finish_41 : decode cX8_finish 41 = .ok (.iload 5, 2) := by decide +kernel
theorem dX8_finish_43 : decode cX8_finish 43 = .ok (.iadd, 1) := by decide +kernel
theorem dX8_finish_44 : decode cX8_finish 44 = .ok (.istore 6, 2) := by decide +kernel
theorem dX8_finish_46 : decode cX8_finish 46 = .ok (.aload_n 0, 1) := by decide +kernel
theorem dX8_finish_47 : decode cX8_finish 47 = .ok (.getfield 9, 3) := by decide +kernel
theorem dX8_finish_50 : decode cX8_finish 50 = .ok (.iload 6, 2) := by decide +kernel
theorem dX8_finish_52 : decode cX8_finish 52 = .ok (.laload, 1) := by decide +kernel
theorem dX8_finish_53 : decode cX8_finish 53 = .ok (.aload_n 1, 1) := by decide +kernel
theorem dX8_finish_54 : decode cX8_finish 54 = .ok (.iload 5, 2) := by decide +kernel
theorem dX8_finish_56 : decode cX8_finish 56 = .ok (.iconst (-1), 1) := by decide +kernel
theorem dX8_finish_57 : decode cX8_finish 57 = .ok (.invokevirtual 50, 3) := by decide +kernel
theorem dX8_finish_60 : decode cX8_finish 60 = .ok (.ladd, 1) := by decide +kernel
theorem dX8_finish_61 : decode cX8_finish 61 = .ok (.lstore 7, 2) := by decide +kernel
theorem dX8_finish_63 : decode cX8_finish 63 = .ok (.aload_n 0, 1) := by decide +kernel
theorem dX8_finish_64 : decode cX8_finish 64 = .ok (.getfield 27, 3) := by decide +kernel
theorem dX8_finish_67 : decode cX8_finish 67 = .ok (.iconst (-1), 1) := by decide +kernel
theorem dX8_finish_68 : decode cX8_finish 68 = .ok (.if_icmp .eq 13, 3) := by decide +kernel
theorem dX8_finish_71 : decode cX8_finish 71 = .ok (.lload 7, 2) := by decide +kernel
theorem dX8_finish_73 : decode cX8_finish 73 = .ok (.aload_n 0, 1) := by decide +kernel
theorem dX8_finish_74 : decode cX8_finish 74 = .ok (.getfield 32, 3) := by decide +kernel
theorem dX8_finish_77 : decode cX8_finish 77 = .ok (.lcmp, 1) := by decide +kernel
theorem dX8_finish_78 : decode cX8_finish 78 = .ok (.ifCond .ge 7, 3) := by decide +kernel
theorem dX8_finish_81 : decode cX8_finish 81 = .ok (.iconst 1, 1) := by decide +kernel
theorem dX8_finish_82 : decode cX8_finish 82 = .ok (.goto 4, 3) := by decide +kernel
theorem dX8_finish_85 : decode cX8_finish 85 = .ok (.iconst 0, 1) := by decide +kernel
theorem dX8_finish_86 : decode cX8_finish 86 = .ok (.istore 9, 2) := by decide +kernel
theorem dX8_finish_88 : decode cX8_finish 88 = .ok (.lload 7, 2) := by decide +kernel
theorem dX8_finish_90 : decode cX8_finish 90 = .ok (.aload_n 0, 1) := by decide +kernel
theorem dX8_finish_91 : decode cX8_finish 91 = .ok (.getfield 32, 3) := by decide +kernel
theorem dX8_finish_94 : decode cX8_finish 94 = .ok (.lcmp, 1) := by decide +kernel
theorem dX8_finish_95 : decode cX8_finish 95 = .ok (.ifCond .ne 21, 3) := by decide +kernel
theorem dX8_finish_98 : decode cX8_finish 98 = .ok (.aload_n 0, 1) := by decide +kernel
theorem dX8_finish_99 : decode cX8_finish 99 = .ok (.getfield 15, 3) := by decide +kernel
theorem dX8_finish_102 : decode cX8_finish 102 = .ok (.iload 6, 2) := by decide +kernel
theorem dX8_finish_104 : decode cX8_finish 104 = .ok (.iaload, 1) := by decide +kernel
theorem dX8_finish_105 : decode cX8_finish 105 = .ok (.aload_n 0, 1) := by decide +kernel
theorem dX8_finish_106 : decode cX8_finish 106 = .ok (.getfield 27, 3) := by decide +kernel
theorem dX8_finish_109 : decode cX8_finish 109 = .ok (.if_icmp .ge 7, 3) := by decide +kernel
theorem dX8_finish_112 : decode cX8_finish 112 = .ok (.iconst 1, 1) := by decide +kernel
theorem dX8_finish_113 : decode cX8_finish 113 = .ok (.goto 4, 3) := by decide +kernel
theorem dX8_finish_116 : decode cX8_finish 116 = .ok (.iconst 0, 1) := by decide +kernel
theorem dX8_finish_117 : decode cX8_finish 117 = .ok (.istore 10, 2) := by decide +kernel
theorem dX8_finish_119 : decode cX8_finish 119 = .ok (.aload_n 0, 1) := by decide +kernel
theorem dX8_finish_120 : decode cX8_finish 120 = .ok (.getfield 9, 3) := by decide +kernel
theorem dX8_finish_123 : decode cX8_finish 123 = .ok (.iload 6, 2) := by decide +kernel
theorem dX8_finish_125 : decode cX8_finish 125 = .ok (.laload, 1) := by decide +kernel
theorem dX8_finish_126 : decode cX8_finish 126 = .ok (.ldc2_w 36, 3) := by decide +kernel
theorem dX8_finish_129 : decode cX8_finish 129 = .ok (.lcmp, 1) := by decide +kernel
theorem dX8_finish_130 : decode cX8_finish 130 = .ok (.ifCond .ge 30, 3) := by decide +kernel
theorem dX8_finish_133 : decode cX8_finish 133 = .ok (.iload 9, 2) := by decide +kernel
theorem dX8_finish_135 : decode cX8_finish 135 = .ok (.ifCond .ne 8, 3) := by decide +kernel
theorem dX8_finish_138 : decode cX8_finish 138 = .ok (.iload 10, 2) := by decide +kernel
theorem dX8_finish_140 : decode cX8_finish 140 = .ok (.ifCond .eq 20, 3) := by decide +kernel
theorem dX8_finish_143 : decode cX8_finish 143 = .ok (.aload_n 0, 1) := by decide +kernel
theorem dX8_finish_144 : decode cX8_finish 144 = .ok (.aload_n 0, 1) := by decide +kernel
theorem dX8_finish_145 : decode cX8_finish 145 = .ok (.getfield 15, 3) := by decide +kernel
theorem dX8_finish_148 : decode cX8_finish 148 = .ok (.iload 6, 2) := by decide +kernel
theorem dX8_finish_150 : decode cX8_finish 150 = .ok (.iaload, 1) := by decide +kernel
theorem dX8_finish_151 : decode cX8_finish 151 = .ok (.putfield 27, 3) := by decide +kernel
theorem dX8_finish_154 : decode cX8_finish 154 = .ok (.aload_n 0, 1) := by decide +kernel
theorem dX8_finish_155 : decode cX8_finish 155 = .ok (.lload 7, 2) := by decide +kernel
theorem dX8_finish_157 : decode cX8_finish 157 = .ok (.putfield 32, 3) := by decide +kernel
theorem dX8_finish_160 : decode cX8_finish 160 = .ok (.iinc 5 1, 3) := by decide +kernel
theorem dX8_finish_163 : decode cX8_finish 163 = .ok (.goto (-139), 3) := by decide +kernel
theorem dX8_finish_166 : decode cX8_finish 166 = .ok (.iinc 4 1, 3) := by decide +kernel
theorem dX8_finish_169 : decode cX8_finish 169 = .ok (.goto (-154), 3) := by decide +kernel
theorem dX8_finish_172 : decode cX8_finish 172 = .ok (.return_, 1) := by decide +kernel
def J_X8_finish_160 (v2 v3 v4 v5 : Int) (st : z_St) : Option ((Int × z_St) ⊕ z_St) :=
  some (.inl (v5 + 1, st))
set_option maxRecDepth 100000 in
set_option maxHeartbeats 4000000 in
theorem w_X8_finish_160 {κ : zK} {a : Nat → Nat} {v2 v3 v4 v5 : Int} {st : z_St} {mc9 ms9 : Nat} {o : (Int × z_St) ⊕ z_St} (hc : z_C κ RX8 cX8_finish 11 9 mc9 ms9) (hap : z_AP κ a z_N) (k1 : ∀ s9 : (Int × z_St), o = .inl s9 → z_V κ z_T z_N a 0 0 24 [(0, .ref (a 140)), (1, .ref (a 99)), (2, .int (zI v2)), (3, .int (zI v3)), (4, .int (zI v4)), (5, .int (zI s9.1))] [] s9.2) (k2 : ∀ x9 : z_St, o = .inr x9 → z_V κ z_T z_N a 0 0 166 [(0, .ref (a 140)), (1, .ref (a 99)), (2, .int (zI v2)), (3, .int (zI v3)), (4, .int (zI v4))] [] x9) (h : J_X8_finish_160 v2 v3 v4 v5 st = some o) : z_V κ z_T z_N a 0 0 160 [(0, .ref (a 140)), (1, .ref (a 99)), (2, .int (zI v2)), (3, .int (zI v3)), (4, .int (zI v4)), (5, .int (zI v5))] [] st := by
  unfold J_X8_finish_160 at h
  refine z_iinc [(5, .int (zI (v5 + 1))), (0, .ref (a 140)), (1, .ref (a 99)), (2, .int (zI v2)), (3, .int (zI v3)), (4, .int (zI v4))] 5 hc dX8_finish_160 rfl (by decide) rfl ?_
  refine z_goto (tgt := 24) hc dX8_finish_163 (by decide) ?_
  refine z_sub [(0, .ref (a 140)), (1, .ref (a 99)), (2, .int (zI v2)), (3, .int (zI v3)), (4, .int (zI v4)), (5, .int (zI (v5 + 1)))] [1, 2, 3, 4, 5, 0] rfl ?_
  exact k1 _ (Option.some.inj h).symm
def J_X8_finish_143 (v2 v3 v4 v5 v6 v7 : Int) (st : z_St) : Option ((Int × z_St) ⊕ z_St) :=
  z_g (0 ≤ v6 ∧ v6 < 340) <|
  z_let (z_up st 140 4 (st 142 v6)) fun st9 =>
  z_let (z_up st9 140 5 v7) fun st10 =>
  J_X8_finish_160 v2 v3 v4 v5 st10
set_option maxRecDepth 100000 in
set_option maxHeartbeats 4000000 in
theorem w_X8_finish_143 {κ : zK} {a : Nat → Nat} {v2 v3 v4 v5 v6 v7 : Int} {st : z_St} {mc9 ms9 : Nat} {o : (Int × z_St) ⊕ z_St} (hc : z_C κ RX8 cX8_finish 11 9 mc9 ms9) (hap : z_AP κ a z_N) (k1 : ∀ s9 : (Int × z_St), o = .inl s9 → z_V κ z_T z_N a 0 0 24 [(0, .ref (a 140)), (1, .ref (a 99)), (2, .int (zI v2)), (3, .int (zI v3)), (4, .int (zI v4)), (5, .int (zI s9.1))] [] s9.2) (k2 : ∀ x9 : z_St, o = .inr x9 → z_V κ z_T z_N a 0 0 166 [(0, .ref (a 140)), (1, .ref (a 99)), (2, .int (zI v2)), (3, .int (zI v3)), (4, .int (zI v4))] [] x9) (h : J_X8_finish_143 v2 v3 v4 v5 v6 v7 st = some o) : z_V κ z_T z_N a 0 0 143 [(0, .ref (a 140)), (1, .ref (a 99)), (2, .int (zI v2)), (3, .int (zI v3)), (4, .int (zI v4)), (5, .int (zI v5)), (6, .int (zI v6)), (7, .long (zJ v7))] [] st := by
  unfold J_X8_finish_143 at h
  refine z_aload_n (i := 0) 0 hc dX8_finish_143 rfl rfl ?_
  refine z_aload_n (i := 0) 0 hc dX8_finish_144 rfl rfl ?_
  refine z_getA (k' := 142) hc fl_RX8_15 tT_140 (by decide) rfl rfl dX8_finish_145 ?_
  refine z_iload 6 hc dX8_finish_148 rfl ?_
  refine z_iald (kI := 142) (nI9 := 340) hc tT_142 (by decide) rfl rfl (by decide) dX8_finish_150 h (fun g8 h => ?_)
  refine z_putI (kI := 140) (jI := 4) hc hap fp_RX8_27 tT_140 (by decide) rfl rfl rfl dX8_finish_151 h (fun st9 h => ?_)
  refine z_aload_n (i := 0) 0 hc dX8_finish_154 rfl rfl ?_
  refine z_lload 7 hc dX8_finish_155 rfl ?_
  refine z_putJ (kI := 140) (jI := 5) hc hap fp_RX8_32 tT_140 (by decide) rfl rfl rfl dX8_finish_157 h (fun st10 h => ?_)
  refine z_sub [(0, .ref (a 140)), (1, .ref (a 99)), (2, .int (zI v2)), (3, .int (zI v3)), (4, .int (zI v4)), (5, .int (zI v5))] [0, 1, 2, 3, 4, 5] rfl ?_
  exact w_X8_finish_160 hc hap k1 k2 h
def J_X8_finish_117 (v2 v3 v4 v5 v6 v7 v9 s0 : Int) (st : z_St) : Option ((Int × z_St) ⊕ z_St) :=
  z_g (0 ≤ v6 ∧ v6 < 340) <|
  z_g (z64 (st 141 v6) ∧ z64 1152921504606846976) (if st 141 v6 < 1152921504606846976 then
    z_g (z32 v9) (if v9 = 0 then
      z_g (z32 s0) (if s0 = 0 then
        J_X8_finish_160 v2 v3 v4 v5 st
      else
        J_X8_finish_143 v2 v3 v4 v5 v6 v7 st)
    else
      J_X8_finish_143 v2 v3 v4 v5 v6 v7 st)
  else
    J_X8_finish_160 v2 v3 v4 v5 st)
set_option maxRecDepth 100000 in
set_option maxHeartbeats 4000000 in
theorem w_X8_finish_117 {κ : zK} {a : Nat → Nat} {v2 v3 v4 v5 v6 v7 v9 s0 : Int} {st : z_St} {mc9 ms9 : Nat} {o : (Int × z_St) ⊕ z_St} (hc : z_C κ RX8 cX8_finish 11 9 mc9 ms9) (hap : z_AP κ a z_N) (k1 : ∀ s9 : (Int × z_St), o = .inl s9 → z_V κ z_T z_N a 0 0 24 [(0, .ref (a 140)), (1, .ref (a 99)), (2, .int (zI v2)), (3, .int (zI v3)), (4, .int (zI v4)), (5, .int (zI s9.1))] [] s9.2) (k2 : ∀ x9 : z_St, o = .inr x9 → z_V κ z_T z_N a 0 0 166 [(0, .ref (a 140)), (1, .ref (a 99)), (2, .int (zI v2)), (3, .int (zI v3)), (4, .int (zI v4))] [] x9) (h : J_X8_finish_117 v2 v3 v4 v5 v6 v7 v9 s0 st = some o) : z_V κ z_T z_N a 0 0 117 [(0, .ref (a 140)), (1, .ref (a 99)), (2, .int (zI v2)), (3, .int (zI v3)), (4, .int (zI v4)), (5, .int (zI v5)), (6, .int (zI v6)), (7, .long (zJ v7)), (9, .int (zI v9))] [.int (zI s0)] st := by
  unfold J_X8_finish_117 at h
  refine z_istore [(10, .int (zI s0)), (0, .ref (a 140)), (1, .ref (a 99)), (2, .int (zI v2)), (3, .int (zI v3)), (4, .int (zI v4)), (5, .int (zI v5)), (6, .int (zI v6)), (7, .long (zJ v7)), (9, .int (zI v9))] hc dX8_finish_117 (by decide) rfl ?_
  refine z_aload_n (i := 0) 1 hc dX8_finish_119 rfl rfl ?_
  refine z_getA (k' := 141) hc fl_RX8_9 tT_140 (by decide) rfl rfl dX8_finish_120 ?_
  refine z_iload 7 hc dX8_finish_123 rfl ?_
  refine z_lald (kI := 141) (nI9 := 340) hc tT_141 (by decide) rfl rfl (by decide) dX8_finish_125 h (fun g7 h => ?_)
  refine z_ldc2 1152921504606846976 hc kc_RX8_36 dX8_finish_126 rfl ?_
  refine z_lcmp_ge (tgt := 160) hc dX8_finish_129 dX8_finish_130 (by decide) h (fun c129 h => ?_) (fun c129 h => ?_)
  · refine z_iload 9 hc dX8_finish_133 rfl ?_
    refine z_if_ne (tgt := 143) hc dX8_finish_135 (by decide) h (fun c135 h => ?_) (fun c135 h => ?_)
    · refine z_iload 0 hc dX8_finish_138 rfl ?_
      refine z_if_eq (tgt := 160) hc dX8_finish_140 (by decide) h (fun c140 h => ?_) (fun c140 h => ?_)
      · refine z_sub [(0, .ref (a 140)), (1, .ref (a 99)), (2, .int (zI v2)), (3, .int (zI v3)), (4, .int (zI v4)), (5, .int (zI v5))] [1, 2, 3, 4, 5, 6] rfl ?_
        exact w_X8_finish_160 hc hap k1 k2 h
      · refine z_sub [(0, .ref (a 140)), (1, .ref (a 99)), (2, .int (zI v2)), (3, .int (zI v3)), (4, .int (zI v4)), (5, .int (zI v5)), (6, .int (zI v6)), (7, .long (zJ v7))] [1, 2, 3, 4, 5, 6, 7, 8] rfl ?_
        exact w_X8_finish_143 hc hap k1 k2 h
    · refine z_sub [(0, .ref (a 140)), (1, .ref (a 99)), (2, .int (zI v2)), (3, .int (zI v3)), (4, .int (zI v4)), (5, .int (zI v5)), (6, .int (zI v6)), (7, .long (zJ v7))] [1, 2, 3, 4, 5, 6, 7, 8] rfl ?_
      exact w_X8_finish_143 hc hap k1 k2 h
  · refine z_sub [(0, .ref (a 140)), (1, .ref (a 99)), (2, .int (zI v2)), (3, .int (zI v3)), (4, .int (zI v4)), (5, .int (zI v5))] [1, 2, 3, 4, 5, 6] rfl ?_
    exact w_X8_finish_160 hc hap k1 k2 h
def J_X8_finish_116 (v2 v3 v4 v5 v6 v7 v9 : Int) (st : z_St) : Option ((Int × z_St) ⊕ z_St) :=
  J_X8_finish_117 v2 v3 v4 v5 v6 v7 v9 0 st
set_option maxRecDepth 100000 in
set_option maxHeartbeats 4000000 in
theorem w_X8_finish_116 {κ : zK} {a : Nat → Nat} {v2 v3 v4 v5 v6 v7 v9 : Int} {st : z_St} {mc9 ms9 : Nat} {o : (Int × z_St) ⊕ z_St} (hc : z_C κ RX8 cX8_finish 11 9 mc9 ms9) (hap : z_AP κ a z_N) (k1 : ∀ s9 : (Int × z_St), o = .inl s9 → z_V κ z_T z_N a 0 0 24 [(0, .ref (a 140)), (1, .ref (a 99)), (2, .int (zI v2)), (3, .int (zI v3)), (4, .int (zI v4)), (5, .int (zI s9.1))] [] s9.2) (k2 : ∀ x9 : z_St, o = .inr x9 → z_V κ z_T z_N a 0 0 166 [(0, .ref (a 140)), (1, .ref (a 99)), (2, .int (zI v2)), (3, .int (zI v3)), (4, .int (zI v4))] [] x9) (h : J_X8_finish_116 v2 v3 v4 v5 v6 v7 v9 st = some o) : z_V κ z_T z_N a 0 0 116 [(0, .ref (a 140)), (1, .ref (a 99)), (2, .int (zI v2)), (3, .int (zI v3)), (4, .int (zI v4)), (5, .int (zI v5)), (6, .int (zI v6)), (7, .long (zJ v7)), (9, .int (zI v9))] [] st := by
  unfold J_X8_finish_116 at h
  refine z_iconst hc dX8_finish_116 ?_
  refine z_sub [(0, .ref (a 140)), (1, .ref (a 99)), (2, .int (zI v2)), (3, .int (zI v3)), (4, .int (zI v4)), (5, .int (zI v5)), (6, .int (zI v6)), (7, .long (zJ v7)), (9, .int (zI v9))] [0, 1, 2, 3, 4, 5, 6, 7, 8] rfl ?_
  exact w_X8_finish_117 hc hap k1 k2 h
def J_X8_finish_86 (v2 v3 v4 v5 v6 v7 s0 : Int) (st : z_St) : Option ((Int × z_St) ⊕ z_St) :=
  z_g (z64 v7 ∧ z64 (st 140 5)) (if v7 = st 140 5 then
    z_g (0 ≤ v6 ∧ v6 < 340) <|
    z_g (z32 (st 142 v6) ∧ z32 (st 140 4)) (if st 142 v6 < st 140 4 then
      J_X8_finish_117 v2 v3 v4 v5 v6 v7 s0 1 st
    else
      J_X8_finish_116 v2 v3 v4 v5 v6 v7 s0 st)
  else
    J_X8_finish_116 v2 v3 v4 v5 v6 v7 s0 st)
set_option maxRecDepth 100000 in
set_option maxHeartbeats 4000000 in
theorem w_X8_finish_86 {κ : zK} {a : Nat → Nat} {v2 v3 v4 v5 v6 v7 s0 : Int} {st : z_St} {mc9 ms9 : Nat} {o : (Int × z_St) ⊕ z_St} (hc : z_C κ RX8 cX8_finish 11 9 mc9 ms9) (hap : z_AP κ a z_N) (k1 : ∀ s9 : (Int × z_St), o = .inl s9 → z_V κ z_T z_N a 0 0 24 [(0, .ref (a 140)), (1, .ref (a 99)), (2, .int (zI v2)), (3, .int (zI v3)), (4, .int (zI v4)), (5, .int (zI s9.1))] [] s9.2) (k2 : ∀ x9 : z_St, o = .inr x9 → z_V κ z_T z_N a 0 0 166 [(0, .ref (a 140)), (1, .ref (a 99)), (2, .int (zI v2)), (3, .int (zI v3)), (4, .int (zI v4))] [] x9) (h : J_X8_finish_86 v2 v3 v4 v5 v6 v7 s0 st = some o) : z_V κ z_T z_N a 0 0 86 [(0, .ref (a 140)), (1, .ref (a 99)), (2, .int (zI v2)), (3, .int (zI v3)), (4, .int (zI v4)), (5, .int (zI v5)), (6, .int (zI v6)), (7, .long (zJ v7))] [.int (zI s0)] st := by
  unfold J_X8_finish_86 at h
  refine z_istore [(9, .int (zI s0)), (0, .ref (a 140)), (1, .ref (a 99)), (2, .int (zI v2)), (3, .int (zI v3)), (4, .int (zI v4)), (5, .int (zI v5)), (6, .int (zI v6)), (7, .long (zJ v7))] hc dX8_finish_86 (by decide) rfl ?_
  refine z_lload 8 hc dX8_finish_88 rfl ?_
  refine z_aload_n (i := 0) 1 hc dX8_finish_90 rfl rfl ?_
  refine z_getJ (kI := 140) (jI := 5) hc fl_RX8_32 tT_140 (by decide) rfl rfl rfl dX8_finish_91 ?_
  refine z_lcmp_ne (tgt := 116) hc dX8_finish_94 dX8_finish_95 (by decide) h (fun c94 h => ?_) (fun c94 h => ?_)
  · refine z_aload_n (i := 0) 1 hc dX8_finish_98 rfl rfl ?_
    refine z_getA (k' := 142) hc fl_RX8_15 tT_140 (by decide) rfl rfl dX8_finish_99 ?_
    refine z_iload 7 hc dX8_finish_102 rfl ?_
    refine z_iald (kI := 142) (nI9 := 340) hc tT_142 (by decide) rfl rfl (by decide) dX8_finish_104 h (fun g6 h => ?_)
    refine z_aload_n (i := 0) 1 hc dX8_finish_105 rfl rfl ?_
    refine z_getI (kI := 140) (jI := 4) hc fl_RX8_27 tT_140 (by decide) rfl rfl rfl dX8_finish_106 ?_
    refine z_icmp_ge (tgt := 116) hc dX8_finish_109 (by decide) h (fun c109 h => ?_) (fun c109 h => ?_)
    · refine z_iconst hc dX8_finish_112 ?_
      refine z_goto (tgt := 117) hc dX8_finish_113 (by decide) ?_
      refine z_sub [(0, .ref (a 140)), (1, .ref (a 99)), (2, .int (zI v2)), (3, .int (zI v3)), (4, .int (zI v4)), (5, .int (zI v5)), (6, .int (zI v6)), (7, .long (zJ v7)), (9, .int (zI s0))] [1, 2, 3, 4, 5, 6, 7, 8, 0] rfl ?_
      exact w_X8_finish_117 hc hap k1 k2 h
    · refine z_sub [(0, .ref (a 140)), (1, .ref (a 99)), (2, .int (zI v2)), (3, .int (zI v3)), (4, .int (zI v4)), (5, .int (zI v5)), (6, .int (zI v6)), (7, .long (zJ v7)), (9, .int (zI s0))] [1, 2, 3, 4, 5, 6, 7, 8, 0] rfl ?_
      exact w_X8_finish_116 hc hap k1 k2 h
  · refine z_sub [(0, .ref (a 140)), (1, .ref (a 99)), (2, .int (zI v2)), (3, .int (zI v3)), (4, .int (zI v4)), (5, .int (zI v5)), (6, .int (zI v6)), (7, .long (zJ v7)), (9, .int (zI s0))] [1, 2, 3, 4, 5, 6, 7, 8, 0] rfl ?_
    exact w_X8_finish_116 hc hap k1 k2 h
def J_X8_finish_81 (v2 v3 v4 v5 v6 v7 : Int) (st : z_St) : Option ((Int × z_St) ⊕ z_St) :=
  J_X8_finish_86 v2 v3 v4 v5 v6 v7 1 st
set_option maxRecDepth 100000 in
set_option maxHeartbeats 4000000 in
theorem w_X8_finish_81 {κ : zK} {a : Nat → Nat} {v2 v3 v4 v5 v6 v7 : Int} {st : z_St} {mc9 ms9 : Nat} {o : (Int × z_St) ⊕ z_St} (hc : z_C κ RX8 cX8_finish 11 9 mc9 ms9) (hap : z_AP κ a z_N) (k1 : ∀ s9 : (Int × z_St), o = .inl s9 → z_V κ z_T z_N a 0 0 24 [(0, .ref (a 140)), (1, .ref (a 99)), (2, .int (zI v2)), (3, .int (zI v3)), (4, .int (zI v4)), (5, .int (zI s9.1))] [] s9.2) (k2 : ∀ x9 : z_St, o = .inr x9 → z_V κ z_T z_N a 0 0 166 [(0, .ref (a 140)), (1, .ref (a 99)), (2, .int (zI v2)), (3, .int (zI v3)), (4, .int (zI v4))] [] x9) (h : J_X8_finish_81 v2 v3 v4 v5 v6 v7 st = some o) : z_V κ z_T z_N a 0 0 81 [(0, .ref (a 140)), (1, .ref (a 99)), (2, .int (zI v2)), (3, .int (zI v3)), (4, .int (zI v4)), (5, .int (zI v5)), (6, .int (zI v6)), (7, .long (zJ v7))] [] st := by
  unfold J_X8_finish_81 at h
  refine z_iconst hc dX8_finish_81 ?_
  refine z_goto (tgt := 86) hc dX8_finish_82 (by decide) ?_
  refine z_sub [(0, .ref (a 140)), (1, .ref (a 99)), (2, .int (zI v2)), (3, .int (zI v3)), (4, .int (zI v4)), (5, .int (zI v5)), (6, .int (zI v6)), (7, .long (zJ v7))] [0, 1, 2, 3, 4, 5, 6, 7] rfl ?_
  exact w_X8_finish_86 hc hap k1 k2 h
def J_X8_finish_b24 (v2 v3 v4 v5 : Int) (st : z_St) : Option ((Int × z_St) ⊕ z_St) :=
  z_g (z32 v5 ∧ z32 v2) (if v5 < v2 then
    z_g (0 ≤ ((v3 * 20) + ((v4 - 1) * 5)) + v5 ∧ ((v3 * 20) + ((v4 - 1) * 5)) + v5 < 340) <|
    z_b (J_X0_toll v5 (-1) st) fun r4 =>
    z_g (z32 (st 140 4) ∧ z32 (-1)) (if st 140 4 = (-1) then
      J_X8_finish_81 v2 v3 v4 v5 (((v3 * 20) + ((v4 - 1) * 5)) + v5) ((st 141 (((v3 * 20) + ((v4 - 1) * 5)) + v5)) + r4) st
    else
      z_g (z64 ((st 141 (((v3 * 20) + ((v4 - 1) * 5)) + v5)) + r4) ∧ z64 (st 140 5)) (if (st 141 (((v3 * 20) + ((v4 - 1) * 5)) + v5)) + r4 < st 140 5 then
        J_X8_finish_81 v2 v3 v4 v5 (((v3 * 20) + ((v4 - 1) * 5)) + v5) ((st 141 (((v3 * 20) + ((v4 - 1) * 5)) + v5)) + r4) st
      else
        J_X8_finish_86 v2 v3 v4 v5 (((v3 * 20) + ((v4 - 1) * 5)) + v5) ((st 141 (((v3 * 20) + ((v4 - 1) * 5)) + v5)) + r4) 0 st))
  else
    some (.inr st))
set_option maxRecDepth 100000 in
set_option maxHeartbeats 4000000 in
theorem w_X8_finish_b24 {κ : zK} {a : Nat → Nat} {v2 v3 v4 v5 : Int} {st : z_St} {mc9 ms9 : Nat} {o : (Int × z_St) ⊕ z_St} (hc : z_C κ RX8 cX8_finish 11 9 mc9 ms9) (hap : z_AP κ a z_N) (k1 : ∀ s9 : (Int × z_St), o = .inl s9 → z_V κ z_T z_N a 0 0 24 [(0, .ref (a 140)), (1, .ref (a 99)), (2, .int (zI v2)), (3, .int (zI v3)), (4, .int (zI v4)), (5, .int (zI s9.1))] [] s9.2) (k2 : ∀ x9 : z_St, o = .inr x9 → z_V κ z_T z_N a 0 0 166 [(0, .ref (a 140)), (1, .ref (a 99)), (2, .int (zI v2)), (3, .int (zI v3)), (4, .int (zI v4))] [] x9) (h : J_X8_finish_b24 v2 v3 v4 v5 st = some o) : z_V κ z_T z_N a 0 0 24 [(0, .ref (a 140)), (1, .ref (a 99)), (2, .int (zI v2)), (3, .int (zI v3)), (4, .int (zI v4)), (5, .int (zI v5))] [] st := by
  unfold J_X8_finish_b24 at h
  refine z_iload 5 hc dX8_finish_24 rfl ?_
  refine z_iload_n (i := 2) 2 hc dX8_finish_26 rfl rfl ?_
  refine z_icmp_ge (tgt := 166) hc dX8_finish_27 (by decide) h (fun c27 h => ?_) (fun c27 h => ?_)
  · refine z_iload_n (i := 3) 3 hc dX8_finish_30 rfl rfl ?_
    refine z_bipush hc dX8_finish_31 rfl ?_
    refine z_imul hc dX8_finish_33 ?_
    refine z_iload 4 hc dX8_finish_34 rfl ?_
    refine z_iconst hc dX8_finish_36 ?_
    refine z_isub hc dX8_finish_37 ?_
    refine z_iconst hc dX8_finish_38 ?_
    refine z_imul hc dX8_finish_39 ?_
    refine z_iadd hc dX8_finish_40 ?_
    refine z_iload 5 hc dX8_finish_41 rfl ?_
    refine z_iadd hc dX8_finish_43 ?_
    refine z_istore [(6, .int (zI (((v3 * 20) + ((v4 - 1) * 5)) + v5))), (0, .ref (a 140)), (1, .ref (a 99)), (2, .int (zI v2)), (3, .int (zI v3)), (4, .int (zI v4)), (5, .int (zI v5))] hc dX8_finish_44 (by decide) rfl ?_
    refine z_aload_n (i := 0) 1 hc dX8_finish_46 rfl rfl ?_
    refine z_getA (k' := 141) hc fl_RX8_9 tT_140 (by decide) rfl rfl dX8_finish_47 ?_
    refine z_iload 0 hc dX8_finish_50 rfl ?_
    refine z_lald (kI := 141) (nI9 := 340) hc tT_141 (by decide) rfl rfl (by decide) dX8_finish_52 h (fun g3 h => ?_)
    refine z_aload_n (i := 1) 2 hc dX8_finish_53 rfl rfl ?_
    refine z_iload 6 hc dX8_finish_54 rfl ?_
    refine z_iconst hc dX8_finish_56 ?_
    obtain ⟨r4, hr4, h⟩ := z_b_some h
    refine z_callVJ [.int (zI v5), .int (zI (-1))] hc hap o_X0_toll ml_RX8_50 (fun l hl => c_X0_toll hl  hr4) (by decide) tT_99 (by decide) ⟨_, rfl, rfl⟩ rfl rfl (Nat.le_of_ble_eq_true rfl) (Nat.zero_le _) (Nat.zero_le _) dX8_finish_57 ?_
    refine z_ladd hc dX8_finish_60 ?_
    refine z_lstore [(7, .long (zJ ((st 141 (((v3 * 20) + ((v4 - 1) * 5)) + v5)) + r4))), (6, .int (zI (((v3 * 20) + ((v4 - 1) * 5)) + v5))), (0, .ref (a 140)), (1, .ref (a 99)), (2, .int (zI v2)), (3, .int (zI v3)), (4, .int (zI v4)), (5, .int (zI v5))] hc dX8_finish_61 (by decide) rfl ?_
    refine z_aload_n (i := 0) 2 hc dX8_finish_63 rfl rfl ?_
    refine z_getI (kI := 140) (jI := 4) hc fl_RX8_27 tT_140 (by decide) rfl rfl rfl dX8_finish_64 ?_
    refine z_iconst hc dX8_finish_67 ?_
    refine z_icmp_eq (tgt := 81) hc dX8_finish_68 (by decide) h (fun c68 h => ?_) (fun c68 h => ?_)
    · refine z_sub [(0, .ref (a 140)), (1, .ref (a 99)), (2, .int (zI v2)), (3, .int (zI v3)), (4, .int (zI v4)), (5, .int (zI v5)), (6, .int (zI (((v3 * 20) + ((v4 - 1) * 5)) + v5))), (7, .long (zJ ((st 141 (((v3 * 20) + ((v4 - 1) * 5)) + v5)) + r4)))] [2, 3, 4, 5, 6, 7, 1, 0] rfl ?_
      exact w_X8_finish_81 hc hap k1 k2 h
    · refine z_lload 0 hc dX8_finish_71 rfl ?_
      refine z_aload_n (i := 0) 2 hc dX8_finish_73 rfl rfl ?_
      refine z_getJ (kI := 140) (jI := 5) hc fl_RX8_32 tT_140 (by decide) rfl rfl rfl dX8_finish_74 ?_
      refine z_lcmp_ge (tgt := 85) hc dX8_finish_77 dX8_finish_78 (by decide) h (fun c77 h => ?_) (fun c77 h => ?_)
      · refine z_sub [(0, .ref (a 140)), (1, .ref (a 99)), (2, .int (zI v2)), (3, .int (zI v3)), (4, .int (zI v4)), (5, .int (zI v5)), (6, .int (zI (((v3 * 20) + ((v4 - 1) * 5)) + v5))), (7, .long (zJ ((st 141 (((v3 * 20) + ((v4 - 1) * 5)) + v5)) + r4)))] [2, 3, 4, 5, 6, 7, 1, 0] rfl ?_
        exact w_X8_finish_81 hc hap k1 k2 h
      · refine z_iconst hc dX8_finish_85 ?_
        refine z_sub [(0, .ref (a 140)), (1, .ref (a 99)), (2, .int (zI v2)), (3, .int (zI v3)), (4, .int (zI v4)), (5, .int (zI v5)), (6, .int (zI (((v3 * 20) + ((v4 - 1) * 5)) + v5))), (7, .long (zJ ((st 141 (((v3 * 20) + ((v4 - 1) * 5)) + v5)) + r4)))] [2, 3, 4, 5, 6, 7, 1, 0] rfl ?_
        exact w_X8_finish_86 hc hap k1 k2 h
  · refine z_sub [(0, .ref (a 140)), (1, .ref (a 99)), (2, .int (zI v2)), (3, .int (zI v3)), (4, .int (zI v4))] [0, 1, 2, 3, 4] rfl ?_
    exact k2 st (Option.some.inj h).symm
def J_X8_finish_b15 (v2 v3 v4 : Int) (st : z_St) : Option ((Int × z_St) ⊕ z_St) :=
  z_g (z32 v4 ∧ z32 4) (if 4 < v4 then
    some (.inr st)
  else
    z_b (z_iter z_F (fun q9 : (Int × z_St) => J_X8_finish_b24 v2 v3 v4 q9.1 q9.2) (0, st)) fun lx11 =>
      some (.inl (v4 + 1, lx11)))
set_option maxRecDepth 100000 in
set_option maxHeartbeats 4000000 in
theorem w_X8_finish_b15 {κ : zK} {a : Nat → Nat} {v2 v3 v4 : Int} {st : z_St} {mc9 ms9 : Nat} {o : (Int × z_St) ⊕ z_St} (hc : z_C κ RX8 cX8_finish 11 9 mc9 ms9) (hap : z_AP κ a z_N) (k1 : ∀ s9 : (Int × z_St), o = .inl s9 → z_V κ z_T z_N a 0 0 15 [(0, .ref (a 140)), (1, .ref (a 99)), (2, .int (zI v2)), (3, .int (zI v3)), (4, .int (zI s9.1))] [] s9.2) (k2 : ∀ x9 : z_St, o = .inr x9 → z_V κ z_T z_N a 0 0 172 [] [] x9) (h : J_X8_finish_b15 v2 v3 v4 st = some o) : z_V κ z_T z_N a 0 0 15 [(0, .ref (a 140)), (1, .ref (a 99)), (2, .int (zI v2)), (3, .int (zI v3)), (4, .int (zI v4))] [] st := by
  unfold J_X8_finish_b15 at h
  refine z_iload 4 hc dX8_finish_15 rfl ?_
  refine z_iconst hc dX8_finish_17 ?_
  refine z_icmp_gt (tgt := 172) hc dX8_finish_18 (by decide) h (fun c18 h => ?_) (fun c18 h => ?_)
  · refine z_sub [] [] rfl ?_
    exact k2 st (Option.some.inj h).symm
  · refine z_iconst hc dX8_finish_21 ?_
    refine z_istore [(5, .int (zI 0)), (0, .ref (a 140)), (1, .ref (a 99)), (2, .int (zI v2)), (3, .int (zI v3)), (4, .int (zI v4))] hc dX8_finish_22 (by decide) rfl ?_
    obtain ⟨lx11, hlx11, h⟩ := z_b_some h
    refine z_sub [(0, .ref (a 140)), (1, .ref (a 99)), (2, .int (zI v2)), (3, .int (zI v3)), (4, .int (zI v4)), (5, .int (zI 0))] [1, 2, 3, 4, 5, 0] rfl ?_
    refine z_loop (fun q9 : (Int × z_St) => J_X8_finish_b24 v2 v3 v4 q9.1 q9.2) (fun q9 : (Int × z_St) => z_V κ z_T z_N a 0 0 24 [(0, .ref (a 140)), (1, .ref (a 99)), (2, .int (zI v2)), (3, .int (zI v3)), (4, .int (zI v4)), (5, .int (zI q9.1))] [] q9.2) (fun x9 : z_St => z_V κ z_T z_N a 0 0 166 [(0, .ref (a 140)), (1, .ref (a 99)), (2, .int (zI v2)), (3, .int (zI v3)), (4, .int (zI v4))] [] x9) (fun q9 o9 hb k1 k2 => ?_) _ _ _ hlx11 ?_
    · exact w_X8_finish_b24 hc hap k1 k2 hb
    · show z_V κ z_T z_N a 0 0 166 [(0, .ref (a 140)), (1, .ref (a 99)), (2, .int (zI v2)), (3, .int (zI v3)), (4, .int (zI v4))] [] lx11
      refine z_iinc [(4, .int (zI (v4 + 1))), (0, .ref (a 140)), (1, .ref (a 99)), (2, .int (zI v2)), (3, .int (zI v3))] 4 hc dX8_finish_166 rfl (by decide) rfl ?_
      refine z_goto (tgt := 15) hc dX8_finish_169 (by decide) ?_
      refine z_sub [(0, .ref (a 140)), (1, .ref (a 99)), (2, .int (zI v2)), (3, .int (zI v3)), (4, .int (zI (v4 + 1)))] [1, 2, 3, 4, 0] rfl ?_
      exact k1 _ (Option.some.inj h).symm
def J_X8_finish (x2 x3 : Int) (st : z_St) : Option (z_St) :=
  z_let (z_up st 140 4 (-1)) fun st1 =>
  z_let (z_up st1 140 5 (-1)) fun st2 =>
  z_b (z_iter z_F (fun q9 : (Int × z_St) => J_X8_finish_b15 x2 x3 q9.1 q9.2) (1, st2)) fun lx12 =>
    some lx12
set_option maxRecDepth 100000 in
set_option maxHeartbeats 4000000 in
theorem w_X8_finish {κ : zK} {a : Nat → Nat} {x2 x3 : Int} {st : z_St} {o : z_St} (hc : z_C κ RX8 cX8_finish 11 9 0 0) (hap : z_AP κ a z_N) (he : z_E 2 κ none z_T z_N a 0 o) (h : J_X8_finish x2 x3 st = some o) : z_V κ z_T z_N a 0 0 0 [(0, .ref (a 140)), (1, .ref (a 99)), (2, .int (zI x2)), (3, .int (zI x3))] [] st := by
  unfold J_X8_finish at h
  refine z_aload_n (i := 0) 0 hc dX8_finish_0 rfl rfl ?_
  refine z_iconst hc dX8_finish_1 ?_
  refine z_putI (kI := 140) (jI := 4) hc hap fp_RX8_27 tT_140 (by decide) rfl rfl rfl dX8_finish_2 h (fun st1 h => ?_)
  refine z_aload_n (i := 0) 0 hc dX8_finish_5 rfl rfl ?_
  refine z_ldc2 (-1) hc kc_RX8_30 dX8_finish_6 rfl ?_
  refine z_putJ (kI := 140) (jI := 5) hc hap fp_RX8_32 tT_140 (by decide) rfl rfl rfl dX8_finish_9 h (fun st2 h => ?_)
  refine z_iconst hc dX8_finish_12 ?_
  refine z_istore [(4, .int (zI 1)), (0, .ref (a 140)), (1, .ref (a 99)), (2, .int (zI x2)), (3, .int (zI x3))] hc dX8_finish_13 (by decide) rfl ?_
  obtain ⟨lx12, hlx12, h⟩ := z_b_some h
  refine z_sub [(0, .ref (a 140)), (1, .ref (a 99)), (2, .int (zI x2)), (3, .int (zI x3)), (4, .int (zI 1))] [1, 2, 3, 4, 0] rfl ?_
  refine z_loop (fun q9 : (Int × z_St) => J_X8_finish_b15 x2 x3 q9.1 q9.2) (fun q9 : (Int × z_St) => z_V κ z_T z_N a 0 0 15 [(0, .ref (a 140)), (1, .ref (a 99)), (2, .int (zI x2)), (3, .int (zI x3)), (4, .int (zI q9.1))] [] q9.2) (fun x9 : z_St => z_V κ z_T z_N a 0 0 172 [] [] x9) (fun q9 o9 hb k1 k2 => ?_) _ _ _ hlx12 ?_
  · exact w_X8_finish_b15 hc hap k1 k2 hb
  · show z_V κ z_T z_N a 0 0 172 [] [] lx12
    have h := Option.some.inj h
    subst h
    exact z_retV hc he dX8_finish_172
set_option maxRecDepth 100000 in
set_option maxHeartbeats 4000000 in
theorem c_X8_finish {l : Launch} (hl : l.stackTraces = false) {a : Nat → Nat} {x2 x3 : Int} {st : z_St} {o : z_St} (h : J_X8_finish x2 x3 st = some o) : z_M 2 l yX8_finish cX8_finish 11 none 9 z_T z_N a [.ref (a 140), .ref (a 99), .int (zI x2), .int (zI x3)] st 0 o := z_of hl (by decide +kernel) (Nat.le_of_ble_eq_true rfl) (fun κ hc hap he => w_X8_finish hc hap he h)
theorem dX8_run_0 : decode cX8_run 0 = .ok (.aload_n 0, 1) := by decide +kernel
theorem dX8_run_1 : decode cX8_run 1 = .ok (.iconst 0, 1) := by decide +kernel
theorem dX8_run_2 : decode cX8_run 2 = .ok (.putfield 23, 3) := by decide +kernel
theorem dX8_run_5 : decode cX8_run 5 = .ok (.aload_n 0, 1) := by decide +kernel
theorem dX8_run_6 : decode cX8_run 6 = .ok (.getfield 9, 3) := by decide +kernel
theorem dX8_run_9 : decode cX8_run 9 = .ok (.ldc2_w 36, 3) := by decide +kernel
theorem dX8_run_12 : decode cX8_run 12 = .ok (.invokestatic 38, 3) := by decide +kernel
theorem dX8_run_15 : decode cX8_run 15 = .ok (.iconst 1, 1) := by decide +kernel
theorem dX8_run_16 : decode cX8_run 16 = .ok (.istore 7, 2) := by decide +kernel
theorem dX8_run_18 : decode cX8_run 18 = .ok (.iload 7, 2) := by decide +kernel
theorem dX8_run_20 : decode cX8_run 20 = .ok (.iload_n 3, 1) := by decide +kernel
theorem dX8_run_21 : decode cX8_run 21 = .ok (.if_icmp .gt 106, 3) := by decide +kernel
theorem dX8_run_24 : decode cX8_run 24 = .ok (.iconst 0, 1) := by decide +kernel
theorem dX8_run_25 : decode cX8_run 25 = .ok (.istore 8, 2) := by decide +kernel
theorem dX8_run_27 : decode cX8_run 27 = .ok (.iload 8, 2) := by decide +kernel
theorem dX8_run_29 : decode cX8_run 29 = .ok (.iload_n 2, 1) := by decide +kernel
theorem dX8_run_30 : decode cX8_run 30 = .ok (.if_icmp .ge 69, 3) := by decide +kernel
theorem dX8_run_33 : decode cX8_run 33 = .ok (.aload_n 0, 1) := by decide +kernel
theorem dX8_run_34 : decode cX8_run 34 = .ok (.iload 7, 2) := by decide +kernel
theorem dX8_run_36 : decode cX8_run 36 = .ok (.bipush 20, 2) := by decide +kernel
theorem dX8_run_38 : decode cX8_run 38 = .ok (.imul, 1) := by decide +kernel
theorem dX8_run_39 : decode cX8_run 39 = .ok (.iload 8, 2) := by decide +kernel
theorem dX8_run_41 : decode cX8_run 41 = .ok (.iadd, 1) := by decide +kernel
theorem dX8_run_42 : decode cX8_run 42 = .ok (.aload_n 1, 1) := by decide +kernel
theorem dX8_run_43 : decode cX8_run 43 = .ok (.iload 8, 2) := by decide +kernel
theorem dX8_run_45 : decode cX8_run 45 = .ok (.iconst 0, 1) := by decide +kernel
theorem dX8_run_46 : decode cX8_run 46 = .ok (.iload 7, 2) := by decide +kernel
theorem dX8_run_48 : decode cX8_run 48 = .ok (.invokevirtual 44, 3) := by decide +kernel
theorem dX8_run_51 : decode cX8_run 51 = .ok (.aload_n 1, 1) := by decide +kernel
theorem dX8_run_52 : decode cX8_run 52 = .ok (.iconst (-1), 1) := by decide +kernel
theorem dX8_run_53 : decode cX8_run 53 = .ok (.iload 8, 2) := by decide +kernel
theorem dX8_run_55 : decode cX8_run 55 = .ok (.invokevirtual 50, 3) := by decide +kernel
theorem dX8_run_58 : decode cX8_run 58 = .ok (.ladd, 1) := by decide +kernel
theorem dX8_run_59 : decode cX8_run 59 = .ok (.iload 8, 2) := by decide +kernel
theorem dX8_run_61 : decode cX8_run 61 = .ok (.iconst 1, 1) := by decide +kernel
theorem dX8_run_62 : decode cX8_run 62 = .ok (.iadd, 1) := by decide +kernel
theorem dX8_run_63 : decode cX8_run 63 = .ok (.invokevirtual 54, 3) := by decide +kernel
theorem dX8_run_66 : decode cX8_run 66 = .ok (.iconst 2, 1) := by decide +kernel
theorem dX8_run_67 : decode cX8_run 67 = .ok (.istore 9, 2) := by decide +kernel
theorem dX8_run_69 : decode cX8_run 69 = .ok (.iload 9, 2) := by decide +kernel
theorem dX8_run_71 : decode cX8_run 71 = .ok (.iconst 4, 1) := by decide +kernel
theorem dX8_run_72 : decode cX8_run 72 = .ok (.if_icmp .gt 21, 3) := by decide +kernel
theorem dX8_run_75 : decode cX8_run 75 = .ok (.aload_n 0, 1) := by decide +kernel
theorem dX8_run_76 : decode cX8_run 76 = .ok (.aload_n 1, 1) := by decide +kernel
theorem dX8_run_77 : decode cX8_run 77 = .ok (.iload_n 2, 1) := by decide +kernel
theorem dX8_run_78 : decode cX8_run 78 = .ok (.iload 7, 2) := by decide +kernel
theorem dX8_run_80 : decode cX8_run 80 = .ok (.iload 9, 2) := by decide +kernel
theorem dX8_run_82 : decode cX8_run 82 = .ok (.iload 8, 2) := by decide +kernel
theorem dX8_run_84 : decode cX8_run 84 = .ok (.invokevirtual 58, 3) := by decide +kernel
theorem dX8_run_87 : decode cX8_run 87 = .ok (.iinc 9 1, 3) := by decide +kernel
theorem dX8_run_90 : decode cX8_run 90 = .ok (.goto (-21), 3) := by decide +kernel
theorem dX8_run_93 : decode cX8_run 93 = .ok (.iinc 8 1, 3) := by decide +kernel
theorem dX8_run_96 : decode cX8_run 96 = .ok (.goto (-69), 3) := by decide +kernel
theorem dX8_run_99 : decode cX8_run 99 = .ok (.aload_n 0, 1) := by decide +kernel
theorem dX8_run_100 : decode cX8_run 100 = .ok (.iload 7, 2) := by decide +kernel
theorem dX8_run_102 : decode cX8_run 102 = .ok (.bipush 20, 2) := by decide +kernel
theorem dX8_run_104 : decode cX8_run 104 = .ok (.imul, 1) := by decide +kernel
theorem dX8_run_105 : decode cX8_run 105 = .ok (.lload 4, 2) := by decide +kernel
theorem dX8_run_107 : decode cX8_run 107 = .ok (.invokevirtual 62, 3) := by decide +kernel
theorem dX8_run_110 : decode cX8_run 110 = .ok (.aload_n 0, 1) := by decide +kernel
theorem dX8_run_111 : decode cX8_run 111 = .ok (.iload 7, 2) := by decide +kernel
theorem dX8_run_113 : decode cX8_run 113 = .ok (.bipush 20, 2) := by decide +kernel
theorem dX8_run_115 : decode cX8_run 115 = .ok (.imul, 1) := by decide +kernel
theorem dX8_run_116 : decode cX8_run 116 = .ok (.iload 6, 2) := by decide +kernel
theorem dX8_run_118 : decode cX8_run 118 = .ok (.invokevirtual 66, 3) := by decide +kernel
theorem dX8_run_121 : decode cX8_run 121 = .ok (.iinc 7 1, 3) := by decide +kernel
theorem dX8_run_124 : decode cX8_run 124 = .ok (.goto (-106), 3) := by decide +kernel
theorem dX8_run_127 : decode cX8_run 127 = .ok (.aload_n 0, 1) := by decide +kernel
theorem dX8_run_128 : decode cX8_run 128 = .ok (.aload_n 1, 1) := by decide +kernel
theorem dX8_run_129 : decode cX8_run 129 = .ok (.iload_n 2, 1) := by decide +kernel
theorem dX8_run_130 : decode cX8_run 130 = .ok (.iload_n 3, 1) := by decide +kernel
theorem dX8_run_131 : decode cX8_run 131 = .ok (.invokevirtual 70, 3) := by decide +kernel
theorem dX8_run_134 : decode cX8_run 134 = .ok (.return_, 1) := by decide +kernel
def J_X8_run_b69 (v2 v3 v4 v6 v7 v8 v9 : Int) (st : z_St) : Option ((Int × z_St) ⊕ z_St) :=
  z_g (z32 v9 ∧ z32 4) (if 4 < v9 then
    some (.inr st)
  else
    z_b (J_X8_lengthen v2 v7 v9 v8 st) fun st11 =>
    some (.inl (v9 + 1, st11)))
set_option maxRecDepth 100000 in
set_option maxHeartbeats 4000000 in
theorem w_X8_run_b69 {κ : zK} {a : Nat → Nat} {v2 v3 v4 v6 v7 v8 v9 : Int} {st : z_St} {mc9 ms9 : Nat} {o : (Int × z_St) ⊕ z_St} (hc : z_C κ RX8 cX8_run 10 10 mc9 ms9) (hap : z_AP κ a z_N) (k1 : ∀ s9 : (Int × z_St), o = .inl s9 → z_V κ z_T z_N a 0 0 69 [(0, .ref (a 140)), (1, .ref (a 99)), (2, .int (zI v2)), (3, .int (zI v3)), (4, .long (zJ v4)), (6, .int (zI v6)), (7, .int (zI v7)), (8, .int (zI v8)), (9, .int (zI s9.1))] [] s9.2) (k2 : ∀ x9 : z_St, o = .inr x9 → z_V κ z_T z_N a 0 0 93 [(0, .ref (a 140)), (1, .ref (a 99)), (2, .int (zI v2)), (3, .int (zI v3)), (4, .long (zJ v4)), (6, .int (zI v6)), (7, .int (zI v7)), (8, .int (zI v8))] [] x9) (h : J_X8_run_b69 v2 v3 v4 v6 v7 v8 v9 st = some o) : z_V κ z_T z_N a 0 0 69 [(0, .ref (a 140)), (1, .ref (a 99)), (2, .int (zI v2)), (3, .int (zI v3)), (4, .long (zJ v4)), (6, .int (zI v6)), (7, .int (zI v7)), (8, .int (zI v8)), (9, .int (zI v9))] [] st := by
  unfold J_X8_run_b69 at h
  refine z_iload 8 hc dX8_run_69 rfl ?_
  refine z_iconst hc dX8_run_71 ?_
  refine z_icmp_gt (tgt := 93) hc dX8_run_72 (by decide) h (fun c72 h => ?_) (fun c72 h => ?_)
  · refine z_sub [(0, .ref (a 140)), (1, .ref (a 99)), (2, .int (zI v2)), (3, .int (zI v3)), (4, .long (zJ v4)), (6, .int (zI v6)), (7, .int (zI v7)), (8, .int (zI v8))] [0, 1, 2, 3, 4, 5, 6, 7] rfl ?_
    exact k2 st (Option.some.inj h).symm
  · refine z_aload_n (i := 0) 0 hc dX8_run_75 rfl rfl ?_
    refine z_aload_n (i := 1) 1 hc dX8_run_76 rfl rfl ?_
    refine z_iload_n (i := 2) 2 hc dX8_run_77 rfl rfl ?_
    refine z_iload 6 hc dX8_run_78 rfl ?_
    refine z_iload 8 hc dX8_run_80 rfl ?_
    refine z_iload 7 hc dX8_run_82 rfl ?_
    obtain ⟨st11, hr10, h⟩ := z_b_some h
    refine z_callVV [.ref (a 99), .int (zI v2), .int (zI v7), .int (zI v9), .int (zI v8)] hc hap o_X8_lengthen ml_RX8_58 (fun l hl => c_X8_lengthen hl  hr10) (by decide) tT_140 (by decide) ⟨_, rfl, rfl⟩ rfl rfl (Nat.le_of_ble_eq_true rfl) (Nat.zero_le _) (Nat.zero_le _) dX8_run_84 ?_
    refine z_iinc [(9, .int (zI (v9 + 1))), (0, .ref (a 140)), (1, .ref (a 99)), (2, .int (zI v2)), (3, .int (zI v3)), (4, .long (zJ v4)), (6, .int (zI v6)), (7, .int (zI v7)), (8, .int (zI v8))] 8 hc dX8_run_87 rfl (by decide) rfl ?_
    refine z_goto (tgt := 69) hc dX8_run_90 (by decide) ?_
    refine z_sub [(0, .ref (a 140)), (1, .ref (a 99)), (2, .int (zI v2)), (3, .int (zI v3)), (4, .long (zJ v4)), (6, .int (zI v6)), (7, .int (zI v7)), (8, .int (zI v8)), (9, .int (zI (v9 + 1)))] [1, 2, 3, 4, 5, 6, 7, 8, 0] rfl ?_
    exact k1 _ (Option.some.inj h).symm
def J_X8_run_b27 (v2 v3 v4 v6 v7 v8 : Int) (st : z_St) : Option ((Int × z_St) ⊕ z_St) :=
  z_g (z32 v8 ∧ z32 v2) (if v8 < v2 then
    z_b (J_X0_span v8 0 v7 st) fun r4 =>
    z_b (J_X0_toll (-1) v8 st) fun r6 =>
    z_b (J_X8_putEnd ((v7 * 20) + v8) (r4 + r6) (v8 + 1) st) fun st9 =>
    z_b (z_iter z_F (fun q9 : (Int × z_St) => J_X8_run_b69 v2 v3 v4 v6 v7 v8 q9.1 q9.2) (2, st9)) fun lx12 =>
      some (.inl (v8 + 1, lx12))
  else
    some (.inr st))
set_option maxRecDepth 100000 in
set_option maxHeartbeats 4000000 in
theorem w_X8_run_b27 {κ : zK} {a : Nat → Nat} {v2 v3 v4 v6 v7 v8 : Int} {st : z_St} {mc9 ms9 : Nat} {o : (Int × z_St) ⊕ z_St} (hc : z_C κ RX8 cX8_run 10 10 mc9 ms9) (hap : z_AP κ a z_N) (k1 : ∀ s9 : (Int × z_St), o = .inl s9 → z_V κ z_T z_N a 0 0 27 [(0, .ref (a 140)), (1, .ref (a 99)), (2, .int (zI v2)), (3, .int (zI v3)), (4, .long (zJ v4)), (6, .int (zI v6)), (7, .int (zI v7)), (8, .int (zI s9.1))] [] s9.2) (k2 : ∀ x9 : z_St, o = .inr x9 → z_V κ z_T z_N a 0 0 99 [(0, .ref (a 140)), (1, .ref (a 99)), (2, .int (zI v2)), (3, .int (zI v3)), (4, .long (zJ v4)), (6, .int (zI v6)), (7, .int (zI v7))] [] x9) (h : J_X8_run_b27 v2 v3 v4 v6 v7 v8 st = some o) : z_V κ z_T z_N a 0 0 27 [(0, .ref (a 140)), (1, .ref (a 99)), (2, .int (zI v2)), (3, .int (zI v3)), (4, .long (zJ v4)), (6, .int (zI v6)), (7, .int (zI v7)), (8, .int (zI v8))] [] st := by
  unfold J_X8_run_b27 at h
  refine z_iload 7 hc dX8_run_27 rfl ?_
  refine z_iload_n (i := 2) 2 hc dX8_run_29 rfl rfl ?_
  refine z_icmp_ge (tgt := 99) hc dX8_run_30 (by decide) h (fun c30 h => ?_) (fun c30 h => ?_)
  · refine z_aload_n (i := 0) 0 hc dX8_run_33 rfl rfl ?_
    refine z_iload 6 hc dX8_run_34 rfl ?_
    refine z_bipush hc dX8_run_36 rfl ?_
    refine z_imul hc dX8_run_38 ?_
    refine z_iload 7 hc dX8_run_39 rfl ?_
    refine z_iadd hc dX8_run_41 ?_
    refine z_aload_n (i := 1) 1 hc dX8_run_42 rfl rfl ?_
    refine z_iload 7 hc dX8_run_43 rfl ?_
    refine z_iconst hc dX8_run_45 ?_
    refine z_iload 6 hc dX8_run_46 rfl ?_
    obtain ⟨r4, hr4, h⟩ := z_b_some h
    refine z_callVJ [.int (zI v8), .int (zI 0), .int (zI v7)] hc hap o_X0_span ml_RX8_44 (fun l hl => c_X0_span hl  hr4) (by decide) tT_99 (by decide) ⟨_, rfl, rfl⟩ rfl rfl (Nat.le_of_ble_eq_true rfl) (Nat.zero_le _) (Nat.zero_le _) dX8_run_48 ?_
    refine z_aload_n (i := 1) 1 hc dX8_run_51 rfl rfl ?_
    refine z_iconst hc dX8_run_52 ?_
    refine z_iload 7 hc dX8_run_53 rfl ?_
    obtain ⟨r6, hr6, h⟩ := z_b_some h
    refine z_callVJ [.int (zI (-1)), .int (zI v8)] hc hap o_X0_toll ml_RX8_50 (fun l hl => c_X0_toll hl  hr6) (by decide) tT_99 (by decide) ⟨_, rfl, rfl⟩ rfl rfl (Nat.le_of_ble_eq_true rfl) (Nat.zero_le _) (Nat.zero_le _) dX8_run_55 ?_
    refine z_ladd hc dX8_run_58 ?_
    refine z_iload 7 hc dX8_run_59 rfl ?_
    refine z_iconst hc dX8_run_61 ?_
    refine z_iadd hc dX8_run_62 ?_
    obtain ⟨st9, hr8, h⟩ := z_b_some h
    refine z_callVV [.int (zI ((v7 * 20) + v8)), .long (zJ (r4 + r6)), .int (zI (v8 + 1))] hc hap o_X8_putEnd ml_RX8_54 (fun l hl => c_X8_putEnd hl  hr8) (by decide) tT_140 (by decide) ⟨_, rfl, rfl⟩ rfl rfl (Nat.le_of_ble_eq_true rfl) (Nat.zero_le _) (Nat.zero_le _) dX8_run_63 ?_
    refine z_iconst hc dX8_run_66 ?_
    refine z_istore [(9, .int (zI 2)), (0, .ref (a 140)), (1, .ref (a 99)), (2, .int (zI v2)), (3, .int (zI v3)), (4, .long (zJ v4)), (6, .int (zI v6)), (7, .int (zI v7)), (8, .int (zI v8))] hc dX8_run_67 (by decide) rfl ?_
    obtain ⟨lx12, hlx12, h⟩ := z_b_some h
    refine z_sub [(0, .ref (a 140)), (1, .ref (a 99)), (2, .int (zI v2)), (3, .int (zI v3)), (4, .long (zJ v4)), (6, .int (zI v6)), (7, .int (zI v7)), (8, .int (zI v8)), (9, .int (zI 2))] [1, 2, 3, 4, 5, 6, 7, 8, 0] rfl ?_
    refine z_loop (fun q9 : (Int × z_St) => J_X8_run_b69 v2 v3 v4 v6 v7 v8 q9.1 q9.2) (fun q9 : (Int × z_St) => z_V κ z_T z_N a 0 0 69 [(0, .ref (a 140)), (1, .ref (a 99)), (2, .int (zI v2)), (3, .int (zI v3)), (4, .long (zJ v4)), (6, .int (zI v6)), (7, .int (zI v7)), (8, .int (zI v8)), (9, .int (zI q9.1))] [] q9.2) (fun x9 : z_St => z_V κ z_T z_N a 0 0 93 [(0, .ref (a 140)), (1, .ref (a 99)), (2, .int (zI v2)), (3, .int (zI v3)), (4, .long (zJ v4)), (6, .int (zI v6)), (7, .int (zI v7)), (8, .int (zI v8))] [] x9) (fun q9 o9 hb k1 k2 => ?_) _ _ _ hlx12 ?_
    · exact w_X8_run_b69 hc hap k1 k2 hb
    · show z_V κ z_T z_N a 0 0 93 [(0, .ref (a 140)), (1, .ref (a 99)), (2, .int (zI v2)), (3, .int (zI v3)), (4, .long (zJ v4)), (6, .int (zI v6)), (7, .int (zI v7)), (8, .int (zI v8))] [] lx12
      refine z_iinc [(8, .int (zI (v8 + 1))), (0, .ref (a 140)), (1, .ref (a 99)), (2, .int (zI v2)), (3, .int (zI v3)), (4, .long (zJ v4)), (6, .int (zI v6)), (7, .int (zI v7))] 7 hc dX8_run_93 rfl (by decide) rfl ?_
      refine z_goto (tgt := 27) hc dX8_run_96 (by decide) ?_
      refine z_sub [(0, .ref (a 140)), (1, .ref (a 99)), (2, .int (zI v2)), (3, .int (zI v3)), (4, .long (zJ v4)), (6, .int (zI v6)), (7, .int (zI v7)), (8, .int (zI (v8 + 1)))] [1, 2, 3, 4, 5, 6, 7, 0] rfl ?_
      exact k1 _ (Option.some.inj h).symm
  · refine z_sub [(0, .ref (a 140)), (1, .ref (a 99)), (2, .int (zI v2)), (3, .int (zI v3)), (4, .long (zJ v4)), (6, .int (zI v6)), (7, .int (zI v7))] [0, 1, 2, 3, 4, 5, 6] rfl ?_
    exact k2 st (Option.some.inj h).symm
def J_X8_run_b18 (v2 v3 v4 v6 v7 : Int) (st : z_St) : Option ((Int × z_St) ⊕ z_St) :=
  z_g (z32 v7 ∧ z32 v3) (if v3 < v7 then
    some (.inr st)
  else
    z_b (z_iter z_F (fun q9 : (Int × z_St) => J_X8_run_b27 v2 v3 v4 v6 v7 q9.1 q9.2) (0, st)) fun lx13 =>
      z_b (J_X8_dropDear (v7 * 20) v4 lx13) fun st15 =>
      z_b (J_X8_dropLate (v7 * 20) v6 st15) fun st17 =>
      some (.inl (v7 + 1, st17)))
set_option maxRecDepth 100000 in
set_option maxHeartbeats 4000000 in
theorem w_X8_run_b18 {κ : zK} {a : Nat → Nat} {v2 v3 v4 v6 v7 : Int} {st : z_St} {mc9 ms9 : Nat} {o : (Int × z_St) ⊕ z_St} (hc : z_C κ RX8 cX8_run 10 10 mc9 ms9) (hap : z_AP κ a z_N) (k1 : ∀ s9 : (Int × z_St), o = .inl s9 → z_V κ z_T z_N a 0 0 18 [(0, .ref (a 140)), (1, .ref (a 99)), (2, .int (zI v2)), (3, .int (zI v3)), (4, .long (zJ v4)), (6, .int (zI v6)), (7, .int (zI s9.1))] [] s9.2) (k2 : ∀ x9 : z_St, o = .inr x9 → z_V κ z_T z_N a 0 0 127 [(0, .ref (a 140)), (1, .ref (a 99)), (2, .int (zI v2)), (3, .int (zI v3))] [] x9) (h : J_X8_run_b18 v2 v3 v4 v6 v7 st = some o) : z_V κ z_T z_N a 0 0 18 [(0, .ref (a 140)), (1, .ref (a 99)), (2, .int (zI v2)), (3, .int (zI v3)), (4, .long (zJ v4)), (6, .int (zI v6)), (7, .int (zI v7))] [] st := by
  unfold J_X8_run_b18 at h
  refine z_iload 6 hc dX8_run_18 rfl ?_
  refine z_iload_n (i := 3) 3 hc dX8_run_20 rfl rfl ?_
  refine z_icmp_gt (tgt := 127) hc dX8_run_21 (by decide) h (fun c21 h => ?_) (fun c21 h => ?_)
  · refine z_sub [(0, .ref (a 140)), (1, .ref (a 99)), (2, .int (zI v2)), (3, .int (zI v3))] [0, 1, 2, 3] rfl ?_
    exact k2 st (Option.some.inj h).symm
  · refine z_iconst hc dX8_run_24 ?_
    refine z_istore [(8, .int (zI 0)), (0, .ref (a 140)), (1, .ref (a 99)), (2, .int (zI v2)), (3, .int (zI v3)), (4, .long (zJ v4)), (6, .int (zI v6)), (7, .int (zI v7))] hc dX8_run_25 (by decide) rfl ?_
    obtain ⟨lx13, hlx13, h⟩ := z_b_some h
    refine z_sub [(0, .ref (a 140)), (1, .ref (a 99)), (2, .int (zI v2)), (3, .int (zI v3)), (4, .long (zJ v4)), (6, .int (zI v6)), (7, .int (zI v7)), (8, .int (zI 0))] [1, 2, 3, 4, 5, 6, 7, 0] rfl ?_
    refine z_loop (fun q9 : (Int × z_St) => J_X8_run_b27 v2 v3 v4 v6 v7 q9.1 q9.2) (fun q9 : (Int × z_St) => z_V κ z_T z_N a 0 0 27 [(0, .ref (a 140)), (1, .ref (a 99)), (2, .int (zI v2)), (3, .int (zI v3)), (4, .long (zJ v4)), (6, .int (zI v6)), (7, .int (zI v7)), (8, .int (zI q9.1))] [] q9.2) (fun x9 : z_St => z_V κ z_T z_N a 0 0 99 [(0, .ref (a 140)), (1, .ref (a 99)), (2, .int (zI v2)), (3, .int (zI v3)), (4, .long (zJ v4)), (6, .int (zI v6)), (7, .int (zI v7))] [] x9) (fun q9 o9 hb k1 k2 => ?_) _ _ _ hlx13 ?_
    · exact w_X8_run_b27 hc hap k1 k2 hb
    · show z_V κ z_T z_N a 0 0 99 [(0, .ref (a 140)), (1, .ref (a 99)), (2, .int (zI v2)), (3, .int (zI v3)), (4, .long (zJ v4)), (6, .int (zI v6)), (7, .int (zI v7))] [] lx13
      refine z_aload_n (i := 0) 0 hc dX8_run_99 rfl rfl ?_
      refine z_iload 6 hc dX8_run_100 rfl ?_
      refine z_bipush hc dX8_run_102 rfl ?_
      refine z_imul hc dX8_run_104 ?_
      refine z_lload 4 hc dX8_run_105 rfl ?_
      obtain ⟨st15, hr14, h⟩ := z_b_some h
      refine z_callVV [.int (zI (v7 * 20)), .long (zJ v4)] hc hap o_X8_dropDear ml_RX8_62 (fun l hl => c_X8_dropDear hl  hr14) (by decide) tT_140 (by decide) ⟨_, rfl, rfl⟩ rfl rfl (Nat.le_of_ble_eq_true rfl) (Nat.zero_le _) (Nat.zero_le _) dX8_run_107 ?_
      refine z_aload_n (i := 0) 0 hc dX8_run_110 rfl rfl ?_
      refine z_iload 6 hc dX8_run_111 rfl ?_
      refine z_bipush hc dX8_run_113 rfl ?_
      refine z_imul hc dX8_run_115 ?_
      refine z_iload 5 hc dX8_run_116 rfl ?_
      obtain ⟨st17, hr16, h⟩ := z_b_some h
      refine z_callVV [.int (zI (v7 * 20)), .int (zI v6)] hc hap o_X8_dropLate ml_RX8_66 (fun l hl => c_X8_dropLate hl  hr16) (by decide) tT_140 (by decide) ⟨_, rfl, rfl⟩ rfl rfl (Nat.le_of_ble_eq_true rfl) (Nat.zero_le _) (Nat.zero_le _) dX8_run_118 ?_
      refine z_iinc [(7, .int (zI (v7 + 1))), (0, .ref (a 140)), (1, .ref (a 99)), (2, .int (zI v2)), (3, .int (zI v3)), (4, .long (zJ v4)), (6, .int (zI v6))] 6 hc dX8_run_121 rfl (by decide) rfl ?_
      refine z_goto (tgt := 18) hc dX8_run_124 (by decide) ?_
      refine z_sub [(0, .ref (a 140)), (1, .ref (a 99)), (2, .int (zI v2)), (3, .int (zI v3)), (4, .long (zJ v4)), (6, .int (zI v6)), (7, .int (zI (v7 + 1)))] [1, 2, 3, 4, 5, 6, 0] rfl ?_
      exact k1 _ (Option.some.inj h).symm
def J_X8_run (x2 x3 x4 x6 : Int) (st : z_St) : Option (z_St) :=
  z_let (z_up st 140 3 0) fun st1 =>
  z_b (J_J7_fill_d0a16 340 141 1152921504606846976 st1) fun st3 =>
  z_b (z_iter z_F (fun q9 : (Int × z_St) => J_X8_run_b18 x2 x3 x4 x6 q9.1 q9.2) (1, st3)) fun lx18 =>
    z_b (J_X8_finish x2 x3 lx18) fun st20 =>
    some st20
set_option maxRecDepth 100000 in
set_option maxHeartbeats 4000000 in
theorem w_X8_run {κ : zK} {a : Nat → Nat} {x2 x3 x4 x6 : Int} {st : z_St} {o : z_St} (hc : z_C κ RX8 cX8_run 10 10 0 0) (hap : z_AP κ a z_N) (he : z_E 2 κ none z_T z_N a 0 o) (h : J_X8_run x2 x3 x4 x6 st = some o) : z_V κ z_T z_N a 0 0 0 [(0, .ref (a 140)), (1, .ref (a 99)), (2, .int (zI x2)), (3, .int (zI x3)), (4, .long (zJ x4)), (6, .int (zI x6))] [] st := by
  unfold J_X8_run at h
  refine z_aload_n (i := 0) 0 hc dX8_run_0 rfl rfl ?_
  refine z_iconst hc dX8_run_1 ?_
  refine z_putI (kI := 140) (jI := 3) hc hap fp_RX8_23 tT_140 (by decide) rfl rfl rfl dX8_run_2 h (fun st1 h => ?_)
  refine z_aload_n (i := 0) 0 hc dX8_run_5 rfl rfl ?_
  refine z_getA (k' := 141) hc fl_RX8_9 tT_140 (by decide) rfl rfl dX8_run_6 ?_
  refine z_ldc2 1152921504606846976 hc kc_RX8_36 dX8_run_9 rfl ?_
  obtain ⟨st3, hr2, h⟩ := z_b_some h
  refine z_callSV [.ref (a 141), .long (zJ 1152921504606846976)] hc hap o_J7_fill_d0a16 ml_RX8_38 (fun l hl => c_J7_fill_d0a16 hl (by decide) (z_isArr_lit (by decide) tT_141) hr2) (by decide) rfl rfl (Nat.le_of_ble_eq_true rfl) (Nat.zero_le _) (Nat.zero_le _) dX8_run_12 ?_
  refine z_iconst hc dX8_run_15 ?_
  refine z_istore [(7, .int (zI 1)), (0, .ref (a 140)), (1, .ref (a 99)), (2, .int (zI x2)), (3, .int (zI x3)), (4, .long (zJ x4)), (6, .int (zI x6))] hc dX8_run_16 (by decide) rfl ?_
  obtain ⟨lx18, hlx18, h⟩ := z_b_some h
  refine z_sub [(0, .ref (a 140)), (1, .ref (a 99)), (2, .int (zI x2)), (3, .int (zI x3)), (4, .long (zJ x4)), (6, .int (zI x6)), (7, .int (zI 1))] [1, 2, 3, 4, 5, 6, 0] rfl ?_
  refine z_loop (fun q9 : (Int × z_St) => J_X8_run_b18 x2 x3 x4 x6 q9.1 q9.2) (fun q9 : (Int × z_St) => z_V κ z_T z_N a 0 0 18 [(0, .ref (a 140)), (1, .ref (a 99)), (2, .int (zI x2)), (3, .int (zI x3)), (4, .long (zJ x4)), (6, .int (zI x6)), (7, .int (zI q9.1))] [] q9.2) (fun x9 : z_St => z_V κ z_T z_N a 0 0 127 [(0, .ref (a 140)), (1, .ref (a 99)), (2, .int (zI x2)), (3, .int (zI x3))] [] x9) (fun q9 o9 hb k1 k2 => ?_) _ _ _ hlx18 ?_
  · exact w_X8_run_b18 hc hap k1 k2 hb
  · show z_V κ z_T z_N a 0 0 127 [(0, .ref (a 140)), (1, .ref (a 99)), (2, .int (zI x2)), (3, .int (zI x3))] [] lx18
    refine z_aload_n (i := 0) 0 hc dX8_run_127 rfl rfl ?_
    refine z_aload_n (i := 1) 1 hc dX8_run_128 rfl rfl ?_
    refine z_iload_n (i := 2) 2 hc dX8_run_129 rfl rfl ?_
    refine z_iload_n (i := 3) 3 hc dX8_run_130 rfl rfl ?_
    obtain ⟨st20, hr19, h⟩ := z_b_some h
    refine z_callVV [.ref (a 99), .int (zI x2), .int (zI x3)] hc hap o_X8_finish ml_RX8_70 (fun l hl => c_X8_finish hl  hr19) (by decide) tT_140 (by decide) ⟨_, rfl, rfl⟩ rfl rfl (Nat.le_of_ble_eq_true rfl) (Nat.zero_le _) (Nat.zero_le _) dX8_run_131 ?_
    have h := Option.some.inj h
    subst h
    exact z_retV hc he dX8_run_134
set_option maxRecDepth 100000 in
set_option maxHeartbeats 4000000 in
theorem c_X8_run {l : Launch} (hl : l.stackTraces = false) {a : Nat → Nat} {x2 x3 x4 x6 : Int} {st : z_St} {o : z_St} (h : J_X8_run x2 x3 x4 x6 st = some o) : z_M 2 l yX8_run cX8_run 10 none 10 z_T z_N a [.ref (a 140), .ref (a 99), .int (zI x2), .int (zI x3), .long (zJ x4), .int (zI x6)] st 0 o := z_of hl (by decide +kernel) (Nat.le_of_ble_eq_true rfl) (fun κ hc hap he => w_X8_run hc hap he h)
theorem dX9_ask_0 : decode cX9_ask 0 = .ok (.aload_n 0, 1) := by decide +kernel
theorem dX9_ask_1 : decode cX9_ask 1 = .ok (.getfield 19, 3) := by decide +kernel
theorem dX9_ask_4 : decode cX9_ask 4 = .ok (.aload_n 0, 1) := by decide +kernel
theorem dX9_ask_5 : decode cX9_ask 5 = .ok (.getfield 28, 3) := by decide +kernel
theorem dX9_ask_8 : decode cX9_ask 8 = .ok (.iload_n 1, 1) := by decide +kernel
theorem dX9_ask_9 : decode cX9_ask 9 = .ok (.iastore, 1) := by decide +kernel
theorem dX9_ask_10 : decode cX9_ask 10 = .ok (.aload_n 0, 1) := by decide +kernel
theorem dX9_ask_11 : decode cX9_ask 11 = .ok (.getfield 22, 3) := by decide +kernel
theorem dX9_ask_14 : decode cX9_ask 14 = .ok (.aload_n 0, 1) := by decide +kernel
theorem dX9_ask_15 : decode cX9_ask 15 = .ok (.getfield 28, 3) := by decide +kernel
theorem dX9_ask_18 : decode cX9_ask 18 = .ok (.iload_n 2, 1) := by decide +kernel
theorem dX9_ask_19 : decode cX9_ask 19 = .ok (.iastore, 1) := by decide +kernel
theorem dX9_ask_20 : decode cX9_ask 20 = .ok (.aload_n 0, 1) := by decide +kernel
theorem dX9_ask_21 : decode cX9_ask 21 = .ok (.getfield 25, 3) := by decide +kernel
theorem dX9_ask_24 : decode cX9_ask 24 = .ok (.aload_n 0, 1) := by decide +kernel
theorem dX9_ask_25 : decode cX9_ask 25 = .ok (.getfield 28, 3) := by decide +kernel
theorem dX9_ask_28 : decode cX9_ask 28 = .ok (.iload_n 3, 1) := by decide +kernel
theorem dX9_ask_29 : decode cX9_ask 29 = .ok (.iastore, 1) := by decide +kernel
theorem dX9_ask_30 : decode cX9_ask 30 = .ok (.aload_n 0, 1) := by decide +kernel
theorem dX9_ask_31 : decode cX9_ask 31 = .ok (.dup, 1) := by decide +kernel
theorem dX9_ask_32 : decode cX9_ask 32 = .ok (.getfield 28, 3) := by decide +kernel
theorem dX9_ask_35 : decode cX9_ask 35 = .ok (.iconst 1, 1) := by decide +kernel
theorem dX9_ask_36 : decode cX9_ask 36 = .ok (.iadd, 1) := by decide +kernel
theorem dX9_ask_37 : decode cX9_ask 37 = .ok (.putfield 28, 3) := by decide +kernel
theorem dX9_ask_40 : decode cX9_ask 40 = .ok (.return_, 1) := by decide +kernel
def J_X9_ask (x0 x1 x2 x3 : Int) (st : z_St) : Option (z_St) :=
  z_g (0 ≤ st x0 5 ∧ st x0 5 < 3) <|
  z_let (z_up st (x0 + 2) (st x0 5) x1) fun st1 =>
  z_g (0 ≤ st1 x0 5 ∧ st1 x0 5 < 3) <|
  z_let (z_up st1 (x0 + 3) (st1 x0 5) x2) fun st2 =>
  z_g (0 ≤ st2 x0 5 ∧ st2 x0 5 < 3) <|
  z_let (z_up st2 (x0 + 4) (st2 x0 5) x3) fun st3 =>
  z_let (z_up st3 x0 5 ((st3 x0 5) + 1)) fun st4 =>
  some st4
set_option maxRecDepth 100000 in
set_option maxHeartbeats 4000000 in
theorem w_X9_ask {κ : zK} {a : Nat → Nat} {x0 x1 x2 x3 : Int} {st : z_St} {o : z_St} (hc : z_C κ RX9 cX9_ask 4 8 0 0) (hap : z_AP κ a z_N) (hx0 : z_isSound x0) (he : z_E 2 κ none z_T z_N a 0 o) (h : J_X9_ask x0 x1 x2 x3 st = some o) : z_V κ z_T z_N a 0 0 0 [(0, .ref (a x0.toNat)), (1, .int (zI x1)), (2, .int (zI x2)), (3, .int (zI x3))] [] st := by
  unfold J_X9_ask at h
  refine z_aload_n (i := 0) 0 hc dX9_ask_0 rfl rfl ?_
  refine z_getA (k' := (x0.toNat + 2)) hc fl_RX9_19 (z_Sound_T hx0) (z_Sound_lt hx0) rfl rfl dX9_ask_1 ?_
  refine z_aload_n (i := 0) 0 hc dX9_ask_4 rfl rfl ?_
  refine z_getI (kI := x0) (jI := 5) hc fl_RX9_28 (z_Sound_T hx0) (z_Sound_lt hx0) (z_Sound_c hx0) rfl rfl dX9_ask_5 ?_
  refine z_iload_n (i := 1) 1 hc dX9_ask_8 rfl rfl ?_
  refine z_iast (kI := (x0 + 2)) (nI9 := 3) hc hap (z_Sound_T2 hx0) (z_Sound_lt2 hx0) (z_Sound_c2 hx0) rfl (by decide) dX9_ask_9 h (fun st1 h => ?_)
  refine z_aload_n (i := 0) 0 hc dX9_ask_10 rfl rfl ?_
  refine z_getA (k' := (x0.toNat + 3)) hc fl_RX9_22 (z_Sound_T hx0) (z_Sound_lt hx0) rfl rfl dX9_ask_11 ?_
  refine z_aload_n (i := 0) 0 hc dX9_ask_14 rfl rfl ?_
  refine z_getI (kI := x0) (jI := 5) hc fl_RX9_28 (z_Sound_T hx0) (z_Sound_lt hx0) (z_Sound_c hx0) rfl rfl dX9_ask_15 ?_
  refine z_iload_n (i := 2) 2 hc dX9_ask_18 rfl rfl ?_
  refine z_iast (kI := (x0 + 3)) (nI9 := 3) hc hap (z_Sound_T3 hx0) (z_Sound_lt3 hx0) (z_Sound_c3 hx0) rfl (by decide) dX9_ask_19 h (fun st2 h => ?_)
  refine z_aload_n (i := 0) 0 hc dX9_ask_20 rfl rfl ?_
  refine z_getA (k' := (x0.toNat + 4)) hc fl_RX9_25 (z_Sound_T hx0) (z_Sound_lt hx0) rfl rfl dX9_ask_21 ?_
  refine z_aload_n (i := 0) 0 hc dX9_ask_24 rfl rfl ?_
  refine z_getI (kI := x0) (jI := 5) hc fl_RX9_28 (z_Sound_T hx0) (z_Sound_lt hx0) (z_Sound_c hx0) rfl rfl dX9_ask_25 ?_
  refine z_iload_n (i := 3) 3 hc dX9_ask_28 rfl rfl ?_
  refine z_iast (kI := (x0 + 4)) (nI9 := 3) hc hap (z_Sound_T4 hx0) (z_Sound_lt4 hx0) (z_Sound_c4 hx0) rfl (by decide) dX9_ask_29 h (fun st3 h => ?_)
  refine z_aload_n (i := 0) 0 hc dX9_ask_30 rfl rfl ?_
  refine z_dup hc dX9_ask_31 rfl ?_
  refine z_getI (kI := x0) (jI := 5) hc fl_RX9_28 (z_Sound_T hx0) (z_Sound_lt hx0) (z_Sound_c hx0) rfl rfl dX9_ask_32 ?_
  refine z_iconst hc dX9_ask_35 ?_
  refine z_iadd hc dX9_ask_36 ?_
  refine z_putI (kI := x0) (jI := 5) hc hap fp_RX9_28 (z_Sound_T hx0) (z_Sound_lt hx0) (z_Sound_c hx0) rfl rfl dX9_ask_37 h (fun st4 h => ?_)
  have h := Option.some.inj h
  subst h
  exact z_retV hc he dX9_ask_40
set_option maxRecDepth 100000 in
set_option maxHeartbeats 4000000 in
theorem c_X9_ask {l : Launch} (hl : l.stackTraces = false) {a : Nat → Nat} {x0 x1 x2 x3 : Int} {st : z_St} {o : z_St} (hx0 : z_isSound x0) (h : J_X9_ask x0 x1 x2 x3 st = some o) : z_M 2 l yX9_ask cX9_ask 4 none 8 z_T z_N a [.ref (a x0.toNat), .int (zI x1), .int (zI x2), .int (zI x3)] st 0 o := z_of hl (by decide +kernel) (Nat.le_of_ble_eq_true rfl) (fun κ hc hap he => w_X9_ask hc hap hx0 he h)
theorem dX10_fillRests_0 : decode cX10_fillRests 0 = .ok (.aload_n 0, 1) := by decide +kernel
theorem dX10_fillRests_1 : decode cX10_fillRests 1 = .ok (.getfield 16, 3) := by decide +kernel
theorem dX10_fillRests_4 : decode cX10_fillRests 4 = .ok (.ldc2_w 49, 3) := by decide +kernel
theorem dX10_fillRests_7 : decode cX10_fillRests 7 = .ok (.invokestatic 51, 3) := by decide +kernel
theorem dX10_fillRests_10 : decode cX10_fillRests 10 = .ok (.aload_n 0, 1) := by decide +kernel
theorem dX10_fillRests_11 : decode cX10_fillRests 11 = .ok (.getfield 16, 3) := by decide +kernel
theorem dX10_fillRests_14 : decode cX10_fillRests 14 = .ok (.aload_n 1, 1) := by decide +kernel
theorem dX10_fillRests_15 : decode cX10_fillRests 15 = .ok (.getfield 31, 3) := by decide +kernel
theorem dX10_fillRests_18 : decode cX10_fillRests 18 = .ok (.bipush 17, 2) := by decide +kernel
theorem dX10_fillRests_20 : decode cX10_fillRests 20 = .ok (.imul, 1) := by decide +kernel
theorem dX10_fillRests_21 : decode cX10_fillRests 21 = .ok (.iload_n 3, 1) := by decide +kernel
theorem dX10_fillRests_22 : decode cX10_fillRests 22 = .ok (.iadd, 1) := by decide +kernel
theorem dX10_fillRests_23 : decode cX10_fillRests 23 = .ok (.lconst 0, 1) := by decide +kernel
theorem dX10_fillRests_24 : decode cX10_fillRests 24 = .ok (.lastore, 1) := by decide +kernel
theorem dX10_fillRests_25 : decode cX10_fillRests 25 = .ok (.aload_n 1, 1) := by decide +kernel
theorem dX10_fillRests_26 : decode cX10_fillRests 26 = .ok (.getfield 31, 3) := by decide +kernel
theorem dX10_fillRests_29 : decode cX10_fillRests 29 = .ok (.iconst 1, 1) := by decide +kernel
theorem dX10_fillRests_30 : decode cX10_fillRests 30 = .ok (.isub, 1) := by decide +kernel
theorem dX10_fillRests_31 : decode cX10_fillRests 31 = .ok (.istore 4, 2) := by decide +kernel
theorem dX10_fillRests_33 : decode cX10_fillRests 33 = .ok (.iload 4, 2) := by decide +kernel
theorem dX10_fillRests_35 : decode cX10_fillRests 35 = .ok (.ifCond .lt 99, 3) := by decide +kernel
theorem dX10_fillRests_38 : decode cX10_fillRests 38 = .ok (.iconst 0, 1) := by decide +kernel
theorem dX10_fillRests_39 : decode cX10_fillRests 39 = .ok (.istore 5, 2) := by decide +kernel
theorem dX10_fillRests_41 : decode cX10_fillRests 41 = .ok (.iload 5, 2) := by decide +kernel
theorem dX10_fillRests_43 : decode cX10_fillRests 43 = .ok (.iload_n 3, 1) := by decide +kernel
theorem dX10_fillRests_44 : decode cX10_fillRests 44 = .ok (.if_icmp .ge 84, 3) := by decide +kernel
theorem dX10_fillRests_47 : decode cX10_fillRests 47 = .ok (.ldc2_w 49, 3) := by decide +kernel
theorem dX10_fillRests_50 : decode cX10_fillRests 50 = .ok (.lstore 6, 2) := by decide +kernel
theorem dX10_fillRests_52 : decode cX10_fillRests 52 = .ok (.iload 5, 2) := by decide +kernel
theorem dX10_fillRests_54 : decode cX10_fillRests 54 = .ok (.iconst 1, 1) := by decide +kernel
theorem dX10_fillRests_55 : decode cX10_fillRests 55 = .ok (.iadd, 1) := by decide +kernel
theorem dX10_fillRests_56 : decode cX10_fillRests 56 = .ok (.istore 8, 2) := by decide +kernel
theorem dX10_fillRests_58 : decode cX10_fillRests 58 = .ok (.iload 8, 2) := by decide +kernel
theorem dX10_fillRests_60 : decode cX10_fillRests 60 = .ok (.iload_n 3, 1) := by decide +kernel
theorem dX10_fillRests_61 : decode cX10_fillRests 61 = .ok (.if_icmp .gt 46, 3) := by decide +kernel
theorem dX10_fillRests_64 : decode cX10_fillRests 64 = .ok (.lload 6, 2) := by decide +kernel
theorem dX10_fillRests_66 : decode cX10_fillRests 66 = .ok (.aload_n 2, 1) := by decide +kernel
theorem dX10_fillRests_67 : decode cX10_fillRests 67 = .ok (.aload_n 1, 1) := by decide +kernel
theorem dX10_fillRests_68 : decode cX10_fillRests 68 = .ok (.iload 4, 2) := by decide +kernel
theorem dX10_fillRests_70 : decode cX10_fillRests 70 = .ok (.invokevirtual 41, 3) := by decide +kernel
theorem dX10_fillRests_73 : decode cX10_fillRests 73 = .ok (.iload 5, 2) := by decide +kernel
theorem dX10_fillRests_75 : decode cX10_fillRests 75 = .ok (.iload 8, 2) := by decide +kernel
theorem dX10_fillRests_77 : decode cX10_fillRests 77 = .ok (.invokevirtual 57, 3) := by decide +kernel
theorem dX10_fillRests_80 : decode cX10_fillRests 80 = .ok (.aload_n 0, 1) := by decide +kernel
theorem dX10_fillRests_81 : decode cX10_fillRests 81 = .ok (.getfield 16, 3) := by decide +kernel
theorem dX10_fillRests_84 : decode cX10_fillRests 84 = .ok (.iload 4, 2) := by decide +kernel
theorem dX10_fillRests_86 : decode cX10_fillRests 86 = .ok (.iconst 1, 1) := by decide +kernel
theorem dX10_fillRests_87 : decode cX10_fillRests 87 = .ok (.iadd, 1) := by decide +kernel
theorem dX10_fillRests_88 : decode cX10_fillRests 88 = .ok (.bipush 17, 2) := by decide +kernel
theorem dX10_fillRests_90 : decode cX10_fillRests 90 = .ok (.imul, 1) := by decide +kernel
theorem dX10_fillRests_91 : decode cX10_fillRests 91 = .ok (.iload 8, 2) := by decide +kernel
theorem dX10_fillRests_93 : decode cX10_fillRests 93 = .ok (.iadd, 1) := by decide +kernel
theorem dX10_fillRests_94 : decode cX10_fillRests 94 = .ok (.laload, 1) := by decide +kernel
theorem dX10_fillRests_95 : decode cX10_fillRests 95 = .ok (.ladd, 1) := by decide +kernel
theorem dX10_fillRests_96 : decode cX10_fillRests 96 = .ok (.invokestatic 63, 3) := by decide +kernel
theorem dX10_fillRests_99 : decode cX10_fillRests 99 = .ok (.lstore 6, 2) := by decide +kernel
theorem dX10_fillRests_101 : decode cX10_fillRests 101 = .ok (.iinc 8 1, 3) := by decide +kernel
theorem dX10_fillRests_104 : decode cX10_fillRests 104 = .ok (.goto (-46), 3) := by decide +kernel
theorem dX10_fillRests_107 : decode cX10_fillRests 107 = .ok (.aload_n 0, 1) := by decide +kernel
theorem dX10_fillRests_108 : decode cX10_fillRests 108 = .ok (.getfield 16, 3) := by decide +kernel
theorem dX10_fillRests_111 : decode cX10_fillRests 111 = .ok (.iload 4, 2) := by decide +kernel
theorem dX10_fillRests_113 : decode cX10_fillRests 113 = .ok (.bipush 17, 2) := by decide +kernel
theorem dX10_fillRests_115 : decode cX10_fillRests 115 = .ok (.imul, 1) := by decide +kernel
theorem dX10_fillRests_116 : decode cX10_fillRests 116 = .ok (.iload 5, 2) := by decide +kernel
theorem dX10_fillRests_118 : decode cX10_fillRests 118 = .ok (.iadd, 1) := by decide +kernel
theorem dX10_fillRests_119 : decode cX10_fillRests 119 = .ok (.lload 6, 2) := by decide +kernel
theorem dX10_fillRests_121 : decode cX10_fillRests 121 = .ok (.lastore, 1) := by decide +kernel
theorem dX10_fillRests_122 : decode cX10_fillRests 122 = .ok (.iinc 5 1, 3) := by decide +kernel
theorem dX10_fillRests_125 : decode cX10_fillRests 125 = .ok (.goto (-84), 3) := by decide +kernel
theorem dX10_fillRests_128 : decode cX10_fillRests 128 = .ok (.iinc 4 (-1), 3) := by decide +kernel
theorem dX10_fillRests_131 : decode cX10_fillRests 131 = .ok (.goto (-98), 3) := by decide +kernel
theorem dX10_fillRests_134 : decode cX10_fillRests 134 = .ok (.return_, 1) := by decide +kernel
def J_X10_fillRests_b58 (v1 v3 v4 v5 v6 v8 : Int) (st : z_St) : Option ((Int × Int) ⊕ Int) :=
  z_g (z32 v8 ∧ z32 v3) (if v3 < v8 then
    some (.inr v6)
  else
    z_b (J_X6_wordAt v1 v4 st) fun r4 =>
    z_b (J_X0_span r4 v5 v8 st) fun r6 =>
    z_g (0 ≤ ((v4 + 1) * 17) + v8 ∧ ((v4 + 1) * 17) + v8 < 85) <|
    z_g (z64 v6 ∧ z64 (r6 + (st 156 (((v4 + 1) * 17) + v8)))) <|
    some (.inl (min v6 (r6 + (st 156 (((v4 + 1) * 17) + v8))), v8 + 1)))
set_option maxRecDepth 100000 in
set_option maxHeartbeats 4000000 in
theorem w_X10_fillRests_b58 {κ : zK} {a : Nat → Nat} {v1 v3 v4 v5 v6 v8 : Int} {st : z_St} {mc9 ms9 : Nat} {o : (Int × Int) ⊕ Int} (hc : z_C κ RX10 cX10_fillRests 9 9 mc9 ms9) (hap : z_AP κ a z_N) (hv1 : z_isRW v1) (k1 : ∀ s9 : (Int × Int), o = .inl s9 → z_V κ z_T z_N a 0 0 58 [(0, .ref (a 148)), (1, .ref (a v1.toNat)), (2, .ref (a 99)), (3, .int (zI v3)), (4, .int (zI v4)), (5, .int (zI v5)), (6, .long (zJ s9.1)), (8, .int (zI s9.2))] [] st) (k2 : ∀ x9 : Int, o = .inr x9 → z_V κ z_T z_N a 0 0 107 [(0, .ref (a 148)), (1, .ref (a v1.toNat)), (2, .ref (a 99)), (3, .int (zI v3)), (4, .int (zI v4)), (5, .int (zI v5)), (6, .long (zJ x9))] [] st) (h : J_X10_fillRests_b58 v1 v3 v4 v5 v6 v8 st = some o) : z_V κ z_T z_N a 0 0 58 [(0, .ref (a 148)), (1, .ref (a v1.toNat)), (2, .ref (a 99)), (3, .int (zI v3)), (4, .int (zI v4)), (5, .int (zI v5)), (6, .long (zJ v6)), (8, .int (zI v8))] [] st := by
  unfold J_X10_fillRests_b58 at h
  refine z_iload 7 hc dX10_fillRests_58 rfl ?_
  refine z_iload_n (i := 3) 3 hc dX10_fillRests_60 rfl rfl ?_
  refine z_icmp_gt (tgt := 107) hc dX10_fillRests_61 (by decide) h (fun c61 h => ?_) (fun c61 h => ?_)
  · refine z_sub [(0, .ref (a 148)), (1, .ref (a v1.toNat)), (2, .ref (a 99)), (3, .int (zI v3)), (4, .int (zI v4)), (5, .int (zI v5)), (6, .long (zJ v6))] [0, 1, 2, 3, 4, 5, 6] rfl ?_
    exact k2 v6 (Option.some.inj h).symm
  · refine z_lload 6 hc dX10_fillRests_64 rfl ?_
    refine z_aload_n (i := 2) 2 hc dX10_fillRests_66 rfl rfl ?_
    refine z_aload_n (i := 1) 1 hc dX10_fillRests_67 rfl rfl ?_
    refine z_iload 4 hc dX10_fillRests_68 rfl ?_
    obtain ⟨r4, hr4, h⟩ := z_b_some h
    refine z_callVI [.int (zI v4)] hc hap o_X6_wordAt ml_RX10_41 (fun l hl => c_X6_wordAt hl hv1 hr4) (by decide) (z_RW_T hv1) (z_RW_lt hv1) ⟨_, rfl, rfl⟩ rfl rfl (Nat.le_of_ble_eq_true rfl) (Nat.zero_le _) (Nat.zero_le _) dX10_fillRests_70 ?_
    refine z_iload 5 hc dX10_fillRests_73 rfl ?_
    refine z_iload 7 hc dX10_fillRests_75 rfl ?_
    obtain ⟨r6, hr6, h⟩ := z_b_some h
    refine z_callVJ [.int (zI r4), .int (zI v5), .int (zI v8)] hc hap o_X0_span ml_RX10_57 (fun l hl => c_X0_span hl  hr6) (by decide) tT_99 (by decide) ⟨_, rfl, rfl⟩ rfl rfl (Nat.le_of_ble_eq_true rfl) (Nat.zero_le _) (Nat.zero_le _) dX10_fillRests_77 ?_
    refine z_aload_n (i := 0) 0 hc dX10_fillRests_80 rfl rfl ?_
    refine z_getA (k' := 156) hc fl_RX10_16 tT_148 (by decide) rfl rfl dX10_fillRests_81 ?_
    refine z_iload 4 hc dX10_fillRests_84 rfl ?_
    refine z_iconst hc dX10_fillRests_86 ?_
    refine z_iadd hc dX10_fillRests_87 ?_
    refine z_bipush hc dX10_fillRests_88 rfl ?_
    refine z_imul hc dX10_fillRests_90 ?_
    refine z_iload 7 hc dX10_fillRests_91 rfl ?_
    refine z_iadd hc dX10_fillRests_93 ?_
    refine z_lald (kI := 156) (nI9 := 85) hc tT_156 (by decide) rfl rfl (by decide) dX10_fillRests_94 h (fun g8 h => ?_)
    refine z_ladd hc dX10_fillRests_95 ?_
    refine z_minJ hc ml_RX10_63 h ⟨rfl, rfl, Nat.le_of_ble_eq_true rfl, by omega⟩ dX10_fillRests_96 (fun h => ?_)
    refine z_lstore [(6, .long (zJ (min v6 (r6 + (st 156 (((v4 + 1) * 17) + v8)))))), (0, .ref (a 148)), (1, .ref (a v1.toNat)), (2, .ref (a 99)), (3, .int (zI v3)), (4, .int (zI v4)), (5, .int (zI v5)), (8, .int (zI v8))] hc dX10_fillRests_99 (by decide) rfl ?_
    refine z_iinc [(8, .int (zI (v8 + 1))), (6, .long (zJ (min v6 (r6 + (st 156 (((v4 + 1) * 17) + v8)))))), (0, .ref (a 148)), (1, .ref (a v1.toNat)), (2, .ref (a 99)), (3, .int (zI v3)), (4, .int (zI v4)), (5, .int (zI v5))] 7 hc dX10_fillRests_101 rfl (by decide) rfl ?_
    refine z_goto (tgt := 58) hc dX10_fillRests_104 (by decide) ?_
    refine z_sub [(0, .ref (a 148)), (1, .ref (a v1.toNat)), (2, .ref (a 99)), (3, .int (zI v3)), (4, .int (zI v4)), (5, .int (zI v5)), (6, .long (zJ (min v6 (r6 + (st 156 (((v4 + 1) * 17) + v8)))))), (8, .int (zI (v8 + 1)))] [2, 3, 4, 5, 6, 7, 1, 0] rfl ?_
    exact k1 _ (Option.some.inj h).symm
def J_X10_fillRests_b41 (v1 v3 v4 v5 : Int) (st : z_St) : Option ((Int × z_St) ⊕ z_St) :=
  z_g (z32 v5 ∧ z32 v3) (if v5 < v3 then
    z_b (z_iter z_F (fun q9 : (Int × Int) => J_X10_fillRests_b58 v1 v3 v4 v5 q9.1 q9.2 st) (1152921504606846976, v5 + 1)) fun lx9 =>
      z_g (0 ≤ (v4 * 17) + v5 ∧ (v4 * 17) + v5 < 85) <|
      z_let (z_up st 156 ((v4 * 17) + v5) lx9) fun st10 =>
      some (.inl (v5 + 1, st10))
  else
    some (.inr st))
set_option maxRecDepth 100000 in
set_option maxHeartbeats 4000000 in
theorem w_X10_fillRests_b41 {κ : zK} {a : Nat → Nat} {v1 v3 v4 v5 : Int} {st : z_St} {mc9 ms9 : Nat} {o : (Int × z_St) ⊕ z_St} (hc : z_C κ RX10 cX10_fillRests 9 9 mc9 ms9) (hap : z_AP κ a z_N) (hv1 : z_isRW v1) (k1 : ∀ s9 : (Int × z_St), o = .inl s9 → z_V κ z_T z_N a 0 0 41 [(0, .ref (a 148)), (1, .ref (a v1.toNat)), (2, .ref (a 99)), (3, .int (zI v3)), (4, .int (zI v4)), (5, .int (zI s9.1))] [] s9.2) (k2 : ∀ x9 : z_St, o = .inr x9 → z_V κ z_T z_N a 0 0 128 [(0, .ref (a 148)), (1, .ref (a v1.toNat)), (2, .ref (a 99)), (3, .int (zI v3)), (4, .int (zI v4))] [] x9) (h : J_X10_fillRests_b41 v1 v3 v4 v5 st = some o) : z_V κ z_T z_N a 0 0 41 [(0, .ref (a 148)), (1, .ref (a v1.toNat)), (2, .ref (a 99)), (3, .int (zI v3)), (4, .int (zI v4)), (5, .int (zI v5))] [] st := by
  unfold J_X10_fillRests_b41 at h
  refine z_iload 5 hc dX10_fillRests_41 rfl ?_
  refine z_iload_n (i := 3) 3 hc dX10_fillRests_43 rfl rfl ?_
  refine z_icmp_ge (tgt := 128) hc dX10_fillRests_44 (by decide) h (fun c44 h => ?_) (fun c44 h => ?_)
  · refine z_ldc2 1152921504606846976 hc kc_RX10_49 dX10_fillRests_47 rfl ?_
    refine z_lstore [(6, .long (zJ 1152921504606846976)), (0, .ref (a 148)), (1, .ref (a v1.toNat)), (2, .ref (a 99)), (3, .int (zI v3)), (4, .int (zI v4)), (5, .int (zI v5))] hc dX10_fillRests_50 (by decide) rfl ?_
    refine z_iload 6 hc dX10_fillRests_52 rfl ?_
    refine z_iconst hc dX10_fillRests_54 ?_
    refine z_iadd hc dX10_fillRests_55 ?_
    refine z_istore [(8, .int (zI (v5 + 1))), (6, .long (zJ 1152921504606846976)), (0, .ref (a 148)), (1, .ref (a v1.toNat)), (2, .ref (a 99)), (3, .int (zI v3)), (4, .int (zI v4)), (5, .int (zI v5))] hc dX10_fillRests_56 (by decide) rfl ?_
    obtain ⟨lx9, hlx9, h⟩ := z_b_some h
    refine z_sub [(0, .ref (a 148)), (1, .ref (a v1.toNat)), (2, .ref (a 99)), (3, .int (zI v3)), (4, .int (zI v4)), (5, .int (zI v5)), (6, .long (zJ 1152921504606846976)), (8, .int (zI (v5 + 1)))] [2, 3, 4, 5, 6, 7, 1, 0] rfl ?_
    refine z_loop (fun q9 : (Int × Int) => J_X10_fillRests_b58 v1 v3 v4 v5 q9.1 q9.2 st) (fun q9 : (Int × Int) => z_V κ z_T z_N a 0 0 58 [(0, .ref (a 148)), (1, .ref (a v1.toNat)), (2, .ref (a 99)), (3, .int (zI v3)), (4, .int (zI v4)), (5, .int (zI v5)), (6, .long (zJ q9.1)), (8, .int (zI q9.2))] [] st) (fun x9 : Int => z_V κ z_T z_N a 0 0 107 [(0, .ref (a 148)), (1, .ref (a v1.toNat)), (2, .ref (a 99)), (3, .int (zI v3)), (4, .int (zI v4)), (5, .int (zI v5)), (6, .long (zJ x9))] [] st) (fun q9 o9 hb k1 k2 => ?_) _ _ _ hlx9 ?_
    · exact w_X10_fillRests_b58 hc hap hv1 k1 k2 hb
    · show z_V κ z_T z_N a 0 0 107 [(0, .ref (a 148)), (1, .ref (a v1.toNat)), (2, .ref (a 99)), (3, .int (zI v3)), (4, .int (zI v4)), (5, .int (zI v5)), (6, .long (zJ lx9))] [] st
      refine z_aload_n (i := 0) 0 hc dX10_fillRests_107 rfl rfl ?_
      refine z_getA (k' := 156) hc fl_RX10_16 tT_148 (by decide) rfl rfl dX10_fillRests_108 ?_
      refine z_iload 4 hc dX10_fillRests_111 rfl ?_
      refine z_bipush hc dX10_fillRests_113 rfl ?_
      refine z_imul hc dX10_fillRests_115 ?_
      refine z_iload 5 hc dX10_fillRests_116 rfl ?_
      refine z_iadd hc dX10_fillRests_118 ?_
      refine z_lload 6 hc dX10_fillRests_119 rfl ?_
      refine z_last (kI := 156) (nI9 := 85) hc hap tT_156 (by decide) rfl rfl (by decide) dX10_fillRests_121 h (fun st10 h => ?_)
      refine z_iinc [(5, .int (zI (v5 + 1))), (0, .ref (a 148)), (1, .ref (a v1.toNat)), (2, .ref (a 99)), (3, .int (zI v3)), (4, .int (zI v4)), (6, .long (zJ lx9))] 5 hc dX10_fillRests_122 rfl (by decide) rfl ?_
      refine z_goto (tgt := 41) hc dX10_fillRests_125 (by decide) ?_
      refine z_sub [(0, .ref (a 148)), (1, .ref (a v1.toNat)), (2, .ref (a 99)), (3, .int (zI v3)), (4, .int (zI v4)), (5, .int (zI (v5 + 1)))] [1, 2, 3, 4, 5, 0] rfl ?_
      exact k1 _ (Option.some.inj h).symm
  · refine z_sub [(0, .ref (a 148)), (1, .ref (a v1.toNat)), (2, .ref (a 99)), (3, .int (zI v3)), (4, .int (zI v4))] [0, 1, 2, 3, 4] rfl ?_
    exact k2 st (Option.some.inj h).symm
def J_X10_fillRests_b33 (v1 v3 v4 : Int) (st : z_St) : Option ((Int × z_St) ⊕ z_St) :=
  z_g (z32 v4) (if v4 < 0 then
    some (.inr st)
  else
    z_b (z_iter z_F (fun q9 : (Int × z_St) => J_X10_fillRests_b41 v1 v3 v4 q9.1 q9.2) (0, st)) fun lx11 =>
      some (.inl (v4 + (-1), lx11)))
set_option maxRecDepth 100000 in
set_option maxHeartbeats 4000000 in
theorem w_X10_fillRests_b33 {κ : zK} {a : Nat → Nat} {v1 v3 v4 : Int} {st : z_St} {mc9 ms9 : Nat} {o : (Int × z_St) ⊕ z_St} (hc : z_C κ RX10 cX10_fillRests 9 9 mc9 ms9) (hap : z_AP κ a z_N) (hv1 : z_isRW v1) (k1 : ∀ s9 : (Int × z_St), o = .inl s9 → z_V κ z_T z_N a 0 0 33 [(0, .ref (a 148)), (1, .ref (a v1.toNat)), (2, .ref (a 99)), (3, .int (zI v3)), (4, .int (zI s9.1))] [] s9.2) (k2 : ∀ x9 : z_St, o = .inr x9 → z_V κ z_T z_N a 0 0 134 [] [] x9) (h : J_X10_fillRests_b33 v1 v3 v4 st = some o) : z_V κ z_T z_N a 0 0 33 [(0, .ref (a 148)), (1, .ref (a v1.toNat)), (2, .ref (a 99)), (3, .int (zI v3)), (4, .int (zI v4))] [] st := by
  unfold J_X10_fillRests_b33 at h
  refine z_iload 4 hc dX10_fillRests_33 rfl ?_
  refine z_if_lt (tgt := 134) hc dX10_fillRests_35 (by decide) h (fun c35 h => ?_) (fun c35 h => ?_)
  · refine z_sub [] [] rfl ?_
    exact k2 st (Option.some.inj h).symm
  · refine z_iconst hc dX10_fillRests_38 ?_
    refine z_istore [(5, .int (zI 0)), (0, .ref (a 148)), (1, .ref (a v1.toNat)), (2, .ref (a 99)), (3, .int (zI v3)), (4, .int (zI v4))] hc dX10_fillRests_39 (by decide) rfl ?_
    obtain ⟨lx11, hlx11, h⟩ := z_b_some h
    refine z_sub [(0, .ref (a 148)), (1, .ref (a v1.toNat)), (2, .ref (a 99)), (3, .int (zI v3)), (4, .int (zI v4)), (5, .int (zI 0))] [1, 2, 3, 4, 5, 0] rfl ?_
    refine z_loop (fun q9 : (Int × z_St) => J_X10_fillRests_b41 v1 v3 v4 q9.1 q9.2) (fun q9 : (Int × z_St) => z_V κ z_T z_N a 0 0 41 [(0, .ref (a 148)), (1, .ref (a v1.toNat)), (2, .ref (a 99)), (3, .int (zI v3)), (4, .int (zI v4)), (5, .int (zI q9.1))] [] q9.2) (fun x9 : z_St => z_V κ z_T z_N a 0 0 128 [(0, .ref (a 148)), (1, .ref (a v1.toNat)), (2, .ref (a 99)), (3, .int (zI v3)), (4, .int (zI v4))] [] x9) (fun q9 o9 hb k1 k2 => ?_) _ _ _ hlx11 ?_
    · exact w_X10_fillRests_b41 hc hap hv1 k1 k2 hb
    · show z_V κ z_T z_N a 0 0 128 [(0, .ref (a 148)), (1, .ref (a v1.toNat)), (2, .ref (a 99)), (3, .int (zI v3)), (4, .int (zI v4))] [] lx11
      refine z_iinc [(4, .int (zI (v4 + (-1)))), (0, .ref (a 148)), (1, .ref (a v1.toNat)), (2, .ref (a 99)), (3, .int (zI v3))] 4 hc dX10_fillRests_128 rfl (by decide) rfl ?_
      refine z_goto (tgt := 33) hc dX10_fillRests_131 (by decide) ?_
      refine z_sub [(0, .ref (a 148)), (1, .ref (a v1.toNat)), (2, .ref (a 99)), (3, .int (zI v3)), (4, .int (zI (v4 + (-1))))] [1, 2, 3, 4, 0] rfl ?_
      exact k1 _ (Option.some.inj h).symm
def J_X10_fillRests (x1 x3 : Int) (st : z_St) : Option (z_St) :=
  z_b (J_J7_fill_d0a16 85 156 1152921504606846976 st) fun st2 =>
  z_g (0 ≤ ((st2 x1 1) * 17) + x3 ∧ ((st2 x1 1) * 17) + x3 < 85) <|
  z_let (z_up st2 156 (((st2 x1 1) * 17) + x3) 0) fun st3 =>
  z_b (z_iter z_F (fun q9 : (Int × z_St) => J_X10_fillRests_b33 x1 x3 q9.1 q9.2) ((st3 x1 1) - 1, st3)) fun lx12 =>
    some lx12
set_option maxRecDepth 100000 in
set_option maxHeartbeats 4000000 in
theorem w_X10_fillRests {κ : zK} {a : Nat → Nat} {x1 x3 : Int} {st : z_St} {o : z_St} (hc : z_C κ RX10 cX10_fillRests 9 9 0 0) (hap : z_AP κ a z_N) (hx1 : z_isRW x1) (he : z_E 2 κ none z_T z_N a 0 o) (h : J_X10_fillRests x1 x3 st = some o) : z_V κ z_T z_N a 0 0 0 [(0, .ref (a 148)), (1, .ref (a x1.toNat)), (2, .ref (a 99)), (3, .int (zI x3))] [] st := by
  unfold J_X10_fillRests at h
  refine z_aload_n (i := 0) 0 hc dX10_fillRests_0 rfl rfl ?_
  refine z_getA (k' := 156) hc fl_RX10_16 tT_148 (by decide) rfl rfl dX10_fillRests_1 ?_
  refine z_ldc2 1152921504606846976 hc kc_RX10_49 dX10_fillRests_4 rfl ?_
  obtain ⟨st2, hr1, h⟩ := z_b_some h
  refine z_callSV [.ref (a 156), .long (zJ 1152921504606846976)] hc hap o_J7_fill_d0a16 ml_RX10_51 (fun l hl => c_J7_fill_d0a16 hl (by decide) (z_isArr_lit (by decide) tT_156) hr1) (by decide) rfl rfl (Nat.le_of_ble_eq_true rfl) (Nat.zero_le _) (Nat.zero_le _) dX10_fillRests_7 ?_
  refine z_aload_n (i := 0) 0 hc dX10_fillRests_10 rfl rfl ?_
  refine z_getA (k' := 156) hc fl_RX10_16 tT_148 (by decide) rfl rfl dX10_fillRests_11 ?_
  refine z_aload_n (i := 1) 1 hc dX10_fillRests_14 rfl rfl ?_
  refine z_getI (kI := x1) (jI := 1) hc fl_RX10_31 (z_RW_T hx1) (z_RW_lt hx1) (z_RW_c hx1) rfl rfl dX10_fillRests_15 ?_
  refine z_bipush hc dX10_fillRests_18 rfl ?_
  refine z_imul hc dX10_fillRests_20 ?_
  refine z_iload_n (i := 3) 3 hc dX10_fillRests_21 rfl rfl ?_
  refine z_iadd hc dX10_fillRests_22 ?_
  refine z_lconst 0 hc dX10_fillRests_23 rfl ?_
  refine z_last (kI := 156) (nI9 := 85) hc hap tT_156 (by decide) rfl rfl (by decide) dX10_fillRests_24 h (fun st3 h => ?_)
  refine z_aload_n (i := 1) 1 hc dX10_fillRests_25 rfl rfl ?_
  refine z_getI (kI := x1) (jI := 1) hc fl_RX10_31 (z_RW_T hx1) (z_RW_lt hx1) (z_RW_c hx1) rfl rfl dX10_fillRests_26 ?_
  refine z_iconst hc dX10_fillRests_29 ?_
  refine z_isub hc dX10_fillRests_30 ?_
  refine z_istore [(4, .int (zI ((st3 x1 1) - 1))), (0, .ref (a 148)), (1, .ref (a x1.toNat)), (2, .ref (a 99)), (3, .int (zI x3))] hc dX10_fillRests_31 (by decide) rfl ?_
  obtain ⟨lx12, hlx12, h⟩ := z_b_some h
  refine z_sub [(0, .ref (a 148)), (1, .ref (a x1.toNat)), (2, .ref (a 99)), (3, .int (zI x3)), (4, .int (zI ((st3 x1 1) - 1)))] [1, 2, 3, 4, 0] rfl ?_
  refine z_loop (fun q9 : (Int × z_St) => J_X10_fillRests_b33 x1 x3 q9.1 q9.2) (fun q9 : (Int × z_St) => z_V κ z_T z_N a 0 0 33 [(0, .ref (a 148)), (1, .ref (a x1.toNat)), (2, .ref (a 99)), (3, .int (zI x3)), (4, .int (zI q9.1))] [] q9.2) (fun x9 : z_St => z_V κ z_T z_N a 0 0 134 [] [] x9) (fun q9 o9 hb k1 k2 => ?_) _ _ _ hlx12 ?_
  · exact w_X10_fillRests_b33 hc hap hx1 k1 k2 hb
  · show z_V κ z_T z_N a 0 0 134 [] [] lx12
    have h := Option.some.inj h
    subst h
    exact z_retV hc he dX10_fillRests_134
set_option maxRecDepth 100000 in
set_option maxHeartbeats 4000000 in
theorem c_X10_fillRests {l : Launch} (hl : l.stackTraces = false) {a : Nat → Nat} {x1 x3 : Int} {st : z_St} {o : z_St} (hx1 : z_isRW x1) (h : J_X10_fillRests x1 x3 st = some o) : z_M 2 l yX10_fillRests cX10_fillRests 9 none 9 z_T z_N a [.ref (a 148), .ref (a x1.toNat), .ref (a 99), .int (zI x3)] st 0 o := z_of hl (by decide +kernel) (Nat.le_of_ble_eq_true rfl) (fun κ hc hap he => w_X10_fillRests hc hap hx1 he h)
