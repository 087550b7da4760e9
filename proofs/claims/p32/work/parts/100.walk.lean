theorem dX0_span_0 : decode cX0_span 0 = .ok (.aload_n 0, 1) := by decide +kernel
theorem dX0_span_1 : decode cX0_span 1 = .ok (.getfield 16, 3) := by decide +kernel
theorem dX0_span_4 : decode cX0_span 4 = .ok (.iload_n 1, 1) := by decide +kernel
theorem dX0_span_5 : decode cX0_span 5 = .ok (.bipush 17, 2) := by decide +kernel
theorem dX0_span_7 : decode cX0_span 7 = .ok (.imul, 1) := by decide +kernel
theorem dX0_span_8 : decode cX0_span 8 = .ok (.iload_n 2, 1) := by decide +kernel
theorem dX0_span_9 : decode cX0_span 9 = .ok (.iadd, 1) := by decide +kernel
theorem dX0_span_10 : decode cX0_span 10 = .ok (.bipush 17, 2) := by decide +kernel
theorem dX0_span_12 : decode cX0_span 12 = .ok (.imul, 1) := by decide +kernel
theorem dX0_span_13 : decode cX0_span 13 = .ok (.iload_n 3, 1) := by decide +kernel
theorem dX0_span_14 : decode cX0_span 14 = .ok (.iadd, 1) := by decide +kernel
theorem dX0_span_15 : decode cX0_span 15 = .ok (.laload, 1) := by decide +kernel
theorem dX0_span_16 : decode cX0_span 16 = .ok (.lreturn, 1) := by decide +kernel
def J_X0_span (x1 x2 x3 : Int) (st : z_St) : Option (Int) :=
  z_g (0 ≤ (((x1 * 17) + x2) * 17) + x3 ∧ (((x1 * 17) + x2) * 17) + x3 < 1445) <|
  some (st 125 ((((x1 * 17) + x2) * 17) + x3))
set_option maxRecDepth 100000 in
set_option maxHeartbeats 4000000 in
theorem w_X0_span {κ : zK} {a : Nat → Nat} {x1 x2 x3 : Int} {st : z_St} {o : Int} (hc : z_C κ RX0 cX0_span 4 8 0 0) (hap : z_AP κ a z_N) (he : z_E 1 κ (some .long) z_T z_N a o st) (h : J_X0_span x1 x2 x3 st = some o) : z_V κ z_T z_N a 0 0 0 [(0, .ref (a 99)), (1, .int (zI x1)), (2, .int (zI x2)), (3, .int (zI x3))] [] st := by
  unfold J_X0_span at h
  refine z_aload_n (i := 0) 0 hc dX0_span_0 rfl rfl ?_
  refine z_getA (k' := 125) hc fl_RX0_16 tT_99 (by decide) rfl rfl dX0_span_1 ?_
  refine z_iload_n (i := 1) 1 hc dX0_span_4 rfl rfl ?_
  refine z_bipush hc dX0_span_5 rfl ?_
  refine z_imul hc dX0_span_7 ?_
  refine z_iload_n (i := 2) 2 hc dX0_span_8 rfl rfl ?_
  refine z_iadd hc dX0_span_9 ?_
  refine z_bipush hc dX0_span_10 rfl ?_
  refine z_imul hc dX0_span_12 ?_
  refine z_iload_n (i := 3) 3 hc dX0_span_13 rfl rfl ?_
  refine z_iadd hc dX0_span_14 ?_
  refine z_lald (kI := 125) (nI9 := 1445) hc tT_125 (by decide) rfl rfl (by decide) dX0_span_15 h (fun g1 h => ?_)
  have h := Option.some.inj h
  subst h
  exact z_retJ hc he dX0_span_16
set_option maxRecDepth 100000 in
set_option maxHeartbeats 4000000 in
theorem c_X0_span {l : Launch} (hl : l.stackTraces = false) {a : Nat → Nat} {x1 x2 x3 : Int} {st : z_St} {o : Int} (h : J_X0_span x1 x2 x3 st = some o) : z_M 1 l yX0_span cX0_span 4 (some .long) 8 z_T z_N a [.ref (a 99), .int (zI x1), .int (zI x2), .int (zI x3)] st o st := z_of hl (by decide +kernel) (Nat.le_of_ble_eq_true rfl) (fun κ hc hap he => w_X0_span hc hap he h)
theorem dX0_toll_0 : decode cX0_toll 0 = .ok (.aload_n 0, 1) := by decide +kernel
theorem dX0_toll_1 : decode cX0_toll 1 = .ok (.getfield 20, 3) := by decide +kernel
theorem dX0_toll_4 : decode cX0_toll 4 = .ok (.iload_n 1, 1) := by decide +kernel
theorem dX0_toll_5 : decode cX0_toll 5 = .ok (.iconst 1, 1) := by decide +kernel
theorem dX0_toll_6 : decode cX0_toll 6 = .ok (.iadd, 1) := by decide +kernel
theorem dX0_toll_7 : decode cX0_toll 7 = .ok (.aaload, 1) := by decide +kernel
theorem dX0_toll_8 : decode cX0_toll 8 = .ok (.iload_n 2, 1) := by decide +kernel
theorem dX0_toll_9 : decode cX0_toll 9 = .ok (.iconst 1, 1) := by decide +kernel
theorem dX0_toll_10 : decode cX0_toll 10 = .ok (.iadd, 1) := by decide +kernel
theorem dX0_toll_11 : decode cX0_toll 11 = .ok (.laload, 1) := by decide +kernel
theorem dX0_toll_12 : decode cX0_toll 12 = .ok (.lreturn, 1) := by decide +kernel
def J_X0_toll (x1 x2 : Int) (st : z_St) : Option (Int) :=
  z_g (0 ≤ x1 + 1 ∧ x1 + 1 < 6) <|
  z_g (0 ≤ x2 + 1 ∧ x2 + 1 < 6) <|
  some (st (127 + (x1 + 1)) (x2 + 1))
set_option maxRecDepth 100000 in
set_option maxHeartbeats 4000000 in
theorem w_X0_toll {κ : zK} {a : Nat → Nat} {x1 x2 : Int} {st : z_St} {o : Int} (hc : z_C κ RX0 cX0_toll 3 8 0 0) (hap : z_AP κ a z_N) (he : z_E 1 κ (some .long) z_T z_N a o st) (h : J_X0_toll x1 x2 st = some o) : z_V κ z_T z_N a 0 0 0 [(0, .ref (a 99)), (1, .int (zI x1)), (2, .int (zI x2))] [] st := by
  unfold J_X0_toll at h
  refine z_aload_n (i := 0) 0 hc dX0_toll_0 rfl rfl ?_
  refine z_getA (k' := 126) hc fl_RX0_20 tT_99 (by decide) rfl rfl dX0_toll_1 ?_
  refine z_iload_n (i := 1) 1 hc dX0_toll_4 rfl rfl ?_
  refine z_iconst hc dX0_toll_5 ?_
  refine z_iadd hc dX0_toll_6 ?_
  refine z_aald (r := 127 + (x1 + 1)) (nI9 := 6) hc tT_126 (by decide) (by decide) rfl (by decide) (fun j9 hj9 => by omega) dX0_toll_7 h (fun g1 h => ?_)
  refine z_iload_n (i := 2) 2 hc dX0_toll_8 rfl rfl ?_
  refine z_iconst hc dX0_toll_9 ?_
  refine z_iadd hc dX0_toll_10 ?_
  refine z_lald (kI := 127 + (x1 + 1)) (nI9 := 6) hc (z_row_126 g1).2.2 (z_row_126 g1).2.1 (Int.toNat_of_nonneg (z_row_126 g1).1) rfl (by decide) dX0_toll_11 h (fun g2 h => ?_)
  have h := Option.some.inj h
  subst h
  exact z_retJ hc he dX0_toll_12
set_option maxRecDepth 100000 in
set_option maxHeartbeats 4000000 in
theorem c_X0_toll {l : Launch} (hl : l.stackTraces = false) {a : Nat → Nat} {x1 x2 : Int} {st : z_St} {o : Int} (h : J_X0_toll x1 x2 st = some o) : z_M 1 l yX0_toll cX0_toll 3 (some .long) 8 z_T z_N a [.ref (a 99), .int (zI x1), .int (zI x2)] st o st := z_of hl (by decide +kernel) (Nat.le_of_ble_eq_true rfl) (fun κ hc hap he => w_X0_toll hc hap he h)
theorem dX1_clean_0 : decode cX1_clean 0 = .ok (.aload_n 0, 1) := by decide +kernel
theorem dX1_clean_1 : decode cX1_clean 1 = .ok (.getfield 11, 3) := by decide +kernel
theorem dX1_clean_4 : decode cX1_clean 4 = .ok (.iload_n 1, 1) := by decide +kernel
theorem dX1_clean_5 : decode cX1_clean 5 = .ok (.aaload, 1) := by decide +kernel
theorem dX1_clean_6 : decode cX1_clean 6 = .ok (.iload_n 2, 1) := by decide +kernel
theorem dX1_clean_7 : decode cX1_clean 7 = .ok (.iaload, 1) := by decide +kernel
theorem dX1_clean_8 : decode cX1_clean 8 = .ok (.aload_n 0, 1) := by decide +kernel
theorem dX1_clean_9 : decode cX1_clean 9 = .ok (.getfield 16, 3) := by decide +kernel
theorem dX1_clean_12 : decode cX1_clean 12 = .ok (.aload_n 0, 1) := by decide +kernel
theorem dX1_clean_13 : decode cX1_clean 13 = .ok (.getfield 23, 3) := by decide +kernel
theorem dX1_clean_16 : decode cX1_clean 16 = .ok (.aaload, 1) := by decide +kernel
theorem dX1_clean_17 : decode cX1_clean 17 = .ok (.iload_n 2, 1) := by decide +kernel
theorem dX1_clean_18 : decode cX1_clean 18 = .ok (.iaload, 1) := by decide +kernel
theorem dX1_clean_19 : decode cX1_clean 19 = .ok (.isub, 1) := by decide +kernel
theorem dX1_clean_20 : decode cX1_clean 20 = .ok (.ireturn, 1) := by decide +kernel
def J_X1_clean (x1 x2 : Int) (st : z_St) : Option (Int) :=
  z_g (0 ≤ x1 ∧ x1 < 16) <|
  z_g (0 ≤ x2 ∧ x2 < 3) <|
  z_g (0 ≤ st 1 3 ∧ st 1 3 < 4) <|
  z_g (0 ≤ x2 ∧ x2 < 3) <|
  some ((st (3 + x1) x2) - (st (20 + (st 1 3)) x2))
set_option maxRecDepth 100000 in
set_option maxHeartbeats 4000000 in
theorem w_X1_clean {κ : zK} {a : Nat → Nat} {x1 x2 : Int} {st : z_St} {o : Int} (hc : z_C κ RX1 cX1_clean 3 8 0 0) (hap : z_AP κ a z_N) (he : z_E 0 κ (some .int) z_T z_N a o st) (h : J_X1_clean x1 x2 st = some o) : z_V κ z_T z_N a 0 0 0 [(0, .ref (a 1)), (1, .int (zI x1)), (2, .int (zI x2))] [] st := by
  unfold J_X1_clean at h
  refine z_aload_n (i := 0) 0 hc dX1_clean_0 rfl rfl ?_
  refine z_getA (k' := 2) hc fl_RX1_11 tT_1 (by decide) rfl rfl dX1_clean_1 ?_
  refine z_iload_n (i := 1) 1 hc dX1_clean_4 rfl rfl ?_
  refine z_aald (r := 3 + x1) (nI9 := 16) hc tT_2 (by decide) (by decide) rfl (by decide) (fun j9 hj9 => by omega) dX1_clean_5 h (fun g1 h => ?_)
  refine z_iload_n (i := 2) 2 hc dX1_clean_6 rfl rfl ?_
  refine z_iald (kI := 3 + x1) (nI9 := 3) hc (z_row_2 g1).2.2 (z_row_2 g1).2.1 (Int.toNat_of_nonneg (z_row_2 g1).1) rfl (by decide) dX1_clean_7 h (fun g2 h => ?_)
  refine z_aload_n (i := 0) 0 hc dX1_clean_8 rfl rfl ?_
  refine z_getA (k' := 19) hc fl_RX1_16 tT_1 (by decide) rfl rfl dX1_clean_9 ?_
  refine z_aload_n (i := 0) 0 hc dX1_clean_12 rfl rfl ?_
  refine z_getI (kI := 1) (jI := 3) hc fl_RX1_23 tT_1 (by decide) rfl rfl rfl dX1_clean_13 ?_
  refine z_aald (r := 20 + (st 1 3)) (nI9 := 4) hc tT_19 (by decide) (by decide) rfl (by decide) (fun j9 hj9 => by omega) dX1_clean_16 h (fun g3 h => ?_)
  refine z_iload_n (i := 2) 2 hc dX1_clean_17 rfl rfl ?_
  refine z_iald (kI := 20 + (st 1 3)) (nI9 := 3) hc (z_row_19 g3).2.2 (z_row_19 g3).2.1 (Int.toNat_of_nonneg (z_row_19 g3).1) rfl (by decide) dX1_clean_18 h (fun g4 h => ?_)
  refine z_isub hc dX1_clean_19 ?_
  have h := Option.some.inj h
  subst h
  exact z_retI hc he dX1_clean_20
set_option maxRecDepth 100000 in
set_option maxHeartbeats 4000000 in
theorem c_X1_clean {l : Launch} (hl : l.stackTraces = false) {a : Nat → Nat} {x1 x2 : Int} {st : z_St} {o : Int} (h : J_X1_clean x1 x2 st = some o) : z_M 0 l yX1_clean cX1_clean 3 (some .int) 8 z_T z_N a [.ref (a 1), .int (zI x1), .int (zI x2)] st o st := z_of hl (by decide +kernel) (Nat.le_of_ble_eq_true rfl) (fun κ hc hap he => w_X1_clean hc hap he h)
theorem dX9_liesAt_0 : decode cX9_liesAt 0 = .ok (.iload_n 2, 1) := by decide +kernel
theorem dX9_liesAt_1 : decode cX9_liesAt 1 = .ok (.ifCond .ne 12, 3) := by decide +kernel
theorem dX9_liesAt_4 : decode cX9_liesAt 4 = .ok (.aload_n 0, 1) := by decide +kernel
theorem dX9_liesAt_5 : decode cX9_liesAt 5 = .ok (.getfield 9, 3) := by decide +kernel
theorem dX9_liesAt_8 : decode cX9_liesAt 8 = .ok (.iload_n 1, 1) := by decide +kernel
theorem dX9_liesAt_9 : decode cX9_liesAt 9 = .ok (.iaload, 1) := by decide +kernel
theorem dX9_liesAt_10 : decode cX9_liesAt 10 = .ok (.goto 18, 3) := by decide +kernel
theorem dX9_liesAt_13 : decode cX9_liesAt 13 = .ok (.aload_n 0, 1) := by decide +kernel
theorem dX9_liesAt_14 : decode cX9_liesAt 14 = .ok (.getfield 9, 3) := by decide +kernel
theorem dX9_liesAt_17 : decode cX9_liesAt 17 = .ok (.iload_n 1, 1) := by decide +kernel
theorem dX9_liesAt_18 : decode cX9_liesAt 18 = .ok (.iaload, 1) := by decide +kernel
theorem dX9_liesAt_19 : decode cX9_liesAt 19 = .ok (.aload_n 0, 1) := by decide +kernel
theorem dX9_liesAt_20 : decode cX9_liesAt 20 = .ok (.getfield 25, 3) := by decide +kernel
theorem dX9_liesAt_23 : decode cX9_liesAt 23 = .ok (.iload_n 2, 1) := by decide +kernel
theorem dX9_liesAt_24 : decode cX9_liesAt 24 = .ok (.iconst 1, 1) := by decide +kernel
theorem dX9_liesAt_25 : decode cX9_liesAt 25 = .ok (.isub, 1) := by decide +kernel
theorem dX9_liesAt_26 : decode cX9_liesAt 26 = .ok (.iaload, 1) := by decide +kernel
theorem dX9_liesAt_27 : decode cX9_liesAt 27 = .ok (.iadd, 1) := by decide +kernel
theorem dX9_liesAt_28 : decode cX9_liesAt 28 = .ok (.ireturn, 1) := by decide +kernel
def J_X9_liesAt_28 (s0 : Int) (st : z_St) : Option (Int) :=
  some s0
set_option maxRecDepth 100000 in
set_option maxHeartbeats 4000000 in
theorem w_X9_liesAt_28 {κ : zK} {a : Nat → Nat} {s0 : Int} {st : z_St} {o : Int} (hc : z_C κ RX9 cX9_liesAt 3 8 0 0) (hap : z_AP κ a z_N) (he : z_E 0 κ (some .int) z_T z_N a o st) (h : J_X9_liesAt_28 s0 st = some o) : z_V κ z_T z_N a 0 0 28 [] [.int (zI s0)] st := by
  unfold J_X9_liesAt_28 at h
  have h := Option.some.inj h
  subst h
  exact z_retI hc he dX9_liesAt_28
def J_X9_liesAt (x0 x1 x2 : Int) (st : z_St) : Option (Int) :=
  z_g (z32 x2) (if x2 = 0 then
    z_g (0 ≤ x1 ∧ x1 < 3) <|
    J_X9_liesAt_28 (st (x0 + 1) x1) st
  else
    z_g (0 ≤ x1 ∧ x1 < 3) <|
    z_g (0 ≤ x2 - 1 ∧ x2 - 1 < 3) <|
    J_X9_liesAt_28 ((st (x0 + 1) x1) + (st (x0 + 4) (x2 - 1))) st)
set_option maxRecDepth 100000 in
set_option maxHeartbeats 4000000 in
theorem w_X9_liesAt {κ : zK} {a : Nat → Nat} {x0 x1 x2 : Int} {st : z_St} {o : Int} (hc : z_C κ RX9 cX9_liesAt 3 8 0 0) (hap : z_AP κ a z_N) (hx0 : z_isSound x0) (he : z_E 0 κ (some .int) z_T z_N a o st) (h : J_X9_liesAt x0 x1 x2 st = some o) : z_V κ z_T z_N a 0 0 0 [(0, .ref (a x0.toNat)), (1, .int (zI x1)), (2, .int (zI x2))] [] st := by
  unfold J_X9_liesAt at h
  refine z_iload_n (i := 2) 2 hc dX9_liesAt_0 rfl rfl ?_
  refine z_if_ne (tgt := 13) hc dX9_liesAt_1 (by decide) h (fun c1 h => ?_) (fun c1 h => ?_)
  · refine z_aload_n (i := 0) 0 hc dX9_liesAt_4 rfl rfl ?_
    refine z_getA (k' := (x0.toNat + 1)) hc fl_RX9_9 (z_Sound_T hx0) (z_Sound_lt hx0) rfl rfl dX9_liesAt_5 ?_
    refine z_iload_n (i := 1) 1 hc dX9_liesAt_8 rfl rfl ?_
    refine z_iald (kI := (x0 + 1)) (nI9 := 3) hc (z_Sound_T1 hx0) (z_Sound_lt1 hx0) (z_Sound_c1 hx0) rfl (by decide) dX9_liesAt_9 h (fun g1 h => ?_)
    refine z_goto (tgt := 28) hc dX9_liesAt_10 (by decide) ?_
    refine z_sub [] [] rfl ?_
    exact w_X9_liesAt_28 hc hap he h
  · refine z_aload_n (i := 0) 0 hc dX9_liesAt_13 rfl rfl ?_
    refine z_getA (k' := (x0.toNat + 1)) hc fl_RX9_9 (z_Sound_T hx0) (z_Sound_lt hx0) rfl rfl dX9_liesAt_14 ?_
    refine z_iload_n (i := 1) 1 hc dX9_liesAt_17 rfl rfl ?_
    refine z_iald (kI := (x0 + 1)) (nI9 := 3) hc (z_Sound_T1 hx0) (z_Sound_lt1 hx0) (z_Sound_c1 hx0) rfl (by decide) dX9_liesAt_18 h (fun g2 h => ?_)
    refine z_aload_n (i := 0) 0 hc dX9_liesAt_19 rfl rfl ?_
    refine z_getA (k' := (x0.toNat + 4)) hc fl_RX9_25 (z_Sound_T hx0) (z_Sound_lt hx0) rfl rfl dX9_liesAt_20 ?_
    refine z_iload_n (i := 2) 2 hc dX9_liesAt_23 rfl rfl ?_
    refine z_iconst hc dX9_liesAt_24 ?_
    refine z_isub hc dX9_liesAt_25 ?_
    refine z_iald (kI := (x0 + 4)) (nI9 := 3) hc (z_Sound_T4 hx0) (z_Sound_lt4 hx0) (z_Sound_c4 hx0) rfl (by decide) dX9_liesAt_26 h (fun g3 h => ?_)
    refine z_iadd hc dX9_liesAt_27 ?_
    refine z_sub [] [] rfl ?_
    exact w_X9_liesAt_28 hc hap he h
set_option maxRecDepth 100000 in
set_option maxHeartbeats 4000000 in
theorem c_X9_liesAt {l : Launch} (hl : l.stackTraces = false) {a : Nat → Nat} {x0 x1 x2 : Int} {st : z_St} {o : Int} (hx0 : z_isSound x0) (h : J_X9_liesAt x0 x1 x2 st = some o) : z_M 0 l yX9_liesAt cX9_liesAt 3 (some .int) 8 z_T z_N a [.ref (a x0.toNat), .int (zI x1), .int (zI x2)] st o st := z_of hl (by decide +kernel) (Nat.le_of_ble_eq_true rfl) (fun κ hc hap he => w_X9_liesAt hc hap hx0 he h)
theorem dX1_costBy_0 : decode cX1_costBy 0 = .ok (.lconst 0, 1) := by decide +kernel
theorem dX1_costBy_1 : decode cX1_costBy 1 = .ok (.lstore 4, 2) := by decide +kernel
theorem dX1_costBy_3 : decode cX1_costBy 3 = .ok (.iconst 0, 1) := by decide +kernel
theorem dX1_costBy_4 : decode cX1_costBy 4 = .ok (.istore 6, 2) := by decide +kernel
theorem dX1_costBy_6 : decode cX1_costBy 6 = .ok (.iload 6, 2) := by decide +kernel
theorem dX1_costBy_8 : decode cX1_costBy 8 = .ok (.iconst 3, 1) := by decide +kernel
theorem dX1_costBy_9 : decode cX1_costBy 9 = .ok (.if_icmp .ge 37, 3) := by decide +kernel
theorem dX1_costBy_12 : decode cX1_costBy 12 = .ok (.aload_n 0, 1) := by decide +kernel
theorem dX1_costBy_13 : decode cX1_costBy 13 = .ok (.iload_n 1, 1) := by decide +kernel
theorem dX1_costBy_14 : decode cX1_costBy 14 = .ok (.iload 6, 2) := by decide +kernel
theorem dX1_costBy_16 : decode cX1_costBy 16 = .ok (.invokevirtual 26, 3) := by decide +kernel
theorem dX1_costBy_19 : decode cX1_costBy 19 = .ok (.aload_n 2, 1) := by decide +kernel
theorem dX1_costBy_20 : decode cX1_costBy 20 = .ok (.iload 6, 2) := by decide +kernel
theorem dX1_costBy_22 : decode cX1_costBy 22 = .ok (.iload_n 3, 1) := by decide +kernel
theorem dX1_costBy_23 : decode cX1_costBy 23 = .ok (.invokevirtual 30, 3) := by decide +kernel
theorem dX1_costBy_26 : decode cX1_costBy 26 = .ok (.isub, 1) := by decide +kernel
theorem dX1_costBy_27 : decode cX1_costBy 27 = .ok (.i2l, 1) := by decide +kernel
theorem dX1_costBy_28 : decode cX1_costBy 28 = .ok (.lstore 7, 2) := by decide +kernel
theorem dX1_costBy_30 : decode cX1_costBy 30 = .ok (.lload 4, 2) := by decide +kernel
theorem dX1_costBy_32 : decode cX1_costBy 32 = .ok (.lload 7, 2) := by decide +kernel
theorem dX1_costBy_34 : decode cX1_costBy 34 = .ok (.lload 7, 2) := by decide +kernel
theorem dX1_costBy_36 : decode cX1_costBy 36 = .ok (.lmul, 1) := by decide +kernel
theorem dX1_costBy_37 : decode cX1_costBy 37 = .ok (.ladd, 1) := by decide +kernel
theorem dX1_costBy_38 : decode cX1_costBy 38 = .ok (.lstore 4, 2) := by decide +kernel
theorem dX1_costBy_40 : decode cX1_costBy 40 = .ok (.iinc 6 1, 3) := by decide +kernel
theorem dX1_costBy_43 : decode cX1_costBy 43 = .ok (.goto (-37), 3) := by decide +kernel
theorem dX1_costBy_46 : decode cX1_costBy 46 = .ok (.lload 4, 2) := by decide +kernel
theorem dX1_costBy_48 : decode cX1_costBy 48 = .ok (.aload_n 2, 1) := by decide +kernel
theorem dX1_costBy_49 : decode cX1_costBy 49 = .ok (.getfield 35, 3) := by decide +kernel
theorem dX1_costBy_52 : decode cX1_costBy 52 = .ok (.i2l, 1) := by decide +kernel
theorem dX1_costBy_53 : decode cX1_costBy 53 = .ok (.ldiv, 1) := by decide +kernel
theorem dX1_costBy_54 : decode cX1_costBy 54 = .ok (.lreturn, 1) := by decide +kernel
def J_X1_costBy_b6 (v1 v2 v3 v4 v6 : Int) (st : z_St) : Option ((Int × Int) ⊕ Int) :=
  z_g (z32 v6 ∧ z32 3) (if v6 < 3 then
    z_b (J_X1_clean v1 v6 st) fun r1 =>
    z_b (J_X9_liesAt v2 v6 v3 st) fun r3 =>
    z_g (z32 (r1 - r3)) <|
    some (.inl (v4 + ((r1 - r3) * (r1 - r3)), v6 + 1))
  else
    some (.inr v4))
set_option maxRecDepth 100000 in
set_option maxHeartbeats 4000000 in
theorem w_X1_costBy_b6 {κ : zK} {a : Nat → Nat} {v1 v2 v3 v4 v6 : Int} {st : z_St} {mc9 ms9 : Nat} {o : (Int × Int) ⊕ Int} (hc : z_C κ RX1 cX1_costBy 9 9 mc9 ms9) (hap : z_AP κ a z_N) (hv2 : z_isSound v2) (k1 : ∀ s9 : (Int × Int), o = .inl s9 → z_V κ z_T z_N a 0 0 6 [(0, .ref (a 1)), (1, .int (zI v1)), (2, .ref (a v2.toNat)), (3, .int (zI v3)), (4, .long (zJ s9.1)), (6, .int (zI s9.2))] [] st) (k2 : ∀ x9 : Int, o = .inr x9 → z_V κ z_T z_N a 0 0 46 [(2, .ref (a v2.toNat)), (4, .long (zJ x9))] [] st) (h : J_X1_costBy_b6 v1 v2 v3 v4 v6 st = some o) : z_V κ z_T z_N a 0 0 6 [(0, .ref (a 1)), (1, .int (zI v1)), (2, .ref (a v2.toNat)), (3, .int (zI v3)), (4, .long (zJ v4)), (6, .int (zI v6))] [] st := by
  unfold J_X1_costBy_b6 at h
  refine z_iload 5 hc dX1_costBy_6 rfl ?_
  refine z_iconst hc dX1_costBy_8 ?_
  refine z_icmp_ge (tgt := 46) hc dX1_costBy_9 (by decide) h (fun c9 h => ?_) (fun c9 h => ?_)
  · refine z_aload_n (i := 0) 0 hc dX1_costBy_12 rfl rfl ?_
    refine z_iload_n (i := 1) 1 hc dX1_costBy_13 rfl rfl ?_
    refine z_iload 5 hc dX1_costBy_14 rfl ?_
    obtain ⟨r1, hr1, h⟩ := z_b_some h
    refine z_callVI [.int (zI v1), .int (zI v6)] hc hap o_X1_clean ml_RX1_26 (fun l hl => c_X1_clean hl  hr1) (by decide) tT_1 (by decide) ⟨_, rfl, rfl⟩ rfl rfl (Nat.le_of_ble_eq_true rfl) (Nat.zero_le _) (Nat.zero_le _) dX1_costBy_16 ?_
    refine z_aload_n (i := 2) 2 hc dX1_costBy_19 rfl rfl ?_
    refine z_iload 5 hc dX1_costBy_20 rfl ?_
    refine z_iload_n (i := 3) 3 hc dX1_costBy_22 rfl rfl ?_
    obtain ⟨r3, hr3, h⟩ := z_b_some h
    refine z_callVI [.int (zI v6), .int (zI v3)] hc hap o_X9_liesAt ml_RX1_30 (fun l hl => c_X9_liesAt hl hv2 hr3) (by decide) (z_Sound_T hv2) (z_Sound_lt hv2) ⟨_, rfl, rfl⟩ rfl rfl (Nat.le_of_ble_eq_true rfl) (Nat.zero_le _) (Nat.zero_le _) dX1_costBy_23 ?_
    refine z_isub hc dX1_costBy_26 ?_
    refine z_i2l hc dX1_costBy_27 h (fun h => ?_)
    refine z_lstore [(7, .long (zJ (r1 - r3))), (0, .ref (a 1)), (1, .int (zI v1)), (2, .ref (a v2.toNat)), (3, .int (zI v3)), (4, .long (zJ v4)), (6, .int (zI v6))] hc dX1_costBy_28 (by decide) rfl ?_
    refine z_lload 5 hc dX1_costBy_30 rfl ?_
    refine z_lload 0 hc dX1_costBy_32 rfl ?_
    refine z_lload 0 hc dX1_costBy_34 rfl ?_
    refine z_lmul hc dX1_costBy_36 ?_
    refine z_ladd hc dX1_costBy_37 ?_
    refine z_lstore [(4, .long (zJ (v4 + ((r1 - r3) * (r1 - r3))))), (7, .long (zJ (r1 - r3))), (0, .ref (a 1)), (1, .int (zI v1)), (2, .ref (a v2.toNat)), (3, .int (zI v3)), (6, .int (zI v6))] hc dX1_costBy_38 (by decide) rfl ?_
    refine z_iinc [(6, .int (zI (v6 + 1))), (4, .long (zJ (v4 + ((r1 - r3) * (r1 - r3))))), (7, .long (zJ (r1 - r3))), (0, .ref (a 1)), (1, .int (zI v1)), (2, .ref (a v2.toNat)), (3, .int (zI v3))] 6 hc dX1_costBy_40 rfl (by decide) rfl ?_
    refine z_goto (tgt := 6) hc dX1_costBy_43 (by decide) ?_
    refine z_sub [(0, .ref (a 1)), (1, .int (zI v1)), (2, .ref (a v2.toNat)), (3, .int (zI v3)), (4, .long (zJ (v4 + ((r1 - r3) * (r1 - r3))))), (6, .int (zI (v6 + 1)))] [3, 4, 5, 6, 1, 0] rfl ?_
    exact k1 _ (Option.some.inj h).symm
  · refine z_sub [(2, .ref (a v2.toNat)), (4, .long (zJ v4))] [2, 4] rfl ?_
    exact k2 v4 (Option.some.inj h).symm
def J_X1_costBy (x1 x2 x3 : Int) (st : z_St) : Option (Int) :=
  z_b (z_iter z_F (fun q9 : (Int × Int) => J_X1_costBy_b6 x1 x2 x3 q9.1 q9.2 st) (0, 0)) fun lx5 =>
    z_g (z32 (st x2 1)) <|
    z_g (z64 lx5 ∧ z64 (st x2 1) ∧ (st x2 1 : Int) ≠ 0) <|
    some (lx5.tdiv (st x2 1))
set_option maxRecDepth 100000 in
set_option maxHeartbeats 4000000 in
theorem w_X1_costBy {κ : zK} {a : Nat → Nat} {x1 x2 x3 : Int} {st : z_St} {o : Int} (hc : z_C κ RX1 cX1_costBy 9 9 0 0) (hap : z_AP κ a z_N) (hx2 : z_isSound x2) (he : z_E 1 κ (some .long) z_T z_N a o st) (h : J_X1_costBy x1 x2 x3 st = some o) : z_V κ z_T z_N a 0 0 0 [(0, .ref (a 1)), (1, .int (zI x1)), (2, .ref (a x2.toNat)), (3, .int (zI x3))] [] st := by
  unfold J_X1_costBy at h
  refine z_lconst 0 hc dX1_costBy_0 rfl ?_
  refine z_lstore [(4, .long (zJ 0)), (0, .ref (a 1)), (1, .int (zI x1)), (2, .ref (a x2.toNat)), (3, .int (zI x3))] hc dX1_costBy_1 (by decide) rfl ?_
  refine z_iconst hc dX1_costBy_3 ?_
  refine z_istore [(6, .int (zI 0)), (4, .long (zJ 0)), (0, .ref (a 1)), (1, .int (zI x1)), (2, .ref (a x2.toNat)), (3, .int (zI x3))] hc dX1_costBy_4 (by decide) rfl ?_
  obtain ⟨lx5, hlx5, h⟩ := z_b_some h
  refine z_sub [(0, .ref (a 1)), (1, .int (zI x1)), (2, .ref (a x2.toNat)), (3, .int (zI x3)), (4, .long (zJ 0)), (6, .int (zI 0))] [2, 3, 4, 5, 1, 0] rfl ?_
  refine z_loop (fun q9 : (Int × Int) => J_X1_costBy_b6 x1 x2 x3 q9.1 q9.2 st) (fun q9 : (Int × Int) => z_V κ z_T z_N a 0 0 6 [(0, .ref (a 1)), (1, .int (zI x1)), (2, .ref (a x2.toNat)), (3, .int (zI x3)), (4, .long (zJ q9.1)), (6, .int (zI q9.2))] [] st) (fun x9 : Int => z_V κ z_T z_N a 0 0 46 [(2, .ref (a x2.toNat)), (4, .long (zJ x9))] [] st) (fun q9 o9 hb k1 k2 => ?_) _ _ _ hlx5 ?_
  · exact w_X1_costBy_b6 hc hap hx2 k1 k2 hb
  · show z_V κ z_T z_N a 0 0 46 [(2, .ref (a x2.toNat)), (4, .long (zJ lx5))] [] st
    refine z_lload 1 hc dX1_costBy_46 rfl ?_
    refine z_aload_n (i := 2) 0 hc dX1_costBy_48 rfl rfl ?_
    refine z_getI (kI := x2) (jI := 1) hc fl_RX1_35 (z_Sound_T hx2) (z_Sound_lt hx2) (z_Sound_c hx2) rfl rfl dX1_costBy_49 ?_
    refine z_i2l hc dX1_costBy_52 h (fun h => ?_)
    refine z_ldiv hc dX1_costBy_53 h (fun h => ?_)
    have h := Option.some.inj h
    subst h
    exact z_retJ hc he dX1_costBy_54
set_option maxRecDepth 100000 in
set_option maxHeartbeats 4000000 in
theorem c_X1_costBy {l : Launch} (hl : l.stackTraces = false) {a : Nat → Nat} {x1 x2 x3 : Int} {st : z_St} {o : Int} (hx2 : z_isSound x2) (h : J_X1_costBy x1 x2 x3 st = some o) : z_M 1 l yX1_costBy cX1_costBy 9 (some .long) 9 z_T z_N a [.ref (a 1), .int (zI x1), .ref (a x2.toNat), .int (zI x3)] st o st := z_of hl (by decide +kernel) (Nat.le_of_ble_eq_true rfl) (fun κ hc hap he => w_X1_costBy hc hap hx2 he h)
theorem dX0_fillNear_0 : decode cX0_fillNear 0 = .ok (.iconst 0, 1) := by decide +kernel
theorem dX0_fillNear_1 : decode cX0_fillNear 1 = .ok (.istore 4, 2) := by decide +kernel
theorem dX0_fillNear_3 : decode cX0_fillNear 3 = .ok (.iload 4, 2) := by decide +kernel
theorem dX0_fillNear_5 : decode cX0_fillNear 5 = .ok (.aload_n 2, 1) := by decide +kernel
theorem dX0_fillNear_6 : decode cX0_fillNear 6 = .ok (.getfield 81, 3) := by decide +kernel
theorem dX0_fillNear_9 : decode cX0_fillNear 9 = .ok (.if_icmp .gt 50, 3) := by decide +kernel
theorem dX0_fillNear_12 : decode cX0_fillNear 12 = .ok (.iconst 0, 1) := by decide +kernel
theorem dX0_fillNear_13 : decode cX0_fillNear 13 = .ok (.istore 5, 2) := by decide +kernel
theorem dX0_fillNear_15 : decode cX0_fillNear 15 = .ok (.iload 5, 2) := by decide +kernel
theorem dX0_fillNear_17 : decode cX0_fillNear 17 = .ok (.aload_n 3, 1) := by decide +kernel
theorem dX0_fillNear_18 : decode cX0_fillNear 18 = .ok (.getfield 63, 3) := by decide +kernel
theorem dX0_fillNear_21 : decode cX0_fillNear 21 = .ok (.if_icmp .ge 32, 3) := by decide +kernel
theorem dX0_fillNear_24 : decode cX0_fillNear 24 = .ok (.aload_n 0, 1) := by decide +kernel
theorem dX0_fillNear_25 : decode cX0_fillNear 25 = .ok (.getfield 11, 3) := by decide +kernel
theorem dX0_fillNear_28 : decode cX0_fillNear 28 = .ok (.iload_n 1, 1) := by decide +kernel
theorem dX0_fillNear_29 : decode cX0_fillNear 29 = .ok (.iconst 4, 1) := by decide +kernel
theorem dX0_fillNear_30 : decode cX0_fillNear 30 = .ok (.imul, 1) := by decide +kernel
theorem dX0_fillNear_31 : decode cX0_fillNear 31 = .ok (.iload 4, 2) := by decide +kernel
theorem dX0_fillNear_33 : decode cX0_fillNear 33 = .ok (.iadd, 1) := by decide +kernel
theorem dX0_fillNear_34 : decode cX0_fillNear 34 = .ok (.aaload, 1) := by decide +kernel
theorem dX0_fillNear_35 : decode cX0_fillNear 35 = .ok (.iload 5, 2) := by decide +kernel
theorem dX0_fillNear_37 : decode cX0_fillNear 37 = .ok (.aload_n 3, 1) := by decide +kernel
theorem dX0_fillNear_38 : decode cX0_fillNear 38 = .ok (.iload 5, 2) := by decide +kernel
theorem dX0_fillNear_40 : decode cX0_fillNear 40 = .ok (.aload_n 2, 1) := by decide +kernel
theorem dX0_fillNear_41 : decode cX0_fillNear 41 = .ok (.iload 4, 2) := by decide +kernel
theorem dX0_fillNear_43 : decode cX0_fillNear 43 = .ok (.invokevirtual 86, 3) := by decide +kernel
theorem dX0_fillNear_46 : decode cX0_fillNear 46 = .ok (.lastore, 1) := by decide +kernel
theorem dX0_fillNear_47 : decode cX0_fillNear 47 = .ok (.iinc 5 1, 3) := by decide +kernel
theorem dX0_fillNear_50 : decode cX0_fillNear 50 = .ok (.goto (-35), 3) := by decide +kernel
theorem dX0_fillNear_53 : decode cX0_fillNear 53 = .ok (.iinc 4 1, 3) := by decide +kernel
theorem dX0_fillNear_56 : decode cX0_fillNear 56 = .ok (.goto (-53), 3) := by decide +kernel
theorem dX0_fillNear_59 : decode cX0_fillNear 59 = .ok (.return_, 1) := by decide +kernel
def J_X0_fillNear_b15 (v1 v2 v4 v5 : Int) (st : z_St) : Option ((Int × z_St) ⊕ z_St) :=
  z_g (z32 v5 ∧ z32 (st 1 2)) (if v5 < st 1 2 then
    z_g (0 ≤ (v1 * 4) + v4 ∧ (v1 * 4) + v4 < 24) <|
    z_b (J_X1_costBy v5 v2 v4 st) fun r2 =>
    z_g (0 ≤ v5 ∧ v5 < 16) <|
    z_let (z_up st (101 + ((v1 * 4) + v4)) v5 r2) fun st4 =>
    some (.inl (v5 + 1, st4))
  else
    some (.inr st))
set_option maxRecDepth 100000 in
set_option maxHeartbeats 4000000 in
theorem w_X0_fillNear_b15 {κ : zK} {a : Nat → Nat} {v1 v2 v4 v5 : Int} {st : z_St} {mc9 ms9 : Nat} {o : (Int × z_St) ⊕ z_St} (hc : z_C κ RX0 cX0_fillNear 6 10 mc9 ms9) (hap : z_AP κ a z_N) (hv2 : z_isSound v2) (k1 : ∀ s9 : (Int × z_St), o = .inl s9 → z_V κ z_T z_N a 0 0 15 [(0, .ref (a 99)), (1, .int (zI v1)), (2, .ref (a v2.toNat)), (3, .ref (a 1)), (4, .int (zI v4)), (5, .int (zI s9.1))] [] s9.2) (k2 : ∀ x9 : z_St, o = .inr x9 → z_V κ z_T z_N a 0 0 53 [(0, .ref (a 99)), (1, .int (zI v1)), (2, .ref (a v2.toNat)), (3, .ref (a 1)), (4, .int (zI v4))] [] x9) (h : J_X0_fillNear_b15 v1 v2 v4 v5 st = some o) : z_V κ z_T z_N a 0 0 15 [(0, .ref (a 99)), (1, .int (zI v1)), (2, .ref (a v2.toNat)), (3, .ref (a 1)), (4, .int (zI v4)), (5, .int (zI v5))] [] st := by
  unfold J_X0_fillNear_b15 at h
  refine z_iload 5 hc dX0_fillNear_15 rfl ?_
  refine z_aload_n (i := 3) 3 hc dX0_fillNear_17 rfl rfl ?_
  refine z_getI (kI := 1) (jI := 2) hc fl_RX0_63 tT_1 (by decide) rfl rfl rfl dX0_fillNear_18 ?_
  refine z_icmp_ge (tgt := 53) hc dX0_fillNear_21 (by decide) h (fun c21 h => ?_) (fun c21 h => ?_)
  · refine z_aload_n (i := 0) 0 hc dX0_fillNear_24 rfl rfl ?_
    refine z_getA (k' := 100) hc fl_RX0_11 tT_99 (by decide) rfl rfl dX0_fillNear_25 ?_
    refine z_iload_n (i := 1) 1 hc dX0_fillNear_28 rfl rfl ?_
    refine z_iconst hc dX0_fillNear_29 ?_
    refine z_imul hc dX0_fillNear_30 ?_
    refine z_iload 4 hc dX0_fillNear_31 rfl ?_
    refine z_iadd hc dX0_fillNear_33 ?_
    refine z_aald (r := 101 + ((v1 * 4) + v4)) (nI9 := 24) hc tT_100 (by decide) (by decide) rfl (by decide) (fun j9 hj9 => by omega) dX0_fillNear_34 h (fun g1 h => ?_)
    refine z_iload 5 hc dX0_fillNear_35 rfl ?_
    refine z_aload_n (i := 3) 3 hc dX0_fillNear_37 rfl rfl ?_
    refine z_iload 5 hc dX0_fillNear_38 rfl ?_
    refine z_aload_n (i := 2) 2 hc dX0_fillNear_40 rfl rfl ?_
    refine z_iload 4 hc dX0_fillNear_41 rfl ?_
    obtain ⟨r2, hr2, h⟩ := z_b_some h
    refine z_callVJ [.int (zI v5), .ref (a v2.toNat), .int (zI v4)] hc hap o_X1_costBy ml_RX0_86 (fun l hl => c_X1_costBy hl hv2 hr2) (by decide) tT_1 (by decide) ⟨_, rfl, rfl⟩ rfl rfl (Nat.le_of_ble_eq_true rfl) (Nat.zero_le _) (Nat.zero_le _) dX0_fillNear_43 ?_
    refine z_last (kI := 101 + ((v1 * 4) + v4)) (nI9 := 16) hc hap (z_row_100 g1).2.2 (z_row_100 g1).2.1 (Int.toNat_of_nonneg (z_row_100 g1).1) rfl (by decide) dX0_fillNear_46 h (fun st4 h => ?_)
    refine z_iinc [(5, .int (zI (v5 + 1))), (0, .ref (a 99)), (1, .int (zI v1)), (2, .ref (a v2.toNat)), (3, .ref (a 1)), (4, .int (zI v4))] 5 hc dX0_fillNear_47 rfl (by decide) rfl ?_
    refine z_goto (tgt := 15) hc dX0_fillNear_50 (by decide) ?_
    refine z_sub [(0, .ref (a 99)), (1, .int (zI v1)), (2, .ref (a v2.toNat)), (3, .ref (a 1)), (4, .int (zI v4)), (5, .int (zI (v5 + 1)))] [1, 2, 3, 4, 5, 0] rfl ?_
    exact k1 _ (Option.some.inj h).symm
  · refine z_sub [(0, .ref (a 99)), (1, .int (zI v1)), (2, .ref (a v2.toNat)), (3, .ref (a 1)), (4, .int (zI v4))] [0, 1, 2, 3, 4] rfl ?_
    exact k2 st (Option.some.inj h).symm
def J_X0_fillNear_b3 (v1 v2 v4 : Int) (st : z_St) : Option ((Int × z_St) ⊕ z_St) :=
  z_g (z32 v4 ∧ z32 (st v2 5)) (if st v2 5 < v4 then
    some (.inr st)
  else
    z_b (z_iter z_F (fun q9 : (Int × z_St) => J_X0_fillNear_b15 v1 v2 v4 q9.1 q9.2) (0, st)) fun lx5 =>
      some (.inl (v4 + 1, lx5)))
set_option maxRecDepth 100000 in
set_option maxHeartbeats 4000000 in
theorem w_X0_fillNear_b3 {κ : zK} {a : Nat → Nat} {v1 v2 v4 : Int} {st : z_St} {mc9 ms9 : Nat} {o : (Int × z_St) ⊕ z_St} (hc : z_C κ RX0 cX0_fillNear 6 10 mc9 ms9) (hap : z_AP κ a z_N) (hv2 : z_isSound v2) (k1 : ∀ s9 : (Int × z_St), o = .inl s9 → z_V κ z_T z_N a 0 0 3 [(0, .ref (a 99)), (1, .int (zI v1)), (2, .ref (a v2.toNat)), (3, .ref (a 1)), (4, .int (zI s9.1))] [] s9.2) (k2 : ∀ x9 : z_St, o = .inr x9 → z_V κ z_T z_N a 0 0 59 [] [] x9) (h : J_X0_fillNear_b3 v1 v2 v4 st = some o) : z_V κ z_T z_N a 0 0 3 [(0, .ref (a 99)), (1, .int (zI v1)), (2, .ref (a v2.toNat)), (3, .ref (a 1)), (4, .int (zI v4))] [] st := by
  unfold J_X0_fillNear_b3 at h
  refine z_iload 4 hc dX0_fillNear_3 rfl ?_
  refine z_aload_n (i := 2) 2 hc dX0_fillNear_5 rfl rfl ?_
  refine z_getI (kI := v2) (jI := 5) hc fl_RX0_81 (z_Sound_T hv2) (z_Sound_lt hv2) (z_Sound_c hv2) rfl rfl dX0_fillNear_6 ?_
  refine z_icmp_gt (tgt := 59) hc dX0_fillNear_9 (by decide) h (fun c9 h => ?_) (fun c9 h => ?_)
  · refine z_sub [] [] rfl ?_
    exact k2 st (Option.some.inj h).symm
  · refine z_iconst hc dX0_fillNear_12 ?_
    refine z_istore [(5, .int (zI 0)), (0, .ref (a 99)), (1, .int (zI v1)), (2, .ref (a v2.toNat)), (3, .ref (a 1)), (4, .int (zI v4))] hc dX0_fillNear_13 (by decide) rfl ?_
    obtain ⟨lx5, hlx5, h⟩ := z_b_some h
    refine z_sub [(0, .ref (a 99)), (1, .int (zI v1)), (2, .ref (a v2.toNat)), (3, .ref (a 1)), (4, .int (zI v4)), (5, .int (zI 0))] [1, 2, 3, 4, 5, 0] rfl ?_
    refine z_loop (fun q9 : (Int × z_St) => J_X0_fillNear_b15 v1 v2 v4 q9.1 q9.2) (fun q9 : (Int × z_St) => z_V κ z_T z_N a 0 0 15 [(0, .ref (a 99)), (1, .int (zI v1)), (2, .ref (a v2.toNat)), (3, .ref (a 1)), (4, .int (zI v4)), (5, .int (zI q9.1))] [] q9.2) (fun x9 : z_St => z_V κ z_T z_N a 0 0 53 [(0, .ref (a 99)), (1, .int (zI v1)), (2, .ref (a v2.toNat)), (3, .ref (a 1)), (4, .int (zI v4))] [] x9) (fun q9 o9 hb k1 k2 => ?_) _ _ _ hlx5 ?_
    · exact w_X0_fillNear_b15 hc hap hv2 k1 k2 hb
    · show z_V κ z_T z_N a 0 0 53 [(0, .ref (a 99)), (1, .int (zI v1)), (2, .ref (a v2.toNat)), (3, .ref (a 1)), (4, .int (zI v4))] [] lx5
      refine z_iinc [(4, .int (zI (v4 + 1))), (0, .ref (a 99)), (1, .int (zI v1)), (2, .ref (a v2.toNat)), (3, .ref (a 1))] 4 hc dX0_fillNear_53 rfl (by decide) rfl ?_
      refine z_goto (tgt := 3) hc dX0_fillNear_56 (by decide) ?_
      refine z_sub [(0, .ref (a 99)), (1, .int (zI v1)), (2, .ref (a v2.toNat)), (3, .ref (a 1)), (4, .int (zI (v4 + 1)))] [1, 2, 3, 4, 0] rfl ?_
      exact k1 _ (Option.some.inj h).symm
def J_X0_fillNear (x1 x2 : Int) (st : z_St) : Option (z_St) :=
  z_b (z_iter z_F (fun q9 : (Int × z_St) => J_X0_fillNear_b3 x1 x2 q9.1 q9.2) (0, st)) fun lx6 =>
    some lx6
set_option maxRecDepth 100000 in
set_option maxHeartbeats 4000000 in
theorem w_X0_fillNear {κ : zK} {a : Nat → Nat} {x1 x2 : Int} {st : z_St} {o : z_St} (hc : z_C κ RX0 cX0_fillNear 6 10 0 0) (hap : z_AP κ a z_N) (hx2 : z_isSound x2) (he : z_E 2 κ none z_T z_N a 0 o) (h : J_X0_fillNear x1 x2 st = some o) : z_V κ z_T z_N a 0 0 0 [(0, .ref (a 99)), (1, .int (zI x1)), (2, .ref (a x2.toNat)), (3, .ref (a 1))] [] st := by
  unfold J_X0_fillNear at h
  refine z_iconst hc dX0_fillNear_0 ?_
  refine z_istore [(4, .int (zI 0)), (0, .ref (a 99)), (1, .int (zI x1)), (2, .ref (a x2.toNat)), (3, .ref (a 1))] hc dX0_fillNear_1 (by decide) rfl ?_
  obtain ⟨lx6, hlx6, h⟩ := z_b_some h
  refine z_sub [(0, .ref (a 99)), (1, .int (zI x1)), (2, .ref (a x2.toNat)), (3, .ref (a 1)), (4, .int (zI 0))] [1, 2, 3, 4, 0] rfl ?_
  refine z_loop (fun q9 : (Int × z_St) => J_X0_fillNear_b3 x1 x2 q9.1 q9.2) (fun q9 : (Int × z_St) => z_V κ z_T z_N a 0 0 3 [(0, .ref (a 99)), (1, .int (zI x1)), (2, .ref (a x2.toNat)), (3, .ref (a 1)), (4, .int (zI q9.1))] [] q9.2) (fun x9 : z_St => z_V κ z_T z_N a 0 0 59 [] [] x9) (fun q9 o9 hb k1 k2 => ?_) _ _ _ hlx6 ?_
  · exact w_X0_fillNear_b3 hc hap hx2 k1 k2 hb
  · show z_V κ z_T z_N a 0 0 59 [] [] lx6
    have h := Option.some.inj h
    subst h
    exact z_retV hc he dX0_fillNear_59
set_option maxRecDepth 100000 in
set_option maxHeartbeats 4000000 in
theorem c_X0_fillNear {l : Launch} (hl : l.stackTraces = false) {a : Nat → Nat} {x1 x2 : Int} {st : z_St} {o : z_St} (hx2 : z_isSound x2) (h : J_X0_fillNear x1 x2 st = some o) : z_M 2 l yX0_fillNear cX0_fillNear 6 none 10 z_T z_N a [.ref (a 99), .int (zI x1), .ref (a x2.toNat), .ref (a 1)] st 0 o := z_of hl (by decide +kernel) (Nat.le_of_ble_eq_true rfl) (fun κ hc hap he => w_X0_fillNear hc hap hx2 he h)
theorem dJ7_fill_d0a16_0 : decode cJ7_fill_d0a16 0 = .ok (.iconst 0, 1) := by decide +kernel
theorem dJ7_fill_d0a16_1 : decode cJ7_fill_d0a16 1 = .ok (.istore_n 3, 1) := by decide +kernel
theorem dJ7_fill_d0a16_2 : decode cJ7_fill_d0a16 2 = .ok (.aload_n 0, 1) := by decide +kernel
theorem dJ7_fill_d0a16_3 : decode cJ7_fill_d0a16 3 = .ok (.arraylength, 1) := by decide +kernel
theorem dJ7_fill_d0a16_4 : decode cJ7_fill_d0a16 4 = .ok (.istore 4, 2) := by decide +kernel
theorem dJ7_fill_d0a16_6 : decode cJ7_fill_d0a16 6 = .ok (.iload_n 3, 1) := by decide +kernel
theorem dJ7_fill_d0a16_7 : decode cJ7_fill_d0a16 7 = .ok (.iload 4, 2) := by decide +kernel
theorem dJ7_fill_d0a16_9 : decode cJ7_fill_d0a16 9 = .ok (.if_icmp .ge 13, 3) := by decide +kernel
theorem dJ7_fill_d0a16_12 : decode cJ7_fill_d0a16 12 = .ok (.aload_n 0, 1) := by decide +kernel
theorem dJ7_fill_d0a16_13 : decode cJ7_fill_d0a16 13 = .ok (.iload_n 3, 1) := by decide +kernel
theorem dJ7_fill_d0a16_14 : decode cJ7_fill_d0a16 14 = .ok (.lload_n 1, 1) := by decide +kernel
theorem dJ7_fill_d0a16_15 : decode cJ7_fill_d0a16 15 = .ok (.lastore, 1) := by decide +kernel
theorem dJ7_fill_d0a16_16 : decode cJ7_fill_d0a16 16 = .ok (.iinc 3 1, 3) := by decide +kernel
theorem dJ7_fill_d0a16_19 : decode cJ7_fill_d0a16 19 = .ok (.goto (-13), 3) := by decide +kernel
theorem dJ7_fill_d0a16_22 : decode cJ7_fill_d0a16 22 = .ok (.return_, 1) := by decide +kernel
def J_J7_fill_d0a16_b6 (nn : Nat) (v0 v1 v4 v3 : Int) (st : z_St) : Option ((Int × z_St) ⊕ z_St) :=
  z_g (z32 v3 ∧ z32 v4) (if v3 < v4 then
    z_g (0 ≤ v3 ∧ v3 < (nn : Int)) <|
    z_let (z_up st v0 v3 v1) fun st1 =>
    some (.inl (v3 + 1, st1))
  else
    some (.inr st))
set_option maxRecDepth 100000 in
set_option maxHeartbeats 4000000 in
theorem w_J7_fill_d0a16_b6 {κ : zK} {a : Nat → Nat} {nn : Nat} {v0 v1 v3 v4 : Int} {st : z_St} {mc9 ms9 : Nat} {o : (Int × z_St) ⊕ z_St} (hc : z_C κ RJ7 cJ7_fill_d0a16 5 8 mc9 ms9) (hap : z_AP κ a z_N) (hnn : nn < 2147483648) (hv0 : z_isArr v0 1 1 nn) (k1 : ∀ s9 : (Int × z_St), o = .inl s9 → z_V κ z_T z_N a 0 0 6 [(0, .ref (a v0.toNat)), (1, .long (zJ v1)), (3, .int (zI s9.1)), (4, .int (zI v4))] [] s9.2) (k2 : ∀ x9 : z_St, o = .inr x9 → z_V κ z_T z_N a 0 0 22 [] [] x9) (h : J_J7_fill_d0a16_b6 nn v0 v1 v4 v3 st = some o) : z_V κ z_T z_N a 0 0 6 [(0, .ref (a v0.toNat)), (1, .long (zJ v1)), (3, .int (zI v3)), (4, .int (zI v4))] [] st := by
  unfold J_J7_fill_d0a16_b6 at h
  refine z_iload_n (i := 3) 2 hc dJ7_fill_d0a16_6 rfl rfl ?_
  refine z_iload 3 hc dJ7_fill_d0a16_7 rfl ?_
  refine z_icmp_ge (tgt := 22) hc dJ7_fill_d0a16_9 (by decide) h (fun c9 h => ?_) (fun c9 h => ?_)
  · refine z_aload_n (i := 0) 0 hc dJ7_fill_d0a16_12 rfl rfl ?_
    refine z_iload_n (i := 3) 2 hc dJ7_fill_d0a16_13 rfl rfl ?_
    refine z_lload_n (i := 1) 1 hc dJ7_fill_d0a16_14 rfl rfl ?_
    refine z_last (kI := v0) (nI9 := (nn : Int)) hc hap hv0.2.2 hv0.2.1 (Int.toNat_of_nonneg hv0.1) rfl hnn dJ7_fill_d0a16_15 h (fun st1 h => ?_)
    refine z_iinc [(3, .int (zI (v3 + 1))), (0, .ref (a v0.toNat)), (1, .long (zJ v1)), (4, .int (zI v4))] 2 hc dJ7_fill_d0a16_16 rfl (by decide) rfl ?_
    refine z_goto (tgt := 6) hc dJ7_fill_d0a16_19 (by decide) ?_
    refine z_sub [(0, .ref (a v0.toNat)), (1, .long (zJ v1)), (3, .int (zI (v3 + 1))), (4, .int (zI v4))] [1, 2, 0, 3] rfl ?_
    exact k1 _ (Option.some.inj h).symm
  · refine z_sub [] [] rfl ?_
    exact k2 st (Option.some.inj h).symm
def J_J7_fill_d0a16 (nn : Nat) (x0 x1 : Int) (st : z_St) : Option (z_St) :=
  z_b (z_iter z_F (fun q9 : (Int × z_St) => J_J7_fill_d0a16_b6 nn x0 x1 (nn : Int) q9.1 q9.2) (0, st)) fun lx2 =>
    some lx2
set_option maxRecDepth 100000 in
set_option maxHeartbeats 4000000 in
theorem w_J7_fill_d0a16 {κ : zK} {a : Nat → Nat} {nn : Nat} {x0 x1 : Int} {st : z_St} {o : z_St} (hc : z_C κ RJ7 cJ7_fill_d0a16 5 8 0 0) (hap : z_AP κ a z_N) (hnn : nn < 2147483648) (hx0 : z_isArr x0 1 1 nn) (he : z_E 2 κ none z_T z_N a 0 o) (h : J_J7_fill_d0a16 nn x0 x1 st = some o) : z_V κ z_T z_N a 0 0 0 [(0, .ref (a x0.toNat)), (1, .long (zJ x1))] [] st := by
  unfold J_J7_fill_d0a16 at h
  refine z_iconst hc dJ7_fill_d0a16_0 ?_
  refine z_istore_n (i := 3) [(3, .int (zI 0)), (0, .ref (a x0.toNat)), (1, .long (zJ x1))] hc dJ7_fill_d0a16_1 rfl (by decide) rfl ?_
  refine z_aload_n (i := 0) 1 hc dJ7_fill_d0a16_2 rfl rfl ?_
  refine z_alen (q := (1, 1, nn, 0, 0)) hc hx0.2.2 hx0.2.1 ⟨rfl, rfl⟩ rfl dJ7_fill_d0a16_3 ?_
  refine z_istore [(4, .int (zI (nn : Int))), (3, .int (zI 0)), (0, .ref (a x0.toNat)), (1, .long (zJ x1))] hc dJ7_fill_d0a16_4 (by decide) rfl ?_
  obtain ⟨lx2, hlx2, h⟩ := z_b_some h
  refine z_sub [(0, .ref (a x0.toNat)), (1, .long (zJ x1)), (3, .int (zI 0)), (4, .int (zI (nn : Int)))] [2, 3, 1, 0] rfl ?_
  refine z_loop (fun q9 : (Int × z_St) => J_J7_fill_d0a16_b6 nn x0 x1 (nn : Int) q9.1 q9.2) (fun q9 : (Int × z_St) => z_V κ z_T z_N a 0 0 6 [(0, .ref (a x0.toNat)), (1, .long (zJ x1)), (3, .int (zI q9.1)), (4, .int (zI (nn : Int)))] [] q9.2) (fun x9 : z_St => z_V κ z_T z_N a 0 0 22 [] [] x9) (fun q9 o9 hb k1 k2 => ?_) _ _ _ hlx2 ?_
  · exact w_J7_fill_d0a16_b6 hc hap hnn hx0 k1 k2 hb
  · show z_V κ z_T z_N a 0 0 22 [] [] lx2
    have h := Option.some.inj h
    subst h
    exact z_retV hc he dJ7_fill_d0a16_22
set_option maxRecDepth 100000 in
set_option maxHeartbeats 4000000 in
theorem c_J7_fill_d0a16 {l : Launch} (hl : l.stackTraces = false) {a : Nat → Nat} {nn : Nat} {x0 x1 : Int} {st : z_St} {o : z_St} (hnn : nn < 2147483648) (hx0 : z_isArr x0 1 1 nn) (h : J_J7_fill_d0a16 nn x0 x1 st = some o) : z_M 2 l yJ7_fill_d0a16 cJ7_fill_d0a16 5 none 8 z_T z_N a [.ref (a x0.toNat), .long (zJ x1)] st 0 o := z_of hl (by decide +kernel) (Nat.le_of_ble_eq_true rfl) (fun κ hc hap he => w_J7_fill_d0a16 hc hap hnn hx0 he h)
theorem dX4_sayingOf_0 : decode cX4_sayingOf 0 = .ok (.aload_n 0, 1) := by decide +kernel
theorem dX4_sayingOf_1 : decode cX4_sayingOf 1 = .ok (.getfield 23, 3) := by decide +kernel
theorem dX4_sayingOf_4 : decode cX4_sayingOf 4 = .ok (.iload_n 1, 1) := by decide +kernel
theorem dX4_sayingOf_5 : decode cX4_sayingOf 5 = .ok (.iconst 2, 1) := by decide +kernel
theorem dX4_sayingOf_6 : decode cX4_sayingOf 6 = .ok (.imul, 1) := by decide +kernel
theorem dX4_sayingOf_7 : decode cX4_sayingOf 7 = .ok (.iload_n 2, 1) := by decide +kernel
theorem dX4_sayingOf_8 : decode cX4_sayingOf 8 = .ok (.iadd, 1) := by decide +kernel
theorem dX4_sayingOf_9 : decode cX4_sayingOf 9 = .ok (.aaload, 1) := by decide +kernel
theorem dX4_sayingOf_10 : decode cX4_sayingOf 10 = .ok (.areturn, 1) := by decide +kernel
def J_X4_sayingOf (x1 x2 : Int) (st : z_St) : Option (Int) :=
  z_g (0 ≤ (x1 * 2) + x2 ∧ (x1 * 2) + x2 < 10) <|
  some (59 + 3 * ((x1 * 2) + x2))
set_option maxRecDepth 100000 in
set_option maxHeartbeats 4000000 in
theorem w_X4_sayingOf {κ : zK} {a : Nat → Nat} {x1 x2 : Int} {st : z_St} {o : Int} (hc : z_C κ RX4 cX4_sayingOf 3 8 0 0) (hap : z_AP κ a z_N) (he : z_E 3 κ (some (.object "Latticehear$Saying")) z_T z_N a o st) (h : J_X4_sayingOf x1 x2 st = some o) : z_V κ z_T z_N a 0 0 0 [(0, .ref (a 24)), (1, .int (zI x1)), (2, .int (zI x2))] [] st := by
  unfold J_X4_sayingOf at h
  refine z_aload_n (i := 0) 0 hc dX4_sayingOf_0 rfl rfl ?_
  refine z_getA (k' := 26) hc fl_RX4_23 tT_24 (by decide) rfl rfl dX4_sayingOf_1 ?_
  refine z_iload_n (i := 1) 1 hc dX4_sayingOf_4 rfl rfl ?_
  refine z_iconst hc dX4_sayingOf_5 ?_
  refine z_imul hc dX4_sayingOf_6 ?_
  refine z_iload_n (i := 2) 2 hc dX4_sayingOf_7 rfl rfl ?_
  refine z_iadd hc dX4_sayingOf_8 ?_
  refine z_aald (r := 59 + 3 * ((x1 * 2) + x2)) (nI9 := 10) hc tT_26 (by decide) (by decide) rfl (by decide) (fun j9 hj9 => by omega) dX4_sayingOf_9 h (fun g1 h => ?_)
  have h := Option.some.inj h
  subst h
  exact z_retA hc he rfl dX4_sayingOf_10
set_option maxRecDepth 100000 in
set_option maxHeartbeats 4000000 in
theorem c_X4_sayingOf {l : Launch} (hl : l.stackTraces = false) {a : Nat → Nat} {x1 x2 : Int} {st : z_St} {o : Int} (h : J_X4_sayingOf x1 x2 st = some o) : z_M 3 l yX4_sayingOf cX4_sayingOf 3 (some (.object "Latticehear$Saying")) 8 z_T z_N a [.ref (a 24), .int (zI x1), .int (zI x2)] st o st := z_of hl (by decide +kernel) (Nat.le_of_ble_eq_true rfl) (fun κ hc hap he => w_X4_sayingOf hc hap he h)
theorem dX7_soundAt_0 : decode cX7_soundAt 0 = .ok (.iload_n 1, 1) := by decide +kernel
theorem dX7_soundAt_1 : decode cX7_soundAt 1 = .ok (.ifCond .lt 11, 3) := by decide +kernel
theorem dX7_soundAt_4 : decode cX7_soundAt 4 = .ok (.iload_n 1, 1) := by decide +kernel
theorem dX7_soundAt_5 : decode cX7_soundAt 5 = .ok (.aload_n 0, 1) := by decide +kernel
theorem dX7_soundAt_6 : decode cX7_soundAt 6 = .ok (.getfield 18, 3) := by decide +kernel
theorem dX7_soundAt_9 : decode cX7_soundAt 9 = .ok (.if_icmp .lt 7, 3) := by decide +kernel
theorem dX7_soundAt_12 : decode cX7_soundAt 12 = .ok (.iconst (-1), 1) := by decide +kernel
theorem dX7_soundAt_13 : decode cX7_soundAt 13 = .ok (.goto 9, 3) := by decide +kernel
theorem dX7_soundAt_16 : decode cX7_soundAt 16 = .ok (.aload_n 0, 1) := by decide +kernel
theorem dX7_soundAt_17 : decode cX7_soundAt 17 = .ok (.getfield 9, 3) := by decide +kernel
theorem dX7_soundAt_20 : decode cX7_soundAt 20 = .ok (.iload_n 1, 1) := by decide +kernel
theorem dX7_soundAt_21 : decode cX7_soundAt 21 = .ok (.iaload, 1) := by decide +kernel
theorem dX7_soundAt_22 : decode cX7_soundAt 22 = .ok (.ireturn, 1) := by decide +kernel
def J_X7_soundAt_22 (s0 : Int) (st : z_St) : Option (Int) :=
  some s0
set_option maxRecDepth 100000 in
set_option maxHeartbeats 4000000 in
theorem w_X7_soundAt_22 {κ : zK} {a : Nat → Nat} {s0 : Int} {st : z_St} {o : Int} (hc : z_C κ RX7 cX7_soundAt 2 8 0 0) (hap : z_AP κ a z_N) (he : z_E 0 κ (some .int) z_T z_N a o st) (h : J_X7_soundAt_22 s0 st = some o) : z_V κ z_T z_N a 0 0 22 [] [.int (zI s0)] st := by
  unfold J_X7_soundAt_22 at h
  have h := Option.some.inj h
  subst h
  exact z_retI hc he dX7_soundAt_22
def J_X7_soundAt_12 (st : z_St) : Option (Int) :=
  J_X7_soundAt_22 (-1) st
set_option maxRecDepth 100000 in
set_option maxHeartbeats 4000000 in
theorem w_X7_soundAt_12 {κ : zK} {a : Nat → Nat} {st : z_St} {o : Int} (hc : z_C κ RX7 cX7_soundAt 2 8 0 0) (hap : z_AP κ a z_N) (he : z_E 0 κ (some .int) z_T z_N a o st) (h : J_X7_soundAt_12 st = some o) : z_V κ z_T z_N a 0 0 12 [] [] st := by
  unfold J_X7_soundAt_12 at h
  refine z_iconst hc dX7_soundAt_12 ?_
  refine z_goto (tgt := 22) hc dX7_soundAt_13 (by decide) ?_
  refine z_sub [] [] rfl ?_
  exact w_X7_soundAt_22 hc hap he h
def J_X7_soundAt (x0 x1 : Int) (st : z_St) : Option (Int) :=
  z_g (z32 x1) (if x1 < 0 then
    J_X7_soundAt_12 st
  else
    z_g (z32 x1 ∧ z32 (st x0 2)) (if x1 < st x0 2 then
      z_g (0 ≤ x1 ∧ x1 < 4) <|
      J_X7_soundAt_22 (st (x0 + 1) x1) st
    else
      J_X7_soundAt_12 st))
set_option maxRecDepth 100000 in
set_option maxHeartbeats 4000000 in
theorem w_X7_soundAt {κ : zK} {a : Nat → Nat} {x0 x1 : Int} {st : z_St} {o : Int} (hc : z_C κ RX7 cX7_soundAt 2 8 0 0) (hap : z_AP κ a z_N) (hx0 : z_isSaying x0) (he : z_E 0 κ (some .int) z_T z_N a o st) (h : J_X7_soundAt x0 x1 st = some o) : z_V κ z_T z_N a 0 0 0 [(0, .ref (a x0.toNat)), (1, .int (zI x1))] [] st := by
  unfold J_X7_soundAt at h
  refine z_iload_n (i := 1) 1 hc dX7_soundAt_0 rfl rfl ?_
  refine z_if_lt (tgt := 12) hc dX7_soundAt_1 (by decide) h (fun c1 h => ?_) (fun c1 h => ?_)
  · refine z_sub [] [] rfl ?_
    exact w_X7_soundAt_12 hc hap he h
  · refine z_iload_n (i := 1) 1 hc dX7_soundAt_4 rfl rfl ?_
    refine z_aload_n (i := 0) 0 hc dX7_soundAt_5 rfl rfl ?_
    refine z_getI (kI := x0) (jI := 2) hc fl_RX7_18 (z_Saying_T hx0) (z_Saying_lt hx0) (z_Saying_c hx0) rfl rfl dX7_soundAt_6 ?_
    refine z_icmp_lt (tgt := 16) hc dX7_soundAt_9 (by decide) h (fun c9 h => ?_) (fun c9 h => ?_)
    · refine z_aload_n (i := 0) 0 hc dX7_soundAt_16 rfl rfl ?_
      refine z_getA (k' := (x0.toNat + 1)) hc fl_RX7_9 (z_Saying_T hx0) (z_Saying_lt hx0) rfl rfl dX7_soundAt_17 ?_
      refine z_iload_n (i := 1) 1 hc dX7_soundAt_20 rfl rfl ?_
      refine z_iald (kI := (x0 + 1)) (nI9 := 4) hc (z_Saying_T1 hx0) (z_Saying_lt1 hx0) (z_Saying_c1 hx0) rfl (by decide) dX7_soundAt_21 h (fun g1 h => ?_)
      refine z_sub [] [] rfl ?_
      exact w_X7_soundAt_22 hc hap he h
    · refine z_sub [] [] rfl ?_
      exact w_X7_soundAt_12 hc hap he h
set_option maxRecDepth 100000 in
set_option maxHeartbeats 4000000 in
theorem c_X7_soundAt {l : Launch} (hl : l.stackTraces = false) {a : Nat → Nat} {x0 x1 : Int} {st : z_St} {o : Int} (hx0 : z_isSaying x0) (h : J_X7_soundAt x0 x1 st = some o) : z_M 0 l yX7_soundAt cX7_soundAt 2 (some .int) 8 z_T z_N a [.ref (a x0.toNat), .int (zI x1)] st o st := z_of hl (by decide +kernel) (Nat.le_of_ble_eq_true rfl) (fun κ hc hap he => w_X7_soundAt hc hap hx0 he h)
theorem dX9_formBetween_0 : decode cX9_formBetween 0 = .ok (.iconst 0, 1) := by decide +kernel
theorem dX9_formBetween_1 : decode cX9_formBetween 1 = .ok (.istore_n 3, 1) := by decide +kernel
theorem dX9_formBetween_2 : decode cX9_formBetween 2 = .ok (.iload_n 3, 1) := by decide +kernel
theorem dX9_formBetween_3 : decode cX9_formBetween 3 = .ok (.aload_n 0, 1) := by decide +kernel
theorem dX9_formBetween_4 : decode cX9_formBetween 4 = .ok (.getfield 28, 3) := by decide +kernel
theorem dX9_formBetween_7 : decode cX9_formBetween 7 = .ok (.if_icmp .ge 50, 3) := by decide +kernel
theorem dX9_formBetween_10 : decode cX9_formBetween 10 = .ok (.aload_n 0, 1) := by decide +kernel
theorem dX9_formBetween_11 : decode cX9_formBetween 11 = .ok (.getfield 19, 3) := by decide +kernel
theorem dX9_formBetween_14 : decode cX9_formBetween 14 = .ok (.iload_n 3, 1) := by decide +kernel
theorem dX9_formBetween_15 : decode cX9_formBetween 15 = .ok (.iaload, 1) := by decide +kernel
theorem dX9_formBetween_16 : decode cX9_formBetween 16 = .ok (.ifCond .ne 7, 3) := by decide +kernel
theorem dX9_formBetween_19 : decode cX9_formBetween 19 = .ok (.iload_n 1, 1) := by decide +kernel
theorem dX9_formBetween_20 : decode cX9_formBetween 20 = .ok (.goto 4, 3) := by decide +kernel
theorem dX9_formBetween_23 : decode cX9_formBetween 23 = .ok (.iload_n 2, 1) := by decide +kernel
theorem dX9_formBetween_24 : decode cX9_formBetween 24 = .ok (.istore 4, 2) := by decide +kernel
theorem dX9_formBetween_26 : decode cX9_formBetween 26 = .ok (.iload 4, 2) := by decide +kernel
theorem dX9_formBetween_28 : decode cX9_formBetween 28 = .ok (.iconst (-1), 1) := by decide +kernel
theorem dX9_formBetween_29 : decode cX9_formBetween 29 = .ok (.if_icmp .eq 22, 3) := by decide +kernel
theorem dX9_formBetween_32 : decode cX9_formBetween 32 = .ok (.aload_n 0, 1) := by decide +kernel
theorem dX9_formBetween_33 : decode cX9_formBetween 33 = .ok (.getfield 22, 3) := by decide +kernel
theorem dX9_formBetween_36 : decode cX9_formBetween 36 = .ok (.iload_n 3, 1) := by decide +kernel
theorem dX9_formBetween_37 : decode cX9_formBetween 37 = .ok (.iaload, 1) := by decide +kernel
theorem dX9_formBetween_38 : decode cX9_formBetween 38 = .ok (.iload 4, 2) := by decide +kernel
theorem dX9_formBetween_40 : decode cX9_formBetween 40 = .ok (.ishr, 1) := by decide +kernel
theorem dX9_formBetween_41 : decode cX9_formBetween 41 = .ok (.iconst 1, 1) := by decide +kernel
theorem dX9_formBetween_42 : decode cX9_formBetween 42 = .ok (.iand, 1) := by decide +kernel
theorem dX9_formBetween_43 : decode cX9_formBetween 43 = .ok (.iconst 1, 1) := by decide +kernel
theorem dX9_formBetween_44 : decode cX9_formBetween 44 = .ok (.if_icmp .ne 7, 3) := by decide +kernel
theorem dX9_formBetween_47 : decode cX9_formBetween 47 = .ok (.iload_n 3, 1) := by decide +kernel
theorem dX9_formBetween_48 : decode cX9_formBetween 48 = .ok (.iconst 1, 1) := by decide +kernel
theorem dX9_formBetween_49 : decode cX9_formBetween 49 = .ok (.iadd, 1) := by decide +kernel
theorem dX9_formBetween_50 : decode cX9_formBetween 50 = .ok (.ireturn, 1) := by decide +kernel
theorem dX9_formBetween_51 : decode cX9_formBetween 51 = .ok (.iinc 3 1, 3) := by decide +kernel
theorem dX9_formBetween_54 : decode cX9_formBetween 54 = .ok (.goto (-52), 3) := by decide +kernel
theorem dX9_formBetween_57 : decode cX9_formBetween 57 = .ok (.iconst 0, 1) := by decide +kernel
theorem dX9_formBetween_58 : decode cX9_formBetween 58 = .ok (.ireturn, 1) := by decide +kernel
def J_X9_formBetween_51 (v0 v1 v2 v3 : Int) (st : z_St) : Option (Int ⊕ (Unit ⊕ Int)) :=
  some (.inl (v3 + 1))
set_option maxRecDepth 100000 in
set_option maxHeartbeats 4000000 in
theorem w_X9_formBetween_51 {κ : zK} {a : Nat → Nat} {v0 v1 v2 v3 : Int} {st : z_St} {mc9 ms9 : Nat} {o : Int ⊕ (Unit ⊕ Int)} (hc : z_C κ RX9 cX9_formBetween 5 8 mc9 ms9) (hap : z_AP κ a z_N) (hv0 : z_isSound v0) (k1 : ∀ s9 : Int, o = .inl s9 → z_V κ z_T z_N a 0 0 2 [(0, .ref (a v0.toNat)), (1, .int (zI v1)), (2, .int (zI v2)), (3, .int (zI s9))] [] st) (k2 : ∀ x9 : (Unit ⊕ Int), o = .inr x9 → (match x9 with | .inl y9 => z_V κ z_T z_N a 0 0 57 [] [] st | .inr y9 => z_V κ z_T z_N a 0 0 47 [(3, .int (zI y9))] [] st)) (h : J_X9_formBetween_51 v0 v1 v2 v3 st = some o) : z_V κ z_T z_N a 0 0 51 [(0, .ref (a v0.toNat)), (1, .int (zI v1)), (2, .int (zI v2)), (3, .int (zI v3))] [] st := by
  unfold J_X9_formBetween_51 at h
  refine z_iinc [(3, .int (zI (v3 + 1))), (0, .ref (a v0.toNat)), (1, .int (zI v1)), (2, .int (zI v2))] 3 hc dX9_formBetween_51 rfl (by decide) rfl ?_
  refine z_goto (tgt := 2) hc dX9_formBetween_54 (by decide) ?_
  refine z_sub [(0, .ref (a v0.toNat)), (1, .int (zI v1)), (2, .int (zI v2)), (3, .int (zI (v3 + 1)))] [1, 2, 3, 0] rfl ?_
  exact k1 _ (Option.some.inj h).symm
def J_X9_formBetween_24 (v0 v1 v2 v3 s0 : Int) (st : z_St) : Option (Int ⊕ (Unit ⊕ Int)) :=
  z_g (z32 s0 ∧ z32 (-1)) (if s0 = (-1) then
    J_X9_formBetween_51 v0 v1 v2 v3 st
  else
    z_g (0 ≤ v3 ∧ v3 < 3) <|
    z_g (z32 (z_iand (z_ishr (st (v0 + 3) v3) s0) 1) ∧ z32 1) (if z_iand (z_ishr (st (v0 + 3) v3) s0) 1 = 1 then
      some (.inr (.inr v3))
    else
      J_X9_formBetween_51 v0 v1 v2 v3 st))
set_option maxRecDepth 100000 in
set_option maxHeartbeats 4000000 in
theorem w_X9_formBetween_24 {κ : zK} {a : Nat → Nat} {v0 v1 v2 v3 s0 : Int} {st : z_St} {mc9 ms9 : Nat} {o : Int ⊕ (Unit ⊕ Int)} (hc : z_C κ RX9 cX9_formBetween 5 8 mc9 ms9) (hap : z_AP κ a z_N) (hv0 : z_isSound v0) (k1 : ∀ s9 : Int, o = .inl s9 → z_V κ z_T z_N a 0 0 2 [(0, .ref (a v0.toNat)), (1, .int (zI v1)), (2, .int (zI v2)), (3, .int (zI s9))] [] st) (k2 : ∀ x9 : (Unit ⊕ Int), o = .inr x9 → (match x9 with | .inl y9 => z_V κ z_T z_N a 0 0 57 [] [] st | .inr y9 => z_V κ z_T z_N a 0 0 47 [(3, .int (zI y9))] [] st)) (h : J_X9_formBetween_24 v0 v1 v2 v3 s0 st = some o) : z_V κ z_T z_N a 0 0 24 [(0, .ref (a v0.toNat)), (1, .int (zI v1)), (2, .int (zI v2)), (3, .int (zI v3))] [.int (zI s0)] st := by
  unfold J_X9_formBetween_24 at h
  refine z_istore [(4, .int (zI s0)), (0, .ref (a v0.toNat)), (1, .int (zI v1)), (2, .int (zI v2)), (3, .int (zI v3))] hc dX9_formBetween_24 (by decide) rfl ?_
  refine z_iload 0 hc dX9_formBetween_26 rfl ?_
  refine z_iconst hc dX9_formBetween_28 ?_
  refine z_icmp_eq (tgt := 51) hc dX9_formBetween_29 (by decide) h (fun c29 h => ?_) (fun c29 h => ?_)
  · refine z_sub [(0, .ref (a v0.toNat)), (1, .int (zI v1)), (2, .int (zI v2)), (3, .int (zI v3))] [1, 2, 3, 4] rfl ?_
    exact w_X9_formBetween_51 hc hap hv0 k1 k2 h
  · refine z_aload_n (i := 0) 1 hc dX9_formBetween_32 rfl rfl ?_
    refine z_getA (k' := (v0.toNat + 3)) hc fl_RX9_22 (z_Sound_T hv0) (z_Sound_lt hv0) rfl rfl dX9_formBetween_33 ?_
    refine z_iload_n (i := 3) 4 hc dX9_formBetween_36 rfl rfl ?_
    refine z_iald (kI := (v0 + 3)) (nI9 := 3) hc (z_Sound_T3 hv0) (z_Sound_lt3 hv0) (z_Sound_c3 hv0) rfl (by decide) dX9_formBetween_37 h (fun g2 h => ?_)
    refine z_iload 0 hc dX9_formBetween_38 rfl ?_
    refine z_ishr_r hc dX9_formBetween_40 ?_
    refine z_iconst hc dX9_formBetween_41 ?_
    refine z_iand_r hc dX9_formBetween_42 ?_
    refine z_iconst hc dX9_formBetween_43 ?_
    refine z_icmp_ne (tgt := 51) hc dX9_formBetween_44 (by decide) h (fun c44 h => ?_) (fun c44 h => ?_)
    · refine z_sub [(3, .int (zI v3))] [4] rfl ?_
      exact k2 (.inr v3) (Option.some.inj h).symm
    · refine z_sub [(0, .ref (a v0.toNat)), (1, .int (zI v1)), (2, .int (zI v2)), (3, .int (zI v3))] [1, 2, 3, 4] rfl ?_
      exact w_X9_formBetween_51 hc hap hv0 k1 k2 h
def J_X9_formBetween_b2 (v0 v1 v2 v3 : Int) (st : z_St) : Option (Int ⊕ (Unit ⊕ Int)) :=
  z_g (z32 v3 ∧ z32 (st v0 5)) (if v3 < st v0 5 then
    z_g (0 ≤ v3 ∧ v3 < 3) <|
    z_g (z32 (st (v0 + 2) v3)) (if st (v0 + 2) v3 = 0 then
      J_X9_formBetween_24 v0 v1 v2 v3 v1 st
    else
      J_X9_formBetween_24 v0 v1 v2 v3 v2 st)
  else
    some (.inr (.inl ())))
set_option maxRecDepth 100000 in
set_option maxHeartbeats 4000000 in
theorem w_X9_formBetween_b2 {κ : zK} {a : Nat → Nat} {v0 v1 v2 v3 : Int} {st : z_St} {mc9 ms9 : Nat} {o : Int ⊕ (Unit ⊕ Int)} (hc : z_C κ RX9 cX9_formBetween 5 8 mc9 ms9) (hap : z_AP κ a z_N) (hv0 : z_isSound v0) (k1 : ∀ s9 : Int, o = .inl s9 → z_V κ z_T z_N a 0 0 2 [(0, .ref (a v0.toNat)), (1, .int (zI v1)), (2, .int (zI v2)), (3, .int (zI s9))] [] st) (k2 : ∀ x9 : (Unit ⊕ Int), o = .inr x9 → (match x9 with | .inl y9 => z_V κ z_T z_N a 0 0 57 [] [] st | .inr y9 => z_V κ z_T z_N a 0 0 47 [(3, .int (zI y9))] [] st)) (h : J_X9_formBetween_b2 v0 v1 v2 v3 st = some o) : z_V κ z_T z_N a 0 0 2 [(0, .ref (a v0.toNat)), (1, .int (zI v1)), (2, .int (zI v2)), (3, .int (zI v3))] [] st := by
  unfold J_X9_formBetween_b2 at h
  refine z_iload_n (i := 3) 3 hc dX9_formBetween_2 rfl rfl ?_
  refine z_aload_n (i := 0) 0 hc dX9_formBetween_3 rfl rfl ?_
  refine z_getI (kI := v0) (jI := 5) hc fl_RX9_28 (z_Sound_T hv0) (z_Sound_lt hv0) (z_Sound_c hv0) rfl rfl dX9_formBetween_4 ?_
  refine z_icmp_ge (tgt := 57) hc dX9_formBetween_7 (by decide) h (fun c7 h => ?_) (fun c7 h => ?_)
  · refine z_aload_n (i := 0) 0 hc dX9_formBetween_10 rfl rfl ?_
    refine z_getA (k' := (v0.toNat + 2)) hc fl_RX9_19 (z_Sound_T hv0) (z_Sound_lt hv0) rfl rfl dX9_formBetween_11 ?_
    refine z_iload_n (i := 3) 3 hc dX9_formBetween_14 rfl rfl ?_
    refine z_iald (kI := (v0 + 2)) (nI9 := 3) hc (z_Sound_T2 hv0) (z_Sound_lt2 hv0) (z_Sound_c2 hv0) rfl (by decide) dX9_formBetween_15 h (fun g1 h => ?_)
    refine z_if_ne (tgt := 23) hc dX9_formBetween_16 (by decide) h (fun c16 h => ?_) (fun c16 h => ?_)
    · refine z_iload_n (i := 1) 1 hc dX9_formBetween_19 rfl rfl ?_
      refine z_goto (tgt := 24) hc dX9_formBetween_20 (by decide) ?_
      refine z_sub [(0, .ref (a v0.toNat)), (1, .int (zI v1)), (2, .int (zI v2)), (3, .int (zI v3))] [0, 1, 2, 3] rfl ?_
      exact w_X9_formBetween_24 hc hap hv0 k1 k2 h
    · refine z_iload_n (i := 2) 2 hc dX9_formBetween_23 rfl rfl ?_
      refine z_sub [(0, .ref (a v0.toNat)), (1, .int (zI v1)), (2, .int (zI v2)), (3, .int (zI v3))] [0, 1, 2, 3] rfl ?_
      exact w_X9_formBetween_24 hc hap hv0 k1 k2 h
  · refine z_sub [] [] rfl ?_
    exact k2 (.inl ()) (Option.some.inj h).symm
def J_X9_formBetween (x0 x1 x2 : Int) (st : z_St) : Option (Int) :=
  z_b (z_iter z_F (fun q9 : Int => J_X9_formBetween_b2 x0 x1 x2 q9 st) 0) fun lx3 => match lx3 with
  | .inl y4 =>
    some 0
  | .inr y5 =>
    some (y5 + 1)
set_option maxRecDepth 100000 in
set_option maxHeartbeats 4000000 in
theorem w_X9_formBetween {κ : zK} {a : Nat → Nat} {x0 x1 x2 : Int} {st : z_St} {o : Int} (hc : z_C κ RX9 cX9_formBetween 5 8 0 0) (hap : z_AP κ a z_N) (hx0 : z_isSound x0) (he : z_E 0 κ (some .int) z_T z_N a o st) (h : J_X9_formBetween x0 x1 x2 st = some o) : z_V κ z_T z_N a 0 0 0 [(0, .ref (a x0.toNat)), (1, .int (zI x1)), (2, .int (zI x2))] [] st := by
  unfold J_X9_formBetween at h
  refine z_iconst hc dX9_formBetween_0 ?_
  refine z_istore_n (i := 3) [(3, .int (zI 0)), (0, .ref (a x0.toNat)), (1, .int (zI x1)), (2, .int (zI x2))] hc dX9_formBetween_1 rfl (by decide) rfl ?_
  obtain ⟨lx3, hlx3, h⟩ := z_b_some h
  refine z_sub [(0, .ref (a x0.toNat)), (1, .int (zI x1)), (2, .int (zI x2)), (3, .int (zI 0))] [1, 2, 3, 0] rfl ?_
  refine z_loop (fun q9 : Int => J_X9_formBetween_b2 x0 x1 x2 q9 st) (fun q9 : Int => z_V κ z_T z_N a 0 0 2 [(0, .ref (a x0.toNat)), (1, .int (zI x1)), (2, .int (zI x2)), (3, .int (zI q9))] [] st) (fun x9 : (Unit ⊕ Int) => (match x9 with | .inl y9 => z_V κ z_T z_N a 0 0 57 [] [] st | .inr y9 => z_V κ z_T z_N a 0 0 47 [(3, .int (zI y9))] [] st)) (fun q9 o9 hb k1 k2 => ?_) _ _ _ hlx3 ?_
  · exact w_X9_formBetween_b2 hc hap hx0 k1 k2 hb
  · rcases lx3 with y4 | y5
    · show z_V κ z_T z_N a 0 0 57 [] [] st
      dsimp only at h
      refine z_iconst hc dX9_formBetween_57 ?_
      have h := Option.some.inj h
      subst h
      exact z_retI hc he dX9_formBetween_58
    · show z_V κ z_T z_N a 0 0 47 [(3, .int (zI y5))] [] st
      dsimp only at h
      refine z_iload_n (i := 3) 0 hc dX9_formBetween_47 rfl rfl ?_
      refine z_iconst hc dX9_formBetween_48 ?_
      refine z_iadd hc dX9_formBetween_49 ?_
      have h := Option.some.inj h
      subst h
      exact z_retI hc he dX9_formBetween_50
set_option maxRecDepth 100000 in
set_option maxHeartbeats 4000000 in
theorem c_X9_formBetween {l : Launch} (hl : l.stackTraces = false) {a : Nat → Nat} {x0 x1 x2 : Int} {st : z_St} {o : Int} (hx0 : z_isSound x0) (h : J_X9_formBetween x0 x1 x2 st = some o) : z_M 0 l yX9_formBetween cX9_formBetween 5 (some .int) 8 z_T z_N a [.ref (a x0.toNat), .int (zI x1), .int (zI x2)] st o st := z_of hl (by decide +kernel) (Nat.le_of_ble_eq_true rfl) (fun κ hc hap he => w_X9_formBetween hc hap hx0 he h)
theorem dX4_formAt_0 : decode cX4_formAt 0 = .ok (.aload_n 0, 1) := by decide +kernel
theorem dX4_formAt_1 : decode cX4_formAt 1 = .ok (.getfield 11, 3) := by decide +kernel
theorem dX4_formAt_4 : decode cX4_formAt 4 = .ok (.aload_n 1, 1) := by decide +kernel
theorem dX4_formAt_5 : decode cX4_formAt 5 = .ok (.getfield 46, 3) := by decide +kernel
theorem dX4_formAt_8 : decode cX4_formAt 8 = .ok (.iload_n 2, 1) := by decide +kernel
theorem dX4_formAt_9 : decode cX4_formAt 9 = .ok (.iaload, 1) := by decide +kernel
theorem dX4_formAt_10 : decode cX4_formAt 10 = .ok (.aaload, 1) := by decide +kernel
theorem dX4_formAt_11 : decode cX4_formAt 11 = .ok (.astore_n 3, 1) := by decide +kernel
theorem dX4_formAt_12 : decode cX4_formAt 12 = .ok (.aload_n 3, 1) := by decide +kernel
theorem dX4_formAt_13 : decode cX4_formAt 13 = .ok (.aload_n 1, 1) := by decide +kernel
theorem dX4_formAt_14 : decode cX4_formAt 14 = .ok (.iload_n 2, 1) := by decide +kernel
theorem dX4_formAt_15 : decode cX4_formAt 15 = .ok (.iconst 1, 1) := by decide +kernel
theorem dX4_formAt_16 : decode cX4_formAt 16 = .ok (.isub, 1) := by decide +kernel
theorem dX4_formAt_17 : decode cX4_formAt 17 = .ok (.invokevirtual 60, 3) := by decide +kernel
theorem dX4_formAt_20 : decode cX4_formAt 20 = .ok (.aload_n 1, 1) := by decide +kernel
theorem dX4_formAt_21 : decode cX4_formAt 21 = .ok (.iload_n 2, 1) := by decide +kernel
theorem dX4_formAt_22 : decode cX4_formAt 22 = .ok (.iconst 1, 1) := by decide +kernel
theorem dX4_formAt_23 : decode cX4_formAt 23 = .ok (.iadd, 1) := by decide +kernel
theorem dX4_formAt_24 : decode cX4_formAt 24 = .ok (.invokevirtual 60, 3) := by decide +kernel
theorem dX4_formAt_27 : decode cX4_formAt 27 = .ok (.invokevirtual 64, 3) := by decide +kernel
theorem dX4_formAt_30 : decode cX4_formAt 30 = .ok (.ireturn, 1) := by decide +kernel
def J_X4_formAt (x1 x2 : Int) (st : z_St) : Option (Int) :=
  z_g (0 ≤ x2 ∧ x2 < 4) <|
  z_g (0 ≤ st (x1 + 1) x2 ∧ st (x1 + 1) x2 < 6) <|
  z_b (J_X7_soundAt x1 (x2 - 1) st) fun r3 =>
  z_b (J_X7_soundAt x1 (x2 + 1) st) fun r5 =>
  z_b (J_X9_formBetween (29 + 5 * (st (x1 + 1) x2)) r3 r5 st) fun r7 =>
  some r7
set_option maxRecDepth 100000 in
set_option maxHeartbeats 4000000 in
theorem w_X4_formAt {κ : zK} {a : Nat → Nat} {x1 x2 : Int} {st : z_St} {o : Int} (hc : z_C κ RX4 cX4_formAt 4 9 0 0) (hap : z_AP κ a z_N) (hx1 : z_isSaying x1) (he : z_E 0 κ (some .int) z_T z_N a o st) (h : J_X4_formAt x1 x2 st = some o) : z_V κ z_T z_N a 0 0 0 [(0, .ref (a 24)), (1, .ref (a x1.toNat)), (2, .int (zI x2))] [] st := by
  unfold J_X4_formAt at h
  refine z_aload_n (i := 0) 0 hc dX4_formAt_0 rfl rfl ?_
  refine z_getA (k' := 25) hc fl_RX4_11 tT_24 (by decide) rfl rfl dX4_formAt_1 ?_
  refine z_aload_n (i := 1) 1 hc dX4_formAt_4 rfl rfl ?_
  refine z_getA (k' := (x1.toNat + 1)) hc fl_RX4_46 (z_Saying_T hx1) (z_Saying_lt hx1) rfl rfl dX4_formAt_5 ?_
  refine z_iload_n (i := 2) 2 hc dX4_formAt_8 rfl rfl ?_
  refine z_iald (kI := (x1 + 1)) (nI9 := 4) hc (z_Saying_T1 hx1) (z_Saying_lt1 hx1) (z_Saying_c1 hx1) rfl (by decide) dX4_formAt_9 h (fun g1 h => ?_)
  refine z_aald (r := 29 + 5 * (st (x1 + 1) x2)) (nI9 := 6) hc tT_25 (by decide) (by decide) rfl (by decide) (fun j9 hj9 => by omega) dX4_formAt_10 h (fun g2 h => ?_)
  refine z_astore_n (i := 3) [(3, .ref (a ((29 + 5 * (st (x1 + 1) x2)).toNat))), (0, .ref (a 24)), (1, .ref (a x1.toNat)), (2, .int (zI x2))] hc dX4_formAt_11 rfl (by decide) rfl ?_
  refine z_aload_n (i := 3) 0 hc dX4_formAt_12 rfl rfl ?_
  refine z_aload_n (i := 1) 2 hc dX4_formAt_13 rfl rfl ?_
  refine z_iload_n (i := 2) 3 hc dX4_formAt_14 rfl rfl ?_
  refine z_iconst hc dX4_formAt_15 ?_
  refine z_isub hc dX4_formAt_16 ?_
  obtain ⟨r3, hr3, h⟩ := z_b_some h
  refine z_callVI [.int (zI (x2 - 1))] hc hap o_X7_soundAt ml_RX4_60 (fun l hl => c_X7_soundAt hl hx1 hr3) (by decide) (z_Saying_T hx1) (z_Saying_lt hx1) ⟨_, rfl, rfl⟩ rfl rfl (Nat.le_of_ble_eq_true rfl) (Nat.zero_le _) (Nat.zero_le _) dX4_formAt_17 ?_
  refine z_aload_n (i := 1) 2 hc dX4_formAt_20 rfl rfl ?_
  refine z_iload_n (i := 2) 3 hc dX4_formAt_21 rfl rfl ?_
  refine z_iconst hc dX4_formAt_22 ?_
  refine z_iadd hc dX4_formAt_23 ?_
  obtain ⟨r5, hr5, h⟩ := z_b_some h
  refine z_callVI [.int (zI (x2 + 1))] hc hap o_X7_soundAt ml_RX4_60 (fun l hl => c_X7_soundAt hl hx1 hr5) (by decide) (z_Saying_T hx1) (z_Saying_lt hx1) ⟨_, rfl, rfl⟩ rfl rfl (Nat.le_of_ble_eq_true rfl) (Nat.zero_le _) (Nat.zero_le _) dX4_formAt_24 ?_
  obtain ⟨r7, hr7, h⟩ := z_b_some h
  refine z_callVI [.int (zI r3), .int (zI r5)] hc hap o_X9_formBetween ml_RX4_64 (fun l hl => c_X9_formBetween hl (z_Sound_of g2) hr7) (by decide) (z_Sound_T (z_Sound_of g2)) (z_Sound_lt (z_Sound_of g2)) ⟨_, rfl, rfl⟩ rfl rfl (Nat.le_of_ble_eq_true rfl) (Nat.zero_le _) (Nat.zero_le _) dX4_formAt_27 ?_
  have h := Option.some.inj h
  subst h
  exact z_retI hc he dX4_formAt_30
set_option maxRecDepth 100000 in
set_option maxHeartbeats 4000000 in
theorem c_X4_formAt {l : Launch} (hl : l.stackTraces = false) {a : Nat → Nat} {x1 x2 : Int} {st : z_St} {o : Int} (hx1 : z_isSaying x1) (h : J_X4_formAt x1 x2 st = some o) : z_M 0 l yX4_formAt cX4_formAt 4 (some .int) 9 z_T z_N a [.ref (a 24), .ref (a x1.toNat), .int (zI x2)] st o st := z_of hl (by decide +kernel) (Nat.le_of_ble_eq_true rfl) (fun κ hc hap he => w_X4_formAt hc hap hx1 he h)
theorem dX0_giveFrame_0 : decode cX0_giveFrame 0 = .ok (.aload_n 1, 1) := by decide +kernel
theorem dX0_giveFrame_1 : decode cX0_giveFrame 1 = .ok (.getfield 90, 3) := by decide +kernel
theorem dX0_giveFrame_4 : decode cX0_giveFrame 4 = .ok (.iconst 1, 1) := by decide +kernel
theorem dX0_giveFrame_5 : decode cX0_giveFrame 5 = .ok (.isub, 1) := by decide +kernel
theorem dX0_giveFrame_6 : decode cX0_giveFrame 6 = .ok (.istore 4, 2) := by decide +kernel
theorem dX0_giveFrame_8 : decode cX0_giveFrame 8 = .ok (.iload 4, 2) := by decide +kernel
theorem dX0_giveFrame_10 : decode cX0_giveFrame 10 = .ok (.ifCond .lt 96, 3) := by decide +kernel
theorem dX0_giveFrame_13 : decode cX0_giveFrame 13 = .ok (.iload 4, 2) := by decide +kernel
theorem dX0_giveFrame_15 : decode cX0_giveFrame 15 = .ok (.ifCond .le 15, 3) := by decide +kernel
theorem dX0_giveFrame_18 : decode cX0_giveFrame 18 = .ok (.aload_n 0, 1) := by decide +kernel
theorem dX0_giveFrame_19 : decode cX0_giveFrame 19 = .ok (.getfield 23, 3) := by decide +kernel
theorem dX0_giveFrame_22 : decode cX0_giveFrame 22 = .ok (.iload 4, 2) := by decide +kernel
theorem dX0_giveFrame_24 : decode cX0_giveFrame 24 = .ok (.iconst 1, 1) := by decide +kernel
theorem dX0_giveFrame_25 : decode cX0_giveFrame 25 = .ok (.isub, 1) := by decide +kernel
theorem dX0_giveFrame_26 : decode cX0_giveFrame 26 = .ok (.laload, 1) := by decide +kernel
theorem dX0_giveFrame_27 : decode cX0_giveFrame 27 = .ok (.goto 18, 3) := by decide +kernel
theorem dX0_giveFrame_30 : decode cX0_giveFrame 30 = .ok (.iload_n 3, 1) := by decide +kernel
theorem dX0_giveFrame_31 : decode cX0_giveFrame 31 = .ok (.ifCond .eq 11, 3) := by decide +kernel
theorem dX0_giveFrame_34 : decode cX0_giveFrame 34 = .ok (.aload_n 1, 1) := by decide +kernel
theorem dX0_giveFrame_35 : decode cX0_giveFrame 35 = .ok (.getfield 114, 3) := by decide +kernel
theorem dX0_giveFrame_38 : decode cX0_giveFrame 38 = .ok (.i2l, 1) := by decide +kernel
theorem dX0_giveFrame_39 : decode cX0_giveFrame 39 = .ok (.goto 6, 3) := by decide +kernel
theorem dX0_giveFrame_42 : decode cX0_giveFrame 42 = .ok (.ldc2_w 44, 3) := by decide +kernel
theorem dX0_giveFrame_45 : decode cX0_giveFrame 45 = .ok (.lstore 5, 2) := by decide +kernel
theorem dX0_giveFrame_47 : decode cX0_giveFrame 47 = .ok (.aload_n 0, 1) := by decide +kernel
theorem dX0_giveFrame_48 : decode cX0_giveFrame 48 = .ok (.getfield 23, 3) := by decide +kernel
theorem dX0_giveFrame_51 : decode cX0_giveFrame 51 = .ok (.iload 4, 2) := by decide +kernel
theorem dX0_giveFrame_53 : decode cX0_giveFrame 53 = .ok (.laload, 1) := by decide +kernel
theorem dX0_giveFrame_54 : decode cX0_giveFrame 54 = .ok (.lload 5, 2) := by decide +kernel
theorem dX0_giveFrame_56 : decode cX0_giveFrame 56 = .ok (.invokestatic 108, 3) := by decide +kernel
theorem dX0_giveFrame_59 : decode cX0_giveFrame 59 = .ok (.lstore 7, 2) := by decide +kernel
theorem dX0_giveFrame_61 : decode cX0_giveFrame 61 = .ok (.aload_n 0, 1) := by decide +kernel
theorem dX0_giveFrame_62 : decode cX0_giveFrame 62 = .ok (.getfield 23, 3) := by decide +kernel
theorem dX0_giveFrame_65 : decode cX0_giveFrame 65 = .ok (.iload 4, 2) := by decide +kernel
theorem dX0_giveFrame_67 : decode cX0_giveFrame 67 = .ok (.lload 7, 2) := by decide +kernel
theorem dX0_giveFrame_69 : decode cX0_giveFrame 69 = .ok (.ldc2_w 44, 3) := by decide +kernel
theorem dX0_giveFrame_72 : decode cX0_giveFrame 72 = .ok (.lcmp, 1) := by decide +kernel
theorem dX0_giveFrame_73 : decode cX0_giveFrame 73 = .ok (.ifCond .lt 9, 3) := by decide +kernel
theorem dX0_giveFrame_76 : decode cX0_giveFrame 76 = .ok (.ldc2_w 44, 3) := by decide +kernel
theorem dX0_giveFrame_79 : decode cX0_giveFrame 79 = .ok (.goto 20, 3) := by decide +kernel
theorem dX0_giveFrame_82 : decode cX0_giveFrame 82 = .ok (.lload 7, 2) := by decide +kernel
theorem dX0_giveFrame_84 : decode cX0_giveFrame 84 = .ok (.aload_n 0, 1) := by decide +kernel
theorem dX0_giveFrame_85 : decode cX0_giveFrame 85 = .ok (.getfield 11, 3) := by decide +kernel
theorem dX0_giveFrame_88 : decode cX0_giveFrame 88 = .ok (.aload_n 1, 1) := by decide +kernel
theorem dX0_giveFrame_89 : decode cX0_giveFrame 89 = .ok (.getfield 95, 3) := by decide +kernel
theorem dX0_giveFrame_92 : decode cX0_giveFrame 92 = .ok (.iload 4, 2) := by decide +kernel
theorem dX0_giveFrame_94 : decode cX0_giveFrame 94 = .ok (.iaload, 1) := by decide +kernel
theorem dX0_giveFrame_95 : decode cX0_giveFrame 95 = .ok (.aaload, 1) := by decide +kernel
theorem dX0_giveFrame_96 : decode cX0_giveFrame 96 = .ok (.iload_n 2, 1) := by decide +kernel
theorem dX0_giveFrame_97 : decode cX0_giveFrame 97 = .ok (.laload, 1) := by decide +kernel
theorem dX0_giveFrame_98 : decode cX0_giveFrame 98 = .ok (.ladd, 1) := by decide +kernel
theorem dX0_giveFrame_99 : decode cX0_giveFrame 99 = .ok (.lastore, 1) := by decide +kernel
theorem dX0_giveFrame_100 : decode cX0_giveFrame 100 = .ok (.iinc 4 (-1), 3) := by decide +kernel
theorem dX0_giveFrame_103 : decode cX0_giveFrame 103 = .ok (.goto (-95), 3) := by decide +kernel
theorem dX0_giveFrame_106 : decode cX0_giveFrame 106 = .ok (.return_, 1) := by decide +kernel
def J_X0_giveFrame_99 (v1 v2 v3 v4 s0 s1 : Int) (st : z_St) : Option ((Int × z_St) ⊕ z_St) :=
  z_g (0 ≤ s1 ∧ s1 < 4) <|
  z_let (z_up st 133 s1 s0) fun st6 =>
  some (.inl (v4 + (-1), st6))
set_option maxRecDepth 100000 in
set_option maxHeartbeats 4000000 in
theorem w_X0_giveFrame_99 {κ : zK} {a : Nat → Nat} {v1 v2 v3 v4 s0 s1 : Int} {st : z_St} {mc9 ms9 : Nat} {o : (Int × z_St) ⊕ z_St} (hc : z_C κ RX0 cX0_giveFrame 9 8 mc9 ms9) (hap : z_AP κ a z_N) (hv1 : z_isSaying v1) (k1 : ∀ s9 : (Int × z_St), o = .inl s9 → z_V κ z_T z_N a 0 0 8 [(0, .ref (a 99)), (1, .ref (a v1.toNat)), (2, .int (zI v2)), (3, .int (zI v3)), (4, .int (zI s9.1))] [] s9.2) (k2 : ∀ x9 : z_St, o = .inr x9 → z_V κ z_T z_N a 0 0 106 [] [] x9) (h : J_X0_giveFrame_99 v1 v2 v3 v4 s0 s1 st = some o) : z_V κ z_T z_N a 0 0 99 [(0, .ref (a 99)), (1, .ref (a v1.toNat)), (2, .int (zI v2)), (3, .int (zI v3)), (4, .int (zI v4))] [.long (zJ s0), .int (zI s1), .ref (a 133)] st := by
  unfold J_X0_giveFrame_99 at h
  refine z_last (kI := 133) (nI9 := 4) hc hap tT_133 (by decide) rfl rfl (by decide) dX0_giveFrame_99 h (fun st6 h => ?_)
  refine z_iinc [(4, .int (zI (v4 + (-1)))), (0, .ref (a 99)), (1, .ref (a v1.toNat)), (2, .int (zI v2)), (3, .int (zI v3))] 4 hc dX0_giveFrame_100 rfl (by decide) rfl ?_
  refine z_goto (tgt := 8) hc dX0_giveFrame_103 (by decide) ?_
  refine z_sub [(0, .ref (a 99)), (1, .ref (a v1.toNat)), (2, .int (zI v2)), (3, .int (zI v3)), (4, .int (zI (v4 + (-1))))] [1, 2, 3, 4, 0] rfl ?_
  exact k1 _ (Option.some.inj h).symm
def J_X0_giveFrame_45 (v1 v2 v3 v4 s0 : Int) (st : z_St) : Option ((Int × z_St) ⊕ z_St) :=
  z_g (0 ≤ v4 ∧ v4 < 4) <|
  z_g (z64 (st 133 v4) ∧ z64 s0) <|
  z_g (z64 (min (st 133 v4) s0) ∧ z64 1152921504606846976) (if min (st 133 v4) s0 < 1152921504606846976 then
    z_g (0 ≤ v4 ∧ v4 < 4) <|
    z_g (0 ≤ st (v1 + 2) v4 ∧ st (v1 + 2) v4 < 24) <|
    z_g (0 ≤ v2 ∧ v2 < 16) <|
    J_X0_giveFrame_99 v1 v2 v3 v4 ((min (st 133 v4) s0) + (st (101 + (st (v1 + 2) v4)) v2)) v4 st
  else
    J_X0_giveFrame_99 v1 v2 v3 v4 1152921504606846976 v4 st)
set_option maxRecDepth 100000 in
set_option maxHeartbeats 4000000 in
theorem w_X0_giveFrame_45 {κ : zK} {a : Nat → Nat} {v1 v2 v3 v4 s0 : Int} {st : z_St} {mc9 ms9 : Nat} {o : (Int × z_St) ⊕ z_St} (hc : z_C κ RX0 cX0_giveFrame 9 8 mc9 ms9) (hap : z_AP κ a z_N) (hv1 : z_isSaying v1) (k1 : ∀ s9 : (Int × z_St), o = .inl s9 → z_V κ z_T z_N a 0 0 8 [(0, .ref (a 99)), (1, .ref (a v1.toNat)), (2, .int (zI v2)), (3, .int (zI v3)), (4, .int (zI s9.1))] [] s9.2) (k2 : ∀ x9 : z_St, o = .inr x9 → z_V κ z_T z_N a 0 0 106 [] [] x9) (h : J_X0_giveFrame_45 v1 v2 v3 v4 s0 st = some o) : z_V κ z_T z_N a 0 0 45 [(0, .ref (a 99)), (1, .ref (a v1.toNat)), (2, .int (zI v2)), (3, .int (zI v3)), (4, .int (zI v4))] [.long (zJ s0)] st := by
  unfold J_X0_giveFrame_45 at h
  refine z_lstore [(5, .long (zJ s0)), (0, .ref (a 99)), (1, .ref (a v1.toNat)), (2, .int (zI v2)), (3, .int (zI v3)), (4, .int (zI v4))] hc dX0_giveFrame_45 (by decide) rfl ?_
  refine z_aload_n (i := 0) 1 hc dX0_giveFrame_47 rfl rfl ?_
  refine z_getA (k' := 133) hc fl_RX0_23 tT_99 (by decide) rfl rfl dX0_giveFrame_48 ?_
  refine z_iload 5 hc dX0_giveFrame_51 rfl ?_
  refine z_lald (kI := 133) (nI9 := 4) hc tT_133 (by decide) rfl rfl (by decide) dX0_giveFrame_53 h (fun g2 h => ?_)
  refine z_lload 0 hc dX0_giveFrame_54 rfl ?_
  refine z_minJ hc ml_RX0_108 h ⟨rfl, rfl, Nat.le_of_ble_eq_true rfl, by omega⟩ dX0_giveFrame_56 (fun h => ?_)
  refine z_lstore [(7, .long (zJ (min (st 133 v4) s0))), (5, .long (zJ s0)), (0, .ref (a 99)), (1, .ref (a v1.toNat)), (2, .int (zI v2)), (3, .int (zI v3)), (4, .int (zI v4))] hc dX0_giveFrame_59 (by decide) rfl ?_
  refine z_aload_n (i := 0) 2 hc dX0_giveFrame_61 rfl rfl ?_
  refine z_getA (k' := 133) hc fl_RX0_23 tT_99 (by decide) rfl rfl dX0_giveFrame_62 ?_
  refine z_iload 6 hc dX0_giveFrame_65 rfl ?_
  refine z_lload 0 hc dX0_giveFrame_67 rfl ?_
  refine z_ldc2 1152921504606846976 hc kc_RX0_44 dX0_giveFrame_69 rfl ?_
  refine z_lcmp_lt (tgt := 82) hc dX0_giveFrame_72 dX0_giveFrame_73 (by decide) h (fun c72 h => ?_) (fun c72 h => ?_)
  · refine z_lload 0 hc dX0_giveFrame_82 rfl ?_
    refine z_aload_n (i := 0) 2 hc dX0_giveFrame_84 rfl rfl ?_
    refine z_getA (k' := 100) hc fl_RX0_11 tT_99 (by decide) rfl rfl dX0_giveFrame_85 ?_
    refine z_aload_n (i := 1) 3 hc dX0_giveFrame_88 rfl rfl ?_
    refine z_getA (k' := (v1.toNat + 2)) hc fl_RX0_95 (z_Saying_T hv1) (z_Saying_lt hv1) rfl rfl dX0_giveFrame_89 ?_
    refine z_iload 6 hc dX0_giveFrame_92 rfl ?_
    refine z_iald (kI := (v1 + 2)) (nI9 := 4) hc (z_Saying_T2 hv1) (z_Saying_lt2 hv1) (z_Saying_c2 hv1) rfl (by decide) dX0_giveFrame_94 h (fun g3 h => ?_)
    refine z_aald (r := 101 + (st (v1 + 2) v4)) (nI9 := 24) hc tT_100 (by decide) (by decide) rfl (by decide) (fun j9 hj9 => by omega) dX0_giveFrame_95 h (fun g4 h => ?_)
    refine z_iload_n (i := 2) 4 hc dX0_giveFrame_96 rfl rfl ?_
    refine z_lald (kI := 101 + (st (v1 + 2) v4)) (nI9 := 16) hc (z_row_100 g4).2.2 (z_row_100 g4).2.1 (Int.toNat_of_nonneg (z_row_100 g4).1) rfl (by decide) dX0_giveFrame_97 h (fun g5 h => ?_)
    refine z_ladd hc dX0_giveFrame_98 ?_
    refine z_sub [(0, .ref (a 99)), (1, .ref (a v1.toNat)), (2, .int (zI v2)), (3, .int (zI v3)), (4, .int (zI v4))] [2, 3, 4, 5, 6] rfl ?_
    exact w_X0_giveFrame_99 hc hap hv1 k1 k2 h
  · refine z_ldc2 1152921504606846976 hc kc_RX0_44 dX0_giveFrame_76 rfl ?_
    refine z_goto (tgt := 99) hc dX0_giveFrame_79 (by decide) ?_
    refine z_sub [(0, .ref (a 99)), (1, .ref (a v1.toNat)), (2, .int (zI v2)), (3, .int (zI v3)), (4, .int (zI v4))] [2, 3, 4, 5, 6] rfl ?_
    exact w_X0_giveFrame_99 hc hap hv1 k1 k2 h
def J_X0_giveFrame_b8 (v1 v2 v3 v4 : Int) (st : z_St) : Option ((Int × z_St) ⊕ z_St) :=
  z_g (z32 v4) (if v4 < 0 then
    some (.inr st)
  else
    z_g (z32 v4) (if 0 < v4 then
      z_g (0 ≤ v4 - 1 ∧ v4 - 1 < 4) <|
      J_X0_giveFrame_45 v1 v2 v3 v4 (st 133 (v4 - 1)) st
    else
      z_g (z32 v3) (if v3 = 0 then
        J_X0_giveFrame_45 v1 v2 v3 v4 1152921504606846976 st
      else
        z_g (z32 (st v1 3)) <|
        J_X0_giveFrame_45 v1 v2 v3 v4 (st v1 3) st)))
set_option maxRecDepth 100000 in
set_option maxHeartbeats 4000000 in
theorem w_X0_giveFrame_b8 {κ : zK} {a : Nat → Nat} {v1 v2 v3 v4 : Int} {st : z_St} {mc9 ms9 : Nat} {o : (Int × z_St) ⊕ z_St} (hc : z_C κ RX0 cX0_giveFrame 9 8 mc9 ms9) (hap : z_AP κ a z_N) (hv1 : z_isSaying v1) (k1 : ∀ s9 : (Int × z_St), o = .inl s9 → z_V κ z_T z_N a 0 0 8 [(0, .ref (a 99)), (1, .ref (a v1.toNat)), (2, .int (zI v2)), (3, .int (zI v3)), (4, .int (zI s9.1))] [] s9.2) (k2 : ∀ x9 : z_St, o = .inr x9 → z_V κ z_T z_N a 0 0 106 [] [] x9) (h : J_X0_giveFrame_b8 v1 v2 v3 v4 st = some o) : z_V κ z_T z_N a 0 0 8 [(0, .ref (a 99)), (1, .ref (a v1.toNat)), (2, .int (zI v2)), (3, .int (zI v3)), (4, .int (zI v4))] [] st := by
  unfold J_X0_giveFrame_b8 at h
  refine z_iload 4 hc dX0_giveFrame_8 rfl ?_
  refine z_if_lt (tgt := 106) hc dX0_giveFrame_10 (by decide) h (fun c10 h => ?_) (fun c10 h => ?_)
  · refine z_sub [] [] rfl ?_
    exact k2 st (Option.some.inj h).symm
  · refine z_iload 4 hc dX0_giveFrame_13 rfl ?_
    refine z_if_le (tgt := 30) hc dX0_giveFrame_15 (by decide) h (fun c15 h => ?_) (fun c15 h => ?_)
    · refine z_aload_n (i := 0) 0 hc dX0_giveFrame_18 rfl rfl ?_
      refine z_getA (k' := 133) hc fl_RX0_23 tT_99 (by decide) rfl rfl dX0_giveFrame_19 ?_
      refine z_iload 4 hc dX0_giveFrame_22 rfl ?_
      refine z_iconst hc dX0_giveFrame_24 ?_
      refine z_isub hc dX0_giveFrame_25 ?_
      refine z_lald (kI := 133) (nI9 := 4) hc tT_133 (by decide) rfl rfl (by decide) dX0_giveFrame_26 h (fun g1 h => ?_)
      refine z_goto (tgt := 45) hc dX0_giveFrame_27 (by decide) ?_
      refine z_sub [(0, .ref (a 99)), (1, .ref (a v1.toNat)), (2, .int (zI v2)), (3, .int (zI v3)), (4, .int (zI v4))] [0, 1, 2, 3, 4] rfl ?_
      exact w_X0_giveFrame_45 hc hap hv1 k1 k2 h
    · refine z_iload_n (i := 3) 3 hc dX0_giveFrame_30 rfl rfl ?_
      refine z_if_eq (tgt := 42) hc dX0_giveFrame_31 (by decide) h (fun c31 h => ?_) (fun c31 h => ?_)
      · refine z_ldc2 1152921504606846976 hc kc_RX0_44 dX0_giveFrame_42 rfl ?_
        refine z_sub [(0, .ref (a 99)), (1, .ref (a v1.toNat)), (2, .int (zI v2)), (3, .int (zI v3)), (4, .int (zI v4))] [0, 1, 2, 3, 4] rfl ?_
        exact w_X0_giveFrame_45 hc hap hv1 k1 k2 h
      · refine z_aload_n (i := 1) 1 hc dX0_giveFrame_34 rfl rfl ?_
        refine z_getI (kI := v1) (jI := 3) hc fl_RX0_114 (z_Saying_T hv1) (z_Saying_lt hv1) (z_Saying_c hv1) rfl rfl dX0_giveFrame_35 ?_
        refine z_i2l hc dX0_giveFrame_38 h (fun h => ?_)
        refine z_goto (tgt := 45) hc dX0_giveFrame_39 (by decide) ?_
        refine z_sub [(0, .ref (a 99)), (1, .ref (a v1.toNat)), (2, .int (zI v2)), (3, .int (zI v3)), (4, .int (zI v4))] [0, 1, 2, 3, 4] rfl ?_
        exact w_X0_giveFrame_45 hc hap hv1 k1 k2 h
def J_X0_giveFrame (x1 x2 x3 : Int) (st : z_St) : Option (z_St) :=
  z_b (z_iter z_F (fun q9 : (Int × z_St) => J_X0_giveFrame_b8 x1 x2 x3 q9.1 q9.2) ((st x1 2) - 1, st)) fun lx7 =>
    some lx7
set_option maxRecDepth 100000 in
set_option maxHeartbeats 4000000 in
theorem w_X0_giveFrame {κ : zK} {a : Nat → Nat} {x1 x2 x3 : Int} {st : z_St} {o : z_St} (hc : z_C κ RX0 cX0_giveFrame 9 8 0 0) (hap : z_AP κ a z_N) (hx1 : z_isSaying x1) (he : z_E 2 κ none z_T z_N a 0 o) (h : J_X0_giveFrame x1 x2 x3 st = some o) : z_V κ z_T z_N a 0 0 0 [(0, .ref (a 99)), (1, .ref (a x1.toNat)), (2, .int (zI x2)), (3, .int (zI x3))] [] st := by
  unfold J_X0_giveFrame at h
  refine z_aload_n (i := 1) 1 hc dX0_giveFrame_0 rfl rfl ?_
  refine z_getI (kI := x1) (jI := 2) hc fl_RX0_90 (z_Saying_T hx1) (z_Saying_lt hx1) (z_Saying_c hx1) rfl rfl dX0_giveFrame_1 ?_
  refine z_iconst hc dX0_giveFrame_4 ?_
  refine z_isub hc dX0_giveFrame_5 ?_
  refine z_istore [(4, .int (zI ((st x1 2) - 1))), (0, .ref (a 99)), (1, .ref (a x1.toNat)), (2, .int (zI x2)), (3, .int (zI x3))] hc dX0_giveFrame_6 (by decide) rfl ?_
  obtain ⟨lx7, hlx7, h⟩ := z_b_some h
  refine z_sub [(0, .ref (a 99)), (1, .ref (a x1.toNat)), (2, .int (zI x2)), (3, .int (zI x3)), (4, .int (zI ((st x1 2) - 1)))] [1, 2, 3, 4, 0] rfl ?_
  refine z_loop (fun q9 : (Int × z_St) => J_X0_giveFrame_b8 x1 x2 x3 q9.1 q9.2) (fun q9 : (Int × z_St) => z_V κ z_T z_N a 0 0 8 [(0, .ref (a 99)), (1, .ref (a x1.toNat)), (2, .int (zI x2)), (3, .int (zI x3)), (4, .int (zI q9.1))] [] q9.2) (fun x9 : z_St => z_V κ z_T z_N a 0 0 106 [] [] x9) (fun q9 o9 hb k1 k2 => ?_) _ _ _ hlx7 ?_
  · exact w_X0_giveFrame_b8 hc hap hx1 k1 k2 hb
  · show z_V κ z_T z_N a 0 0 106 [] [] lx7
    have h := Option.some.inj h
    subst h
    exact z_retV hc he dX0_giveFrame_106
set_option maxRecDepth 100000 in
set_option maxHeartbeats 4000000 in
theorem c_X0_giveFrame {l : Launch} (hl : l.stackTraces = false) {a : Nat → Nat} {x1 x2 x3 : Int} {st : z_St} {o : z_St} (hx1 : z_isSaying x1) (h : J_X0_giveFrame x1 x2 x3 st = some o) : z_M 2 l yX0_giveFrame cX0_giveFrame 9 none 8 z_T z_N a [.ref (a 99), .ref (a x1.toNat), .int (zI x2), .int (zI x3)] st 0 o := z_of hl (by decide +kernel) (Nat.le_of_ble_eq_true rfl) (fun κ hc hap he => w_X0_giveFrame hc hap hx1 he h)
theorem dX0_fillSpans_0 : decode cX0_fillSpans 0 = .ok (.iconst 0, 1) := by decide +kernel
theorem dX0_fillSpans_1 : decode cX0_fillSpans 1 = .ok (.istore 5, 2) := by decide +kernel
theorem dX0_fillSpans_3 : decode cX0_fillSpans 3 = .ok (.iload 5, 2) := by decide +kernel
theorem dX0_fillSpans_5 : decode cX0_fillSpans 5 = .ok (.aload_n 2, 1) := by decide +kernel
theorem dX0_fillSpans_6 : decode cX0_fillSpans 6 = .ok (.getfield 90, 3) := by decide +kernel
theorem dX0_fillSpans_9 : decode cX0_fillSpans 9 = .ok (.if_icmp .ge 33, 3) := by decide +kernel
theorem dX0_fillSpans_12 : decode cX0_fillSpans 12 = .ok (.aload_n 2, 1) := by decide +kernel
theorem dX0_fillSpans_13 : decode cX0_fillSpans 13 = .ok (.getfield 95, 3) := by decide +kernel
theorem dX0_fillSpans_16 : decode cX0_fillSpans 16 = .ok (.iload 5, 2) := by decide +kernel
theorem dX0_fillSpans_18 : decode cX0_fillSpans 18 = .ok (.aload_n 2, 1) := by decide +kernel
theorem dX0_fillSpans_19 : decode cX0_fillSpans 19 = .ok (.getfield 98, 3) := by decide +kernel
theorem dX0_fillSpans_22 : decode cX0_fillSpans 22 = .ok (.iload 5, 2) := by decide +kernel
theorem dX0_fillSpans_24 : decode cX0_fillSpans 24 = .ok (.iaload, 1) := by decide +kernel
theorem dX0_fillSpans_25 : decode cX0_fillSpans 25 = .ok (.iconst 4, 1) := by decide +kernel
theorem dX0_fillSpans_26 : decode cX0_fillSpans 26 = .ok (.imul, 1) := by decide +kernel
theorem dX0_fillSpans_27 : decode cX0_fillSpans 27 = .ok (.aload_n 3, 1) := by decide +kernel
theorem dX0_fillSpans_28 : decode cX0_fillSpans 28 = .ok (.aload_n 2, 1) := by decide +kernel
theorem dX0_fillSpans_29 : decode cX0_fillSpans 29 = .ok (.iload 5, 2) := by decide +kernel
theorem dX0_fillSpans_31 : decode cX0_fillSpans 31 = .ok (.invokevirtual 100, 3) := by decide +kernel
theorem dX0_fillSpans_34 : decode cX0_fillSpans 34 = .ok (.iadd, 1) := by decide +kernel
theorem dX0_fillSpans_35 : decode cX0_fillSpans 35 = .ok (.iastore, 1) := by decide +kernel
theorem dX0_fillSpans_36 : decode cX0_fillSpans 36 = .ok (.iinc 5 1, 3) := by decide +kernel
theorem dX0_fillSpans_39 : decode cX0_fillSpans 39 = .ok (.goto (-36), 3) := by decide +kernel
theorem dX0_fillSpans_42 : decode cX0_fillSpans 42 = .ok (.iconst 0, 1) := by decide +kernel
theorem dX0_fillSpans_43 : decode cX0_fillSpans 43 = .ok (.istore 5, 2) := by decide +kernel
theorem dX0_fillSpans_45 : decode cX0_fillSpans 45 = .ok (.iload 5, 2) := by decide +kernel
theorem dX0_fillSpans_47 : decode cX0_fillSpans 47 = .ok (.iload 4, 2) := by decide +kernel
theorem dX0_fillSpans_49 : decode cX0_fillSpans 49 = .ok (.if_icmp .ge 104, 3) := by decide +kernel
theorem dX0_fillSpans_52 : decode cX0_fillSpans 52 = .ok (.aload_n 0, 1) := by decide +kernel
theorem dX0_fillSpans_53 : decode cX0_fillSpans 53 = .ok (.getfield 23, 3) := by decide +kernel
theorem dX0_fillSpans_56 : decode cX0_fillSpans 56 = .ok (.ldc2_w 44, 3) := by decide +kernel
theorem dX0_fillSpans_59 : decode cX0_fillSpans 59 = .ok (.invokestatic 46, 3) := by decide +kernel
theorem dX0_fillSpans_62 : decode cX0_fillSpans 62 = .ok (.iload 5, 2) := by decide +kernel
theorem dX0_fillSpans_64 : decode cX0_fillSpans 64 = .ok (.iconst 1, 1) := by decide +kernel
theorem dX0_fillSpans_65 : decode cX0_fillSpans 65 = .ok (.iadd, 1) := by decide +kernel
theorem dX0_fillSpans_66 : decode cX0_fillSpans 66 = .ok (.istore 6, 2) := by decide +kernel
theorem dX0_fillSpans_68 : decode cX0_fillSpans 68 = .ok (.iload 6, 2) := by decide +kernel
theorem dX0_fillSpans_70 : decode cX0_fillSpans 70 = .ok (.iload 4, 2) := by decide +kernel
theorem dX0_fillSpans_72 : decode cX0_fillSpans 72 = .ok (.if_icmp .gt 75, 3) := by decide +kernel
theorem dX0_fillSpans_75 : decode cX0_fillSpans 75 = .ok (.iload_n 1, 1) := by decide +kernel
theorem dX0_fillSpans_76 : decode cX0_fillSpans 76 = .ok (.bipush 17, 2) := by decide +kernel
theorem dX0_fillSpans_78 : decode cX0_fillSpans 78 = .ok (.imul, 1) := by decide +kernel
theorem dX0_fillSpans_79 : decode cX0_fillSpans 79 = .ok (.iload 5, 2) := by decide +kernel
theorem dX0_fillSpans_81 : decode cX0_fillSpans 81 = .ok (.iadd, 1) := by decide +kernel
theorem dX0_fillSpans_82 : decode cX0_fillSpans 82 = .ok (.bipush 17, 2) := by decide +kernel
theorem dX0_fillSpans_84 : decode cX0_fillSpans 84 = .ok (.imul, 1) := by decide +kernel
theorem dX0_fillSpans_85 : decode cX0_fillSpans 85 = .ok (.iload 6, 2) := by decide +kernel
theorem dX0_fillSpans_87 : decode cX0_fillSpans 87 = .ok (.iadd, 1) := by decide +kernel
theorem dX0_fillSpans_88 : decode cX0_fillSpans 88 = .ok (.istore 7, 2) := by decide +kernel
theorem dX0_fillSpans_90 : decode cX0_fillSpans 90 = .ok (.aload_n 0, 1) := by decide +kernel
theorem dX0_fillSpans_91 : decode cX0_fillSpans 91 = .ok (.aload_n 2, 1) := by decide +kernel
theorem dX0_fillSpans_92 : decode cX0_fillSpans 92 = .ok (.iload 6, 2) := by decide +kernel
theorem dX0_fillSpans_94 : decode cX0_fillSpans 94 = .ok (.iconst 1, 1) := by decide +kernel
theorem dX0_fillSpans_95 : decode cX0_fillSpans 95 = .ok (.isub, 1) := by decide +kernel
theorem dX0_fillSpans_96 : decode cX0_fillSpans 96 = .ok (.iload 6, 2) := by decide +kernel
theorem dX0_fillSpans_98 : decode cX0_fillSpans 98 = .ok (.iconst 1, 1) := by decide +kernel
theorem dX0_fillSpans_99 : decode cX0_fillSpans 99 = .ok (.isub, 1) := by decide +kernel
theorem dX0_fillSpans_100 : decode cX0_fillSpans 100 = .ok (.iload 5, 2) := by decide +kernel
theorem dX0_fillSpans_102 : decode cX0_fillSpans 102 = .ok (.if_icmp .ne 7, 3) := by decide +kernel
theorem dX0_fillSpans_105 : decode cX0_fillSpans 105 = .ok (.iconst 1, 1) := by decide +kernel
theorem dX0_fillSpans_106 : decode cX0_fillSpans 106 = .ok (.goto 4, 3) := by decide +kernel
theorem dX0_fillSpans_109 : decode cX0_fillSpans 109 = .ok (.iconst 0, 1) := by decide +kernel
theorem dX0_fillSpans_110 : decode cX0_fillSpans 110 = .ok (.invokevirtual 104, 3) := by decide +kernel
theorem dX0_fillSpans_113 : decode cX0_fillSpans 113 = .ok (.aload_n 0, 1) := by decide +kernel
theorem dX0_fillSpans_114 : decode cX0_fillSpans 114 = .ok (.getfield 16, 3) := by decide +kernel
theorem dX0_fillSpans_117 : decode cX0_fillSpans 117 = .ok (.iload 7, 2) := by decide +kernel
theorem dX0_fillSpans_119 : decode cX0_fillSpans 119 = .ok (.aload_n 0, 1) := by decide +kernel
theorem dX0_fillSpans_120 : decode cX0_fillSpans 120 = .ok (.getfield 16, 3) := by decide +kernel
theorem dX0_fillSpans_123 : decode cX0_fillSpans 123 = .ok (.iload 7, 2) := by decide +kernel
theorem dX0_fillSpans_125 : decode cX0_fillSpans 125 = .ok (.laload, 1) := by decide +kernel
theorem dX0_fillSpans_126 : decode cX0_fillSpans 126 = .ok (.aload_n 0, 1) := by decide +kernel
theorem dX0_fillSpans_127 : decode cX0_fillSpans 127 = .ok (.getfield 23, 3) := by decide +kernel
theorem dX0_fillSpans_130 : decode cX0_fillSpans 130 = .ok (.aload_n 2, 1) := by decide +kernel
theorem dX0_fillSpans_131 : decode cX0_fillSpans 131 = .ok (.getfield 90, 3) := by decide +kernel
theorem dX0_fillSpans_134 : decode cX0_fillSpans 134 = .ok (.iconst 1, 1) := by decide +kernel
theorem dX0_fillSpans_135 : decode cX0_fillSpans 135 = .ok (.isub, 1) := by decide +kernel
theorem dX0_fillSpans_136 : decode cX0_fillSpans 136 = .ok (.laload, 1) := by decide +kernel
theorem dX0_fillSpans_137 : decode cX0_fillSpans 137 = .ok (.invokestatic 108, 3) := by decide +kernel
theorem dX0_fillSpans_140 : decode cX0_fillSpans 140 = .ok (.lastore, 1) := by decide +kernel
theorem dX0_fillSpans_141 : decode cX0_fillSpans 141 = .ok (.iinc 6 1, 3) := by decide +kernel
theorem dX0_fillSpans_144 : decode cX0_fillSpans 144 = .ok (.goto (-76), 3) := by decide +kernel
theorem dX0_fillSpans_147 : decode cX0_fillSpans 147 = .ok (.iinc 5 1, 3) := by decide +kernel
theorem dX0_fillSpans_150 : decode cX0_fillSpans 150 = .ok (.goto (-105), 3) := by decide +kernel
theorem dX0_fillSpans_153 : decode cX0_fillSpans 153 = .ok (.return_, 1) := by decide +kernel
def J_X0_fillSpans_b3 (v1 v2 v4 v5 : Int) (st : z_St) : Option ((Int × z_St) ⊕ z_St) :=
  z_g (z32 v5 ∧ z32 (st v2 2)) (if v5 < st v2 2 then
    z_g (0 ≤ v5 ∧ v5 < 4) <|
    z_b (J_X4_formAt v2 v5 st) fun r2 =>
    z_g (0 ≤ v5 ∧ v5 < 4) <|
    z_let (z_up st (v2 + 2) v5 (((st (v2 + 1) v5) * 4) + r2)) fun st4 =>
    some (.inl (v5 + 1, st4))
  else
    some (.inr st))
set_option maxRecDepth 100000 in
set_option maxHeartbeats 4000000 in
theorem w_X0_fillSpans_b3 {κ : zK} {a : Nat → Nat} {v1 v2 v4 v5 : Int} {st : z_St} {mc9 ms9 : Nat} {o : (Int × z_St) ⊕ z_St} (hc : z_C κ RX0 cX0_fillSpans 8 10 mc9 ms9) (hap : z_AP κ a z_N) (hv2 : z_isSaying v2) (k1 : ∀ s9 : (Int × z_St), o = .inl s9 → z_V κ z_T z_N a 0 0 3 [(0, .ref (a 99)), (1, .int (zI v1)), (2, .ref (a v2.toNat)), (3, .ref (a 24)), (4, .int (zI v4)), (5, .int (zI s9.1))] [] s9.2) (k2 : ∀ x9 : z_St, o = .inr x9 → z_V κ z_T z_N a 0 0 42 [(0, .ref (a 99)), (1, .int (zI v1)), (2, .ref (a v2.toNat)), (4, .int (zI v4))] [] x9) (h : J_X0_fillSpans_b3 v1 v2 v4 v5 st = some o) : z_V κ z_T z_N a 0 0 3 [(0, .ref (a 99)), (1, .int (zI v1)), (2, .ref (a v2.toNat)), (3, .ref (a 24)), (4, .int (zI v4)), (5, .int (zI v5))] [] st := by
  unfold J_X0_fillSpans_b3 at h
  refine z_iload 5 hc dX0_fillSpans_3 rfl ?_
  refine z_aload_n (i := 2) 2 hc dX0_fillSpans_5 rfl rfl ?_
  refine z_getI (kI := v2) (jI := 2) hc fl_RX0_90 (z_Saying_T hv2) (z_Saying_lt hv2) (z_Saying_c hv2) rfl rfl dX0_fillSpans_6 ?_
  refine z_icmp_ge (tgt := 42) hc dX0_fillSpans_9 (by decide) h (fun c9 h => ?_) (fun c9 h => ?_)
  · refine z_aload_n (i := 2) 2 hc dX0_fillSpans_12 rfl rfl ?_
    refine z_getA (k' := (v2.toNat + 2)) hc fl_RX0_95 (z_Saying_T hv2) (z_Saying_lt hv2) rfl rfl dX0_fillSpans_13 ?_
    refine z_iload 5 hc dX0_fillSpans_16 rfl ?_
    refine z_aload_n (i := 2) 2 hc dX0_fillSpans_18 rfl rfl ?_
    refine z_getA (k' := (v2.toNat + 1)) hc fl_RX0_98 (z_Saying_T hv2) (z_Saying_lt hv2) rfl rfl dX0_fillSpans_19 ?_
    refine z_iload 5 hc dX0_fillSpans_22 rfl ?_
    refine z_iald (kI := (v2 + 1)) (nI9 := 4) hc (z_Saying_T1 hv2) (z_Saying_lt1 hv2) (z_Saying_c1 hv2) rfl (by decide) dX0_fillSpans_24 h (fun g1 h => ?_)
    refine z_iconst hc dX0_fillSpans_25 ?_
    refine z_imul hc dX0_fillSpans_26 ?_
    refine z_aload_n (i := 3) 3 hc dX0_fillSpans_27 rfl rfl ?_
    refine z_aload_n (i := 2) 2 hc dX0_fillSpans_28 rfl rfl ?_
    refine z_iload 5 hc dX0_fillSpans_29 rfl ?_
    obtain ⟨r2, hr2, h⟩ := z_b_some h
    refine z_callVI [.ref (a v2.toNat), .int (zI v5)] hc hap o_X4_formAt ml_RX0_100 (fun l hl => c_X4_formAt hl hv2 hr2) (by decide) tT_24 (by decide) ⟨_, rfl, rfl⟩ rfl rfl (Nat.le_of_ble_eq_true rfl) (Nat.zero_le _) (Nat.zero_le _) dX0_fillSpans_31 ?_
    refine z_iadd hc dX0_fillSpans_34 ?_
    refine z_iast (kI := (v2 + 2)) (nI9 := 4) hc hap (z_Saying_T2 hv2) (z_Saying_lt2 hv2) (z_Saying_c2 hv2) rfl (by decide) dX0_fillSpans_35 h (fun st4 h => ?_)
    refine z_iinc [(5, .int (zI (v5 + 1))), (0, .ref (a 99)), (1, .int (zI v1)), (2, .ref (a v2.toNat)), (3, .ref (a 24)), (4, .int (zI v4))] 5 hc dX0_fillSpans_36 rfl (by decide) rfl ?_
    refine z_goto (tgt := 3) hc dX0_fillSpans_39 (by decide) ?_
    refine z_sub [(0, .ref (a 99)), (1, .int (zI v1)), (2, .ref (a v2.toNat)), (3, .ref (a 24)), (4, .int (zI v4)), (5, .int (zI (v5 + 1)))] [1, 2, 3, 4, 5, 0] rfl ?_
    exact k1 _ (Option.some.inj h).symm
  · refine z_sub [(0, .ref (a 99)), (1, .int (zI v1)), (2, .ref (a v2.toNat)), (4, .int (zI v4))] [0, 1, 2, 4] rfl ?_
    exact k2 st (Option.some.inj h).symm
def J_X0_fillSpans_110 (v1 v2 v4 v5 v6 v7 s0 s1 s2 : Int) (st : z_St) : Option ((Int × z_St) ⊕ z_St) :=
  z_b (J_X0_giveFrame s2 s1 s0 st) fun st9 =>
  z_g (0 ≤ v7 ∧ v7 < 1445) <|
  z_g (0 ≤ (st9 v2 2) - 1 ∧ (st9 v2 2) - 1 < 4) <|
  z_g (z64 (st9 125 v7) ∧ z64 (st9 133 ((st9 v2 2) - 1))) <|
  z_g (0 ≤ v7 ∧ v7 < 1445) <|
  z_let (z_up st9 125 v7 (min (st9 125 v7) (st9 133 ((st9 v2 2) - 1)))) fun st12 =>
  some (.inl (v6 + 1, st12))
set_option maxRecDepth 100000 in
set_option maxHeartbeats 4000000 in
theorem w_X0_fillSpans_110 {κ : zK} {a : Nat → Nat} {v1 v2 v4 v5 v6 v7 s0 s1 s2 : Int} {st : z_St} {mc9 ms9 : Nat} {o : (Int × z_St) ⊕ z_St} (hc : z_C κ RX0 cX0_fillSpans 8 10 mc9 ms9) (hap : z_AP κ a z_N) (hv2 : z_isSaying v2) (hs2 : z_isSaying s2) (k1 : ∀ s9 : (Int × z_St), o = .inl s9 → z_V κ z_T z_N a 0 0 68 [(0, .ref (a 99)), (1, .int (zI v1)), (2, .ref (a v2.toNat)), (4, .int (zI v4)), (5, .int (zI v5)), (6, .int (zI s9.1))] [] s9.2) (k2 : ∀ x9 : z_St, o = .inr x9 → z_V κ z_T z_N a 0 0 147 [(0, .ref (a 99)), (1, .int (zI v1)), (2, .ref (a v2.toNat)), (4, .int (zI v4)), (5, .int (zI v5))] [] x9) (h : J_X0_fillSpans_110 v1 v2 v4 v5 v6 v7 s0 s1 s2 st = some o) : z_V κ z_T z_N a 0 0 110 [(0, .ref (a 99)), (1, .int (zI v1)), (2, .ref (a v2.toNat)), (4, .int (zI v4)), (5, .int (zI v5)), (6, .int (zI v6)), (7, .int (zI v7))] [.int (zI s0), .int (zI s1), .ref (a s2.toNat), .ref (a 99)] st := by
  unfold J_X0_fillSpans_110 at h
  obtain ⟨st9, hr8, h⟩ := z_b_some h
  refine z_callVV [.ref (a s2.toNat), .int (zI s1), .int (zI s0)] hc hap o_X0_giveFrame ml_RX0_104 (fun l hl => c_X0_giveFrame hl hs2 hr8) (by decide) tT_99 (by decide) ⟨_, rfl, rfl⟩ rfl rfl (Nat.le_of_ble_eq_true rfl) (Nat.zero_le _) (Nat.zero_le _) dX0_fillSpans_110 ?_
  refine z_aload_n (i := 0) 0 hc dX0_fillSpans_113 rfl rfl ?_
  refine z_getA (k' := 125) hc fl_RX0_16 tT_99 (by decide) rfl rfl dX0_fillSpans_114 ?_
  refine z_iload 6 hc dX0_fillSpans_117 rfl ?_
  refine z_aload_n (i := 0) 0 hc dX0_fillSpans_119 rfl rfl ?_
  refine z_getA (k' := 125) hc fl_RX0_16 tT_99 (by decide) rfl rfl dX0_fillSpans_120 ?_
  refine z_iload 6 hc dX0_fillSpans_123 rfl ?_
  refine z_lald (kI := 125) (nI9 := 1445) hc tT_125 (by decide) rfl rfl (by decide) dX0_fillSpans_125 h (fun g10 h => ?_)
  refine z_aload_n (i := 0) 0 hc dX0_fillSpans_126 rfl rfl ?_
  refine z_getA (k' := 133) hc fl_RX0_23 tT_99 (by decide) rfl rfl dX0_fillSpans_127 ?_
  refine z_aload_n (i := 2) 2 hc dX0_fillSpans_130 rfl rfl ?_
  refine z_getI (kI := v2) (jI := 2) hc fl_RX0_90 (z_Saying_T hv2) (z_Saying_lt hv2) (z_Saying_c hv2) rfl rfl dX0_fillSpans_131 ?_
  refine z_iconst hc dX0_fillSpans_134 ?_
  refine z_isub hc dX0_fillSpans_135 ?_
  refine z_lald (kI := 133) (nI9 := 4) hc tT_133 (by decide) rfl rfl (by decide) dX0_fillSpans_136 h (fun g11 h => ?_)
  refine z_minJ hc ml_RX0_108 h ⟨rfl, rfl, Nat.le_of_ble_eq_true rfl, by omega⟩ dX0_fillSpans_137 (fun h => ?_)
  refine z_last (kI := 125) (nI9 := 1445) hc hap tT_125 (by decide) rfl rfl (by decide) dX0_fillSpans_140 h (fun st12 h => ?_)
  refine z_iinc [(6, .int (zI (v6 + 1))), (0, .ref (a 99)), (1, .int (zI v1)), (2, .ref (a v2.toNat)), (4, .int (zI v4)), (5, .int (zI v5)), (7, .int (zI v7))] 5 hc dX0_fillSpans_141 rfl (by decide) rfl ?_
  refine z_goto (tgt := 68) hc dX0_fillSpans_144 (by decide) ?_
  refine z_sub [(0, .ref (a 99)), (1, .int (zI v1)), (2, .ref (a v2.toNat)), (4, .int (zI v4)), (5, .int (zI v5)), (6, .int (zI (v6 + 1)))] [1, 2, 3, 4, 5, 0] rfl ?_
  exact k1 _ (Option.some.inj h).symm
def J_X0_fillSpans_b68 (v1 v2 v4 v5 v6 : Int) (st : z_St) : Option ((Int × z_St) ⊕ z_St) :=
  z_g (z32 v6 ∧ z32 v4) (if v4 < v6 then
    some (.inr st)
  else
    z_g (z32 (v6 - 1) ∧ z32 v5) (if v6 - 1 = v5 then
      J_X0_fillSpans_110 v1 v2 v4 v5 v6 ((((v1 * 17) + v5) * 17) + v6) 1 (v6 - 1) v2 st
    else
      J_X0_fillSpans_110 v1 v2 v4 v5 v6 ((((v1 * 17) + v5) * 17) + v6) 0 (v6 - 1) v2 st))
set_option maxRecDepth 100000 in
set_option maxHeartbeats 4000000 in
theorem w_X0_fillSpans_b68 {κ : zK} {a : Nat → Nat} {v1 v2 v4 v5 v6 : Int} {st : z_St} {mc9 ms9 : Nat} {o : (Int × z_St) ⊕ z_St} (hc : z_C κ RX0 cX0_fillSpans 8 10 mc9 ms9) (hap : z_AP κ a z_N) (hv2 : z_isSaying v2) (k1 : ∀ s9 : (Int × z_St), o = .inl s9 → z_V κ z_T z_N a 0 0 68 [(0, .ref (a 99)), (1, .int (zI v1)), (2, .ref (a v2.toNat)), (4, .int (zI v4)), (5, .int (zI v5)), (6, .int (zI s9.1))] [] s9.2) (k2 : ∀ x9 : z_St, o = .inr x9 → z_V κ z_T z_N a 0 0 147 [(0, .ref (a 99)), (1, .int (zI v1)), (2, .ref (a v2.toNat)), (4, .int (zI v4)), (5, .int (zI v5))] [] x9) (h : J_X0_fillSpans_b68 v1 v2 v4 v5 v6 st = some o) : z_V κ z_T z_N a 0 0 68 [(0, .ref (a 99)), (1, .int (zI v1)), (2, .ref (a v2.toNat)), (4, .int (zI v4)), (5, .int (zI v5)), (6, .int (zI v6))] [] st := by
  unfold J_X0_fillSpans_b68 at h
  refine z_iload 5 hc dX0_fillSpans_68 rfl ?_
  refine z_iload 3 hc dX0_fillSpans_70 rfl ?_
  refine z_icmp_gt (tgt := 147) hc dX0_fillSpans_72 (by decide) h (fun c72 h => ?_) (fun c72 h => ?_)
  · refine z_sub [(0, .ref (a 99)), (1, .int (zI v1)), (2, .ref (a v2.toNat)), (4, .int (zI v4)), (5, .int (zI v5))] [0, 1, 2, 3, 4] rfl ?_
    exact k2 st (Option.some.inj h).symm
  · refine z_iload_n (i := 1) 1 hc dX0_fillSpans_75 rfl rfl ?_
    refine z_bipush hc dX0_fillSpans_76 rfl ?_
    refine z_imul hc dX0_fillSpans_78 ?_
    refine z_iload 4 hc dX0_fillSpans_79 rfl ?_
    refine z_iadd hc dX0_fillSpans_81 ?_
    refine z_bipush hc dX0_fillSpans_82 rfl ?_
    refine z_imul hc dX0_fillSpans_84 ?_
    refine z_iload 5 hc dX0_fillSpans_85 rfl ?_
    refine z_iadd hc dX0_fillSpans_87 ?_
    refine z_istore [(7, .int (zI ((((v1 * 17) + v5) * 17) + v6))), (0, .ref (a 99)), (1, .int (zI v1)), (2, .ref (a v2.toNat)), (4, .int (zI v4)), (5, .int (zI v5)), (6, .int (zI v6))] hc dX0_fillSpans_88 (by decide) rfl ?_
    refine z_aload_n (i := 0) 1 hc dX0_fillSpans_90 rfl rfl ?_
    refine z_aload_n (i := 2) 3 hc dX0_fillSpans_91 rfl rfl ?_
    refine z_iload 6 hc dX0_fillSpans_92 rfl ?_
    refine z_iconst hc dX0_fillSpans_94 ?_
    refine z_isub hc dX0_fillSpans_95 ?_
    refine z_iload 6 hc dX0_fillSpans_96 rfl ?_
    refine z_iconst hc dX0_fillSpans_98 ?_
    refine z_isub hc dX0_fillSpans_99 ?_
    refine z_iload 5 hc dX0_fillSpans_100 rfl ?_
    refine z_icmp_ne (tgt := 109) hc dX0_fillSpans_102 (by decide) h (fun c102 h => ?_) (fun c102 h => ?_)
    · refine z_iconst hc dX0_fillSpans_105 ?_
      refine z_goto (tgt := 110) hc dX0_fillSpans_106 (by decide) ?_
      refine z_sub [(0, .ref (a 99)), (1, .int (zI v1)), (2, .ref (a v2.toNat)), (4, .int (zI v4)), (5, .int (zI v5)), (6, .int (zI v6)), (7, .int (zI ((((v1 * 17) + v5) * 17) + v6)))] [1, 2, 3, 4, 5, 6, 0] rfl ?_
      exact w_X0_fillSpans_110 hc hap hv2 hv2 k1 k2 h
    · refine z_iconst hc dX0_fillSpans_109 ?_
      refine z_sub [(0, .ref (a 99)), (1, .int (zI v1)), (2, .ref (a v2.toNat)), (4, .int (zI v4)), (5, .int (zI v5)), (6, .int (zI v6)), (7, .int (zI ((((v1 * 17) + v5) * 17) + v6)))] [1, 2, 3, 4, 5, 6, 0] rfl ?_
      exact w_X0_fillSpans_110 hc hap hv2 hv2 k1 k2 h
def J_X0_fillSpans_b45 (v1 v2 v4 v5 : Int) (st : z_St) : Option ((Int × z_St) ⊕ z_St) :=
  z_g (z32 v5 ∧ z32 v4) (if v5 < v4 then
    z_b (J_J7_fill_d0a16 4 133 1152921504606846976 st) fun st7 =>
    z_b (z_iter z_F (fun q9 : (Int × z_St) => J_X0_fillSpans_b68 v1 v2 v4 v5 q9.1 q9.2) (v5 + 1, st7)) fun lx13 =>
      some (.inl (v5 + 1, lx13))
  else
    some (.inr st))
set_option maxRecDepth 100000 in
set_option maxHeartbeats 4000000 in
theorem w_X0_fillSpans_b45 {κ : zK} {a : Nat → Nat} {v1 v2 v4 v5 : Int} {st : z_St} {mc9 ms9 : Nat} {o : (Int × z_St) ⊕ z_St} (hc : z_C κ RX0 cX0_fillSpans 8 10 mc9 ms9) (hap : z_AP κ a z_N) (hv2 : z_isSaying v2) (k1 : ∀ s9 : (Int × z_St), o = .inl s9 → z_V κ z_T z_N a 0 0 45 [(0, .ref (a 99)), (1, .int (zI v1)), (2, .ref (a v2.toNat)), (4, .int (zI v4)), (5, .int (zI s9.1))] [] s9.2) (k2 : ∀ x9 : z_St, o = .inr x9 → z_V κ z_T z_N a 0 0 153 [] [] x9) (h : J_X0_fillSpans_b45 v1 v2 v4 v5 st = some o) : z_V κ z_T z_N a 0 0 45 [(0, .ref (a 99)), (1, .int (zI v1)), (2, .ref (a v2.toNat)), (4, .int (zI v4)), (5, .int (zI v5))] [] st := by
  unfold J_X0_fillSpans_b45 at h
  refine z_iload 4 hc dX0_fillSpans_45 rfl ?_
  refine z_iload 3 hc dX0_fillSpans_47 rfl ?_
  refine z_icmp_ge (tgt := 153) hc dX0_fillSpans_49 (by decide) h (fun c49 h => ?_) (fun c49 h => ?_)
  · refine z_aload_n (i := 0) 0 hc dX0_fillSpans_52 rfl rfl ?_
    refine z_getA (k' := 133) hc fl_RX0_23 tT_99 (by decide) rfl rfl dX0_fillSpans_53 ?_
    refine z_ldc2 1152921504606846976 hc kc_RX0_44 dX0_fillSpans_56 rfl ?_
    obtain ⟨st7, hr6, h⟩ := z_b_some h
    refine z_callSV [.ref (a 133), .long (zJ 1152921504606846976)] hc hap o_J7_fill_d0a16 ml_RX0_46 (fun l hl => c_J7_fill_d0a16 hl (by decide) (z_isArr_lit (by decide) tT_133) hr6) (by decide) rfl rfl (Nat.le_of_ble_eq_true rfl) (Nat.zero_le _) (Nat.zero_le _) dX0_fillSpans_59 ?_
    refine z_iload 4 hc dX0_fillSpans_62 rfl ?_
    refine z_iconst hc dX0_fillSpans_64 ?_
    refine z_iadd hc dX0_fillSpans_65 ?_
    refine z_istore [(6, .int (zI (v5 + 1))), (0, .ref (a 99)), (1, .int (zI v1)), (2, .ref (a v2.toNat)), (4, .int (zI v4)), (5, .int (zI v5))] hc dX0_fillSpans_66 (by decide) rfl ?_
    obtain ⟨lx13, hlx13, h⟩ := z_b_some h
    refine z_sub [(0, .ref (a 99)), (1, .int (zI v1)), (2, .ref (a v2.toNat)), (4, .int (zI v4)), (5, .int (zI v5)), (6, .int (zI (v5 + 1)))] [1, 2, 3, 4, 5, 0] rfl ?_
    refine z_loop (fun q9 : (Int × z_St) => J_X0_fillSpans_b68 v1 v2 v4 v5 q9.1 q9.2) (fun q9 : (Int × z_St) => z_V κ z_T z_N a 0 0 68 [(0, .ref (a 99)), (1, .int (zI v1)), (2, .ref (a v2.toNat)), (4, .int (zI v4)), (5, .int (zI v5)), (6, .int (zI q9.1))] [] q9.2) (fun x9 : z_St => z_V κ z_T z_N a 0 0 147 [(0, .ref (a 99)), (1, .int (zI v1)), (2, .ref (a v2.toNat)), (4, .int (zI v4)), (5, .int (zI v5))] [] x9) (fun q9 o9 hb k1 k2 => ?_) _ _ _ hlx13 ?_
    · exact w_X0_fillSpans_b68 hc hap hv2 k1 k2 hb
    · show z_V κ z_T z_N a 0 0 147 [(0, .ref (a 99)), (1, .int (zI v1)), (2, .ref (a v2.toNat)), (4, .int (zI v4)), (5, .int (zI v5))] [] lx13
      refine z_iinc [(5, .int (zI (v5 + 1))), (0, .ref (a 99)), (1, .int (zI v1)), (2, .ref (a v2.toNat)), (4, .int (zI v4))] 4 hc dX0_fillSpans_147 rfl (by decide) rfl ?_
      refine z_goto (tgt := 45) hc dX0_fillSpans_150 (by decide) ?_
      refine z_sub [(0, .ref (a 99)), (1, .int (zI v1)), (2, .ref (a v2.toNat)), (4, .int (zI v4)), (5, .int (zI (v5 + 1)))] [1, 2, 3, 4, 0] rfl ?_
      exact k1 _ (Option.some.inj h).symm
  · refine z_sub [] [] rfl ?_
    exact k2 st (Option.some.inj h).symm
def J_X0_fillSpans (x1 x2 x4 : Int) (st : z_St) : Option (z_St) :=
  z_b (z_iter z_F (fun q9 : (Int × z_St) => J_X0_fillSpans_b3 x1 x2 x4 q9.1 q9.2) (0, st)) fun lx5 =>
    z_b (z_iter z_F (fun q9 : (Int × z_St) => J_X0_fillSpans_b45 x1 x2 x4 q9.1 q9.2) (0, lx5)) fun lx14 =>
      some lx14
set_option maxRecDepth 100000 in
set_option maxHeartbeats 4000000 in
theorem w_X0_fillSpans {κ : zK} {a : Nat → Nat} {x1 x2 x4 : Int} {st : z_St} {o : z_St} (hc : z_C κ RX0 cX0_fillSpans 8 10 0 0) (hap : z_AP κ a z_N) (hx2 : z_isSaying x2) (he : z_E 2 κ none z_T z_N a 0 o) (h : J_X0_fillSpans x1 x2 x4 st = some o) : z_V κ z_T z_N a 0 0 0 [(0, .ref (a 99)), (1, .int (zI x1)), (2, .ref (a x2.toNat)), (3, .ref (a 24)), (4, .int (zI x4))] [] st := by
  unfold J_X0_fillSpans at h
  refine z_iconst hc dX0_fillSpans_0 ?_
  refine z_istore [(5, .int (zI 0)), (0, .ref (a 99)), (1, .int (zI x1)), (2, .ref (a x2.toNat)), (3, .ref (a 24)), (4, .int (zI x4))] hc dX0_fillSpans_1 (by decide) rfl ?_
  obtain ⟨lx5, hlx5, h⟩ := z_b_some h
  refine z_sub [(0, .ref (a 99)), (1, .int (zI x1)), (2, .ref (a x2.toNat)), (3, .ref (a 24)), (4, .int (zI x4)), (5, .int (zI 0))] [1, 2, 3, 4, 5, 0] rfl ?_
  refine z_loop (fun q9 : (Int × z_St) => J_X0_fillSpans_b3 x1 x2 x4 q9.1 q9.2) (fun q9 : (Int × z_St) => z_V κ z_T z_N a 0 0 3 [(0, .ref (a 99)), (1, .int (zI x1)), (2, .ref (a x2.toNat)), (3, .ref (a 24)), (4, .int (zI x4)), (5, .int (zI q9.1))] [] q9.2) (fun x9 : z_St => z_V κ z_T z_N a 0 0 42 [(0, .ref (a 99)), (1, .int (zI x1)), (2, .ref (a x2.toNat)), (4, .int (zI x4))] [] x9) (fun q9 o9 hb k1 k2 => ?_) _ _ _ hlx5 ?_
  · exact w_X0_fillSpans_b3 hc hap hx2 k1 k2 hb
  · show z_V κ z_T z_N a 0 0 42 [(0, .ref (a 99)), (1, .int (zI x1)), (2, .ref (a x2.toNat)), (4, .int (zI x4))] [] lx5
    refine z_iconst hc dX0_fillSpans_42 ?_
    refine z_istore [(5, .int (zI 0)), (0, .ref (a 99)), (1, .int (zI x1)), (2, .ref (a x2.toNat)), (4, .int (zI x4))] hc dX0_fillSpans_43 (by decide) rfl ?_
    obtain ⟨lx14, hlx14, h⟩ := z_b_some h
    refine z_sub [(0, .ref (a 99)), (1, .int (zI x1)), (2, .ref (a x2.toNat)), (4, .int (zI x4)), (5, .int (zI 0))] [1, 2, 3, 4, 0] rfl ?_
    refine z_loop (fun q9 : (Int × z_St) => J_X0_fillSpans_b45 x1 x2 x4 q9.1 q9.2) (fun q9 : (Int × z_St) => z_V κ z_T z_N a 0 0 45 [(0, .ref (a 99)), (1, .int (zI x1)), (2, .ref (a x2.toNat)), (4, .int (zI x4)), (5, .int (zI q9.1))] [] q9.2) (fun x9 : z_St => z_V κ z_T z_N a 0 0 153 [] [] x9) (fun q9 o9 hb k1 k2 => ?_) _ _ _ hlx14 ?_
    · exact w_X0_fillSpans_b45 hc hap hx2 k1 k2 hb
    · show z_V κ z_T z_N a 0 0 153 [] [] lx14
      have h := Option.some.inj h
      subst h
      exact z_retV hc he dX0_fillSpans_153
set_option maxRecDepth 100000 in
set_option maxHeartbeats 4000000 in
theorem c_X0_fillSpans {l : Launch} (hl : l.stackTraces = false) {a : Nat → Nat} {x1 x2 x4 : Int} {st : z_St} {o : z_St} (hx2 : z_isSaying x2) (h : J_X0_fillSpans x1 x2 x4 st = some o) : z_M 2 l yX0_fillSpans cX0_fillSpans 8 none 10 z_T z_N a [.ref (a 99), .int (zI x1), .ref (a x2.toNat), .ref (a 24), .int (zI x4)] st 0 o := z_of hl (by decide +kernel) (Nat.le_of_ble_eq_true rfl) (fun κ hc hap he => w_X0_fillSpans hc hap hx2 he h)
theorem dX2_logarithm_0 : decode cX2_logarithm 0 = .ok (.iconst 0, 1) := by decide +kernel
theorem dX2_logarithm_1 : decode cX2_logarithm 1 = .ok (.istore_n 1, 1) := by decide +kernel
theorem dX2_logarithm_2 : decode cX2_logarithm 2 = .ok (.iload_n 0, 1) := by decide +kernel
theorem dX2_logarithm_3 : decode cX2_logarithm 3 = .ok (.istore_n 2, 1) := by decide +kernel
theorem dX2_logarithm_4 : decode cX2_logarithm 4 = .ok (.iload_n 2, 1) := by decide +kernel
theorem dX2_logarithm_5 : decode cX2_logarithm 5 = .ok (.iconst 1, 1) := by decide +kernel
theorem dX2_logarithm_6 : decode cX2_logarithm 6 = .ok (.if_icmp .le 13, 3) := by decide +kernel
theorem dX2_logarithm_9 : decode cX2_logarithm 9 = .ok (.iinc 1 1, 3) := by decide +kernel
theorem dX2_logarithm_12 : decode cX2_logarithm 12 = .ok (.iload_n 2, 1) := by decide +kernel
theorem dX2_logarithm_13 : decode cX2_logarithm 13 = .ok (.iconst 1, 1) := by decide +kernel
theorem dX2_logarithm_14 : decode cX2_logarithm 14 = .ok (.ishr, 1) := by decide +kernel
theorem dX2_logarithm_15 : decode cX2_logarithm 15 = .ok (.istore_n 2, 1) := by decide +kernel
theorem dX2_logarithm_16 : decode cX2_logarithm 16 = .ok (.goto (-12), 3) := by decide +kernel
theorem dX2_logarithm_19 : decode cX2_logarithm 19 = .ok (.ldc2_w 39, 3) := by decide +kernel
theorem dX2_logarithm_22 : decode cX2_logarithm 22 = .ok (.iload_n 1, 1) := by decide +kernel
theorem dX2_logarithm_23 : decode cX2_logarithm 23 = .ok (.i2l, 1) := by decide +kernel
theorem dX2_logarithm_24 : decode cX2_logarithm 24 = .ok (.lmul, 1) := by decide +kernel
theorem dX2_logarithm_25 : decode cX2_logarithm 25 = .ok (.ldc2_w 39, 3) := by decide +kernel
theorem dX2_logarithm_28 : decode cX2_logarithm 28 = .ok (.iload_n 0, 1) := by decide +kernel
theorem dX2_logarithm_29 : decode cX2_logarithm 29 = .ok (.i2l, 1) := by decide +kernel
theorem dX2_logarithm_30 : decode cX2_logarithm 30 = .ok (.lmul, 1) := by decide +kernel
theorem dX2_logarithm_31 : decode cX2_logarithm 31 = .ok (.iload_n 1, 1) := by decide +kernel
theorem dX2_logarithm_32 : decode cX2_logarithm 32 = .ok (.lshr, 1) := by decide +kernel
theorem dX2_logarithm_33 : decode cX2_logarithm 33 = .ok (.ladd, 1) := by decide +kernel
theorem dX2_logarithm_34 : decode cX2_logarithm 34 = .ok (.ldc2_w 39, 3) := by decide +kernel
theorem dX2_logarithm_37 : decode cX2_logarithm 37 = .ok (.lsub, 1) := by decide +kernel
theorem dX2_logarithm_38 : decode cX2_logarithm 38 = .ok (.lreturn, 1) := by decide +kernel
def J_X2_logarithm_b4 (v0 v1 v2 : Int) (st : z_St) : Option ((Int × Int) ⊕ Int) :=
  z_g (z32 v2 ∧ z32 1) (if 1 < v2 then
    some (.inl (v1 + 1, z_ishr v2 1))
  else
    some (.inr v1))
set_option maxRecDepth 100000 in
set_option maxHeartbeats 4000000 in
theorem w_X2_logarithm_b4 {κ : zK} {a : Nat → Nat} {v0 v1 v2 : Int} {st : z_St} {mc9 ms9 : Nat} {o : (Int × Int) ⊕ Int} (hc : z_C κ RX2 cX2_logarithm 3 8 mc9 ms9) (hap : z_AP κ a z_N) (k1 : ∀ s9 : (Int × Int), o = .inl s9 → z_V κ z_T z_N a 0 0 4 [(0, .int (zI v0)), (1, .int (zI s9.1)), (2, .int (zI s9.2))] [] st) (k2 : ∀ x9 : Int, o = .inr x9 → z_V κ z_T z_N a 0 0 19 [(0, .int (zI v0)), (1, .int (zI x9))] [] st) (h : J_X2_logarithm_b4 v0 v1 v2 st = some o) : z_V κ z_T z_N a 0 0 4 [(0, .int (zI v0)), (1, .int (zI v1)), (2, .int (zI v2))] [] st := by
  unfold J_X2_logarithm_b4 at h
  refine z_iload_n (i := 2) 2 hc dX2_logarithm_4 rfl rfl ?_
  refine z_iconst hc dX2_logarithm_5 ?_
  refine z_icmp_le (tgt := 19) hc dX2_logarithm_6 (by decide) h (fun c6 h => ?_) (fun c6 h => ?_)
  · refine z_iinc [(1, .int (zI (v1 + 1))), (0, .int (zI v0)), (2, .int (zI v2))] 1 hc dX2_logarithm_9 rfl (by decide) rfl ?_
    refine z_iload_n (i := 2) 2 hc dX2_logarithm_12 rfl rfl ?_
    refine z_iconst hc dX2_logarithm_13 ?_
    refine z_ishr_r hc dX2_logarithm_14 ?_
    refine z_istore_n (i := 2) [(2, .int (zI (z_ishr v2 1))), (1, .int (zI (v1 + 1))), (0, .int (zI v0))] hc dX2_logarithm_15 rfl (by decide) rfl ?_
    refine z_goto (tgt := 4) hc dX2_logarithm_16 (by decide) ?_
    refine z_sub [(0, .int (zI v0)), (1, .int (zI (v1 + 1))), (2, .int (zI (z_ishr v2 1)))] [2, 1, 0] rfl ?_
    exact k1 _ (Option.some.inj h).symm
  · refine z_sub [(0, .int (zI v0)), (1, .int (zI v1))] [0, 1] rfl ?_
    exact k2 v1 (Option.some.inj h).symm
def J_X2_logarithm (x0 : Int) (st : z_St) : Option (Int) :=
  z_b (z_iter z_F (fun q9 : (Int × Int) => J_X2_logarithm_b4 x0 q9.1 q9.2 st) (0, x0)) fun lx1 =>
    z_g (z32 lx1) <|
    z_g (z32 x0) <|
    some (((8 * lx1) + (z_lshr (8 * x0) lx1)) - 8)
set_option maxRecDepth 100000 in
set_option maxHeartbeats 4000000 in
theorem w_X2_logarithm {κ : zK} {a : Nat → Nat} {x0 : Int} {st : z_St} {o : Int} (hc : z_C κ RX2 cX2_logarithm 3 8 0 0) (hap : z_AP κ a z_N) (he : z_E 1 κ (some .long) z_T z_N a o st) (h : J_X2_logarithm x0 st = some o) : z_V κ z_T z_N a 0 0 0 [(0, .int (zI x0))] [] st := by
  unfold J_X2_logarithm at h
  refine z_iconst hc dX2_logarithm_0 ?_
  refine z_istore_n (i := 1) [(1, .int (zI 0)), (0, .int (zI x0))] hc dX2_logarithm_1 rfl (by decide) rfl ?_
  refine z_iload_n (i := 0) 1 hc dX2_logarithm_2 rfl rfl ?_
  refine z_istore_n (i := 2) [(2, .int (zI x0)), (1, .int (zI 0)), (0, .int (zI x0))] hc dX2_logarithm_3 rfl (by decide) rfl ?_
  obtain ⟨lx1, hlx1, h⟩ := z_b_some h
  refine z_sub [(0, .int (zI x0)), (1, .int (zI 0)), (2, .int (zI x0))] [2, 1, 0] rfl ?_
  refine z_loop (fun q9 : (Int × Int) => J_X2_logarithm_b4 x0 q9.1 q9.2 st) (fun q9 : (Int × Int) => z_V κ z_T z_N a 0 0 4 [(0, .int (zI x0)), (1, .int (zI q9.1)), (2, .int (zI q9.2))] [] st) (fun x9 : Int => z_V κ z_T z_N a 0 0 19 [(0, .int (zI x0)), (1, .int (zI x9))] [] st) (fun q9 o9 hb k1 k2 => ?_) _ _ _ hlx1 ?_
  · exact w_X2_logarithm_b4 hc hap k1 k2 hb
  · show z_V κ z_T z_N a 0 0 19 [(0, .int (zI x0)), (1, .int (zI lx1))] [] st
    refine z_ldc2 8 hc kc_RX2_39 dX2_logarithm_19 rfl ?_
    refine z_iload_n (i := 1) 1 hc dX2_logarithm_22 rfl rfl ?_
    refine z_i2l hc dX2_logarithm_23 h (fun h => ?_)
    refine z_lmul hc dX2_logarithm_24 ?_
    refine z_ldc2 8 hc kc_RX2_39 dX2_logarithm_25 rfl ?_
    refine z_iload_n (i := 0) 0 hc dX2_logarithm_28 rfl rfl ?_
    refine z_i2l hc dX2_logarithm_29 h (fun h => ?_)
    refine z_lmul hc dX2_logarithm_30 ?_
    refine z_iload_n (i := 1) 1 hc dX2_logarithm_31 rfl rfl ?_
    refine z_lshr_r hc dX2_logarithm_32 ?_
    refine z_ladd hc dX2_logarithm_33 ?_
    refine z_ldc2 8 hc kc_RX2_39 dX2_logarithm_34 rfl ?_
    refine z_lsub hc dX2_logarithm_37 ?_
    have h := Option.some.inj h
    subst h
    exact z_retJ hc he dX2_logarithm_38
set_option maxRecDepth 100000 in
set_option maxHeartbeats 4000000 in
theorem c_X2_logarithm {l : Launch} (hl : l.stackTraces = false) {a : Nat → Nat} {x0 : Int} {st : z_St} {o : Int} (h : J_X2_logarithm x0 st = some o) : z_M 1 l yX2_logarithm cX2_logarithm 3 (some .long) 8 z_T z_N a [.int (zI x0)] st o st := z_of hl (by decide +kernel) (Nat.le_of_ble_eq_true rfl) (fun κ hc hap he => w_X2_logarithm hc hap he h)
theorem dX2_priceOf_0 : decode cX2_priceOf 0 = .ok (.aload_n 0, 1) := by decide +kernel
theorem dX2_priceOf_1 : decode cX2_priceOf 1 = .ok (.getfield 11, 3) := by decide +kernel
theorem dX2_priceOf_4 : decode cX2_priceOf 4 = .ok (.iload_n 1, 1) := by decide +kernel
theorem dX2_priceOf_5 : decode cX2_priceOf 5 = .ok (.iconst 1, 1) := by decide +kernel
theorem dX2_priceOf_6 : decode cX2_priceOf 6 = .ok (.iadd, 1) := by decide +kernel
theorem dX2_priceOf_7 : decode cX2_priceOf 7 = .ok (.aaload, 1) := by decide +kernel
theorem dX2_priceOf_8 : decode cX2_priceOf 8 = .ok (.iload_n 2, 1) := by decide +kernel
theorem dX2_priceOf_9 : decode cX2_priceOf 9 = .ok (.iconst 1, 1) := by decide +kernel
theorem dX2_priceOf_10 : decode cX2_priceOf 10 = .ok (.iadd, 1) := by decide +kernel
theorem dX2_priceOf_11 : decode cX2_priceOf 11 = .ok (.iaload, 1) := by decide +kernel
theorem dX2_priceOf_12 : decode cX2_priceOf 12 = .ok (.istore_n 3, 1) := by decide +kernel
theorem dX2_priceOf_13 : decode cX2_priceOf 13 = .ok (.iload_n 3, 1) := by decide +kernel
theorem dX2_priceOf_14 : decode cX2_priceOf 14 = .ok (.ifCond .le 24, 3) := by decide +kernel
theorem dX2_priceOf_17 : decode cX2_priceOf 17 = .ok (.ldc2_w 33, 3) := by decide +kernel
theorem dX2_priceOf_20 : decode cX2_priceOf 20 = .ok (.aload_n 0, 1) := by decide +kernel
theorem dX2_priceOf_21 : decode cX2_priceOf 21 = .ok (.getfield 16, 3) := by decide +kernel
theorem dX2_priceOf_24 : decode cX2_priceOf 24 = .ok (.iload_n 1, 1) := by decide +kernel
theorem dX2_priceOf_25 : decode cX2_priceOf 25 = .ok (.iconst 1, 1) := by decide +kernel
theorem dX2_priceOf_26 : decode cX2_priceOf 26 = .ok (.iadd, 1) := by decide +kernel
theorem dX2_priceOf_27 : decode cX2_priceOf 27 = .ok (.iaload, 1) := by decide +kernel
theorem dX2_priceOf_28 : decode cX2_priceOf 28 = .ok (.invokestatic 35, 3) := by decide +kernel
theorem dX2_priceOf_31 : decode cX2_priceOf 31 = .ok (.iload_n 3, 1) := by decide +kernel
theorem dX2_priceOf_32 : decode cX2_priceOf 32 = .ok (.invokestatic 35, 3) := by decide +kernel
theorem dX2_priceOf_35 : decode cX2_priceOf 35 = .ok (.lsub, 1) := by decide +kernel
theorem dX2_priceOf_36 : decode cX2_priceOf 36 = .ok (.lmul, 1) := by decide +kernel
theorem dX2_priceOf_37 : decode cX2_priceOf 37 = .ok (.lreturn, 1) := by decide +kernel
theorem dX2_priceOf_38 : decode cX2_priceOf 38 = .ok (.aload_n 0, 1) := by decide +kernel
theorem dX2_priceOf_39 : decode cX2_priceOf 39 = .ok (.getfield 27, 3) := by decide +kernel
theorem dX2_priceOf_42 : decode cX2_priceOf 42 = .ok (.i2l, 1) := by decide +kernel
theorem dX2_priceOf_43 : decode cX2_priceOf 43 = .ok (.ldc2_w 33, 3) := by decide +kernel
theorem dX2_priceOf_46 : decode cX2_priceOf 46 = .ok (.aload_n 0, 1) := by decide +kernel
theorem dX2_priceOf_47 : decode cX2_priceOf 47 = .ok (.getfield 23, 3) := by decide +kernel
theorem dX2_priceOf_50 : decode cX2_priceOf 50 = .ok (.bipush 6, 2) := by decide +kernel
theorem dX2_priceOf_52 : decode cX2_priceOf 52 = .ok (.iadd, 1) := by decide +kernel
theorem dX2_priceOf_53 : decode cX2_priceOf 53 = .ok (.invokestatic 35, 3) := by decide +kernel
theorem dX2_priceOf_56 : decode cX2_priceOf 56 = .ok (.aload_n 0, 1) := by decide +kernel
theorem dX2_priceOf_57 : decode cX2_priceOf 57 = .ok (.getfield 20, 3) := by decide +kernel
theorem dX2_priceOf_60 : decode cX2_priceOf 60 = .ok (.iload_n 2, 1) := by decide +kernel
theorem dX2_priceOf_61 : decode cX2_priceOf 61 = .ok (.iconst 1, 1) := by decide +kernel
theorem dX2_priceOf_62 : decode cX2_priceOf 62 = .ok (.iadd, 1) := by decide +kernel
theorem dX2_priceOf_63 : decode cX2_priceOf 63 = .ok (.iaload, 1) := by decide +kernel
theorem dX2_priceOf_64 : decode cX2_priceOf 64 = .ok (.iconst 1, 1) := by decide +kernel
theorem dX2_priceOf_65 : decode cX2_priceOf 65 = .ok (.iadd, 1) := by decide +kernel
theorem dX2_priceOf_66 : decode cX2_priceOf 66 = .ok (.invokestatic 35, 3) := by decide +kernel
theorem dX2_priceOf_69 : decode cX2_priceOf 69 = .ok (.lsub, 1) := by decide +kernel
theorem dX2_priceOf_70 : decode cX2_priceOf 70 = .ok (.lmul, 1) := by decide +kernel
theorem dX2_priceOf_71 : decode cX2_priceOf 71 = .ok (.ladd, 1) := by decide +kernel
theorem dX2_priceOf_72 : decode cX2_priceOf 72 = .ok (.lreturn, 1) := by decide +kernel
def J_X2_priceOf (x1 x2 : Int) (st : z_St) : Option (Int) :=
  z_g (0 ≤ x1 + 1 ∧ x1 + 1 < 6) <|
  z_g (0 ≤ x2 + 1 ∧ x2 + 1 < 6) <|
  z_g (z32 (st (91 + (x1 + 1)) (x2 + 1))) (if 0 < st (91 + (x1 + 1)) (x2 + 1) then
    z_g (0 ≤ x1 + 1 ∧ x1 + 1 < 6) <|
    z_b (J_X2_logarithm (st 97 (x1 + 1)) st) fun r4 =>
    z_b (J_X2_logarithm (st (91 + (x1 + 1)) (x2 + 1)) st) fun r6 =>
    some (100 * (r4 - r6))
  else
    z_g (z32 (st 89 4)) <|
    z_b (J_X2_logarithm ((st 89 3) + 6) st) fun r8 =>
    z_g (0 ≤ x2 + 1 ∧ x2 + 1 < 6) <|
    z_b (J_X2_logarithm ((st 98 (x2 + 1)) + 1) st) fun r11 =>
    some ((st 89 4) + (100 * (r8 - r11))))
set_option maxRecDepth 100000 in
set_option maxHeartbeats 4000000 in
theorem w_X2_priceOf {κ : zK} {a : Nat → Nat} {x1 x2 : Int} {st : z_St} {o : Int} (hc : z_C κ RX2 cX2_priceOf 4 9 0 0) (hap : z_AP κ a z_N) (he : z_E 1 κ (some .long) z_T z_N a o st) (h : J_X2_priceOf x1 x2 st = some o) : z_V κ z_T z_N a 0 0 0 [(0, .ref (a 89)), (1, .int (zI x1)), (2, .int (zI x2))] [] st := by
  unfold J_X2_priceOf at h
  refine z_aload_n (i := 0) 0 hc dX2_priceOf_0 rfl rfl ?_
  refine z_getA (k' := 90) hc fl_RX2_11 tT_89 (by decide) rfl rfl dX2_priceOf_1 ?_
  refine z_iload_n (i := 1) 1 hc dX2_priceOf_4 rfl rfl ?_
  refine z_iconst hc dX2_priceOf_5 ?_
  refine z_iadd hc dX2_priceOf_6 ?_
  refine z_aald (r := 91 + (x1 + 1)) (nI9 := 6) hc tT_90 (by decide) (by decide) rfl (by decide) (fun j9 hj9 => by omega) dX2_priceOf_7 h (fun g1 h => ?_)
  refine z_iload_n (i := 2) 2 hc dX2_priceOf_8 rfl rfl ?_
  refine z_iconst hc dX2_priceOf_9 ?_
  refine z_iadd hc dX2_priceOf_10 ?_
  refine z_iald (kI := 91 + (x1 + 1)) (nI9 := 6) hc (z_row_90 g1).2.2 (z_row_90 g1).2.1 (Int.toNat_of_nonneg (z_row_90 g1).1) rfl (by decide) dX2_priceOf_11 h (fun g2 h => ?_)
  refine z_istore_n (i := 3) [(3, .int (zI (st (91 + (x1 + 1)) (x2 + 1)))), (0, .ref (a 89)), (1, .int (zI x1)), (2, .int (zI x2))] hc dX2_priceOf_12 rfl (by decide) rfl ?_
  refine z_iload_n (i := 3) 0 hc dX2_priceOf_13 rfl rfl ?_
  refine z_if_le (tgt := 38) hc dX2_priceOf_14 (by decide) h (fun c14 h => ?_) (fun c14 h => ?_)
  · refine z_ldc2 100 hc kc_RX2_33 dX2_priceOf_17 rfl ?_
    refine z_aload_n (i := 0) 1 hc dX2_priceOf_20 rfl rfl ?_
    refine z_getA (k' := 97) hc fl_RX2_16 tT_89 (by decide) rfl rfl dX2_priceOf_21 ?_
    refine z_iload_n (i := 1) 2 hc dX2_priceOf_24 rfl rfl ?_
    refine z_iconst hc dX2_priceOf_25 ?_
    refine z_iadd hc dX2_priceOf_26 ?_
    refine z_iald (kI := 97) (nI9 := 6) hc tT_97 (by decide) rfl rfl (by decide) dX2_priceOf_27 h (fun g3 h => ?_)
    obtain ⟨r4, hr4, h⟩ := z_b_some h
    refine z_callSJ [.int (zI (st 97 (x1 + 1)))] hc hap o_X2_logarithm ml_RX2_35 (fun l hl => c_X2_logarithm hl  hr4) (by decide) rfl rfl (Nat.le_of_ble_eq_true rfl) (Nat.zero_le _) (Nat.zero_le _) dX2_priceOf_28 ?_
    refine z_iload_n (i := 3) 0 hc dX2_priceOf_31 rfl rfl ?_
    obtain ⟨r6, hr6, h⟩ := z_b_some h
    refine z_callSJ [.int (zI (st (91 + (x1 + 1)) (x2 + 1)))] hc hap o_X2_logarithm ml_RX2_35 (fun l hl => c_X2_logarithm hl  hr6) (by decide) rfl rfl (Nat.le_of_ble_eq_true rfl) (Nat.zero_le _) (Nat.zero_le _) dX2_priceOf_32 ?_
    refine z_lsub hc dX2_priceOf_35 ?_
    refine z_lmul hc dX2_priceOf_36 ?_
    have h := Option.some.inj h
    subst h
    exact z_retJ hc he dX2_priceOf_37
  · refine z_aload_n (i := 0) 1 hc dX2_priceOf_38 rfl rfl ?_
    refine z_getI (kI := 89) (jI := 4) hc fl_RX2_27 tT_89 (by decide) rfl rfl rfl dX2_priceOf_39 ?_
    refine z_i2l hc dX2_priceOf_42 h (fun h => ?_)
    refine z_ldc2 100 hc kc_RX2_33 dX2_priceOf_43 rfl ?_
    refine z_aload_n (i := 0) 1 hc dX2_priceOf_46 rfl rfl ?_
    refine z_getI (kI := 89) (jI := 3) hc fl_RX2_23 tT_89 (by decide) rfl rfl rfl dX2_priceOf_47 ?_
    refine z_bipush hc dX2_priceOf_50 rfl ?_
    refine z_iadd hc dX2_priceOf_52 ?_
    obtain ⟨r8, hr8, h⟩ := z_b_some h
    refine z_callSJ [.int (zI ((st 89 3) + 6))] hc hap o_X2_logarithm ml_RX2_35 (fun l hl => c_X2_logarithm hl  hr8) (by decide) rfl rfl (Nat.le_of_ble_eq_true rfl) (Nat.zero_le _) (Nat.zero_le _) dX2_priceOf_53 ?_
    refine z_aload_n (i := 0) 1 hc dX2_priceOf_56 rfl rfl ?_
    refine z_getA (k' := 98) hc fl_RX2_20 tT_89 (by decide) rfl rfl dX2_priceOf_57 ?_
    refine z_iload_n (i := 2) 3 hc dX2_priceOf_60 rfl rfl ?_
    refine z_iconst hc dX2_priceOf_61 ?_
    refine z_iadd hc dX2_priceOf_62 ?_
    refine z_iald (kI := 98) (nI9 := 6) hc tT_98 (by decide) rfl rfl (by decide) dX2_priceOf_63 h (fun g10 h => ?_)
    refine z_iconst hc dX2_priceOf_64 ?_
    refine z_iadd hc dX2_priceOf_65 ?_
    obtain ⟨r11, hr11, h⟩ := z_b_some h
    refine z_callSJ [.int (zI ((st 98 (x2 + 1)) + 1))] hc hap o_X2_logarithm ml_RX2_35 (fun l hl => c_X2_logarithm hl  hr11) (by decide) rfl rfl (Nat.le_of_ble_eq_true rfl) (Nat.zero_le _) (Nat.zero_le _) dX2_priceOf_66 ?_
    refine z_lsub hc dX2_priceOf_69 ?_
    refine z_lmul hc dX2_priceOf_70 ?_
    refine z_ladd hc dX2_priceOf_71 ?_
    have h := Option.some.inj h
    subst h
    exact z_retJ hc he dX2_priceOf_72
set_option maxRecDepth 100000 in
set_option maxHeartbeats 4000000 in
theorem c_X2_priceOf {l : Launch} (hl : l.stackTraces = false) {a : Nat → Nat} {x1 x2 : Int} {st : z_St} {o : Int} (h : J_X2_priceOf x1 x2 st = some o) : z_M 1 l yX2_priceOf cX2_priceOf 4 (some .long) 9 z_T z_N a [.ref (a 89), .int (zI x1), .int (zI x2)] st o st := z_of hl (by decide +kernel) (Nat.le_of_ble_eq_true rfl) (fun κ hc hap he => w_X2_priceOf hc hap he h)
theorem dX0_fill_0 : decode cX0_fill 0 = .ok (.iconst 0, 1) := by decide +kernel
theorem dX0_fill_1 : decode cX0_fill 1 = .ok (.istore 4, 2) := by decide +kernel
theorem dX0_fill_3 : decode cX0_fill 3 = .ok (.iload 4, 2) := by decide +kernel
theorem dX0_fill_5 : decode cX0_fill 5 = .ok (.aload_n 2, 1) := by decide +kernel
theorem dX0_fill_6 : decode cX0_fill 6 = .ok (.getfield 30, 3) := by decide +kernel
theorem dX0_fill_9 : decode cX0_fill 9 = .ok (.if_icmp .ge 23, 3) := by decide +kernel
theorem dX0_fill_12 : decode cX0_fill 12 = .ok (.aload_n 0, 1) := by decide +kernel
theorem dX0_fill_13 : decode cX0_fill 13 = .ok (.iload 4, 2) := by decide +kernel
theorem dX0_fill_15 : decode cX0_fill 15 = .ok (.aload_n 2, 1) := by decide +kernel
theorem dX0_fill_16 : decode cX0_fill 16 = .ok (.getfield 36, 3) := by decide +kernel
theorem dX0_fill_19 : decode cX0_fill 19 = .ok (.iload 4, 2) := by decide +kernel
theorem dX0_fill_21 : decode cX0_fill 21 = .ok (.aaload, 1) := by decide +kernel
theorem dX0_fill_22 : decode cX0_fill 22 = .ok (.aload_n 1, 1) := by decide +kernel
theorem dX0_fill_23 : decode cX0_fill 23 = .ok (.invokevirtual 40, 3) := by decide +kernel
theorem dX0_fill_26 : decode cX0_fill 26 = .ok (.iinc 4 1, 3) := by decide +kernel
theorem dX0_fill_29 : decode cX0_fill 29 = .ok (.goto (-26), 3) := by decide +kernel
theorem dX0_fill_32 : decode cX0_fill 32 = .ok (.aload_n 0, 1) := by decide +kernel
theorem dX0_fill_33 : decode cX0_fill 33 = .ok (.getfield 16, 3) := by decide +kernel
theorem dX0_fill_36 : decode cX0_fill 36 = .ok (.ldc2_w 44, 3) := by decide +kernel
theorem dX0_fill_39 : decode cX0_fill 39 = .ok (.invokestatic 46, 3) := by decide +kernel
theorem dX0_fill_42 : decode cX0_fill 42 = .ok (.iconst 0, 1) := by decide +kernel
theorem dX0_fill_43 : decode cX0_fill 43 = .ok (.istore 4, 2) := by decide +kernel
theorem dX0_fill_45 : decode cX0_fill 45 = .ok (.iload 4, 2) := by decide +kernel
theorem dX0_fill_47 : decode cX0_fill 47 = .ok (.aload_n 2, 1) := by decide +kernel
theorem dX0_fill_48 : decode cX0_fill 48 = .ok (.getfield 52, 3) := by decide +kernel
theorem dX0_fill_51 : decode cX0_fill 51 = .ok (.if_icmp .ge 49, 3) := by decide +kernel
theorem dX0_fill_54 : decode cX0_fill 54 = .ok (.iconst 0, 1) := by decide +kernel
theorem dX0_fill_55 : decode cX0_fill 55 = .ok (.istore 5, 2) := by decide +kernel
theorem dX0_fill_57 : decode cX0_fill 57 = .ok (.iload 5, 2) := by decide +kernel
theorem dX0_fill_59 : decode cX0_fill 59 = .ok (.aload_n 2, 1) := by decide +kernel
theorem dX0_fill_60 : decode cX0_fill 60 = .ok (.getfield 55, 3) := by decide +kernel
theorem dX0_fill_63 : decode cX0_fill 63 = .ok (.iload 4, 2) := by decide +kernel
theorem dX0_fill_65 : decode cX0_fill 65 = .ok (.iaload, 1) := by decide +kernel
theorem dX0_fill_66 : decode cX0_fill 66 = .ok (.if_icmp .ge 28, 3) := by decide +kernel
theorem dX0_fill_69 : decode cX0_fill 69 = .ok (.aload_n 0, 1) := by decide +kernel
theorem dX0_fill_70 : decode cX0_fill 70 = .ok (.iload 4, 2) := by decide +kernel
theorem dX0_fill_72 : decode cX0_fill 72 = .ok (.aload_n 2, 1) := by decide +kernel
theorem dX0_fill_73 : decode cX0_fill 73 = .ok (.iload 4, 2) := by decide +kernel
theorem dX0_fill_75 : decode cX0_fill 75 = .ok (.iload 5, 2) := by decide +kernel
theorem dX0_fill_77 : decode cX0_fill 77 = .ok (.invokevirtual 59, 3) := by decide +kernel
theorem dX0_fill_80 : decode cX0_fill 80 = .ok (.aload_n 2, 1) := by decide +kernel
theorem dX0_fill_81 : decode cX0_fill 81 = .ok (.aload_n 1, 1) := by decide +kernel
theorem dX0_fill_82 : decode cX0_fill 82 = .ok (.getfield 63, 3) := by decide +kernel
theorem dX0_fill_85 : decode cX0_fill 85 = .ok (.invokevirtual 68, 3) := by decide +kernel
theorem dX0_fill_88 : decode cX0_fill 88 = .ok (.iinc 5 1, 3) := by decide +kernel
theorem dX0_fill_91 : decode cX0_fill 91 = .ok (.goto (-34), 3) := by decide +kernel
theorem dX0_fill_94 : decode cX0_fill 94 = .ok (.iinc 4 1, 3) := by decide +kernel
theorem dX0_fill_97 : decode cX0_fill 97 = .ok (.goto (-52), 3) := by decide +kernel
theorem dX0_fill_100 : decode cX0_fill 100 = .ok (.iconst (-1), 1) := by decide +kernel
theorem dX0_fill_101 : decode cX0_fill 101 = .ok (.istore 4, 2) := by decide +kernel
theorem dX0_fill_103 : decode cX0_fill 103 = .ok (.iload 4, 2) := by decide +kernel
theorem dX0_fill_105 : decode cX0_fill 105 = .ok (.aload_n 2, 1) := by decide +kernel
theorem dX0_fill_106 : decode cX0_fill 106 = .ok (.getfield 52, 3) := by decide +kernel
theorem dX0_fill_109 : decode cX0_fill 109 = .ok (.if_icmp .ge 55, 3) := by decide +kernel
theorem dX0_fill_112 : decode cX0_fill 112 = .ok (.iconst (-1), 1) := by decide +kernel
theorem dX0_fill_113 : decode cX0_fill 113 = .ok (.istore 5, 2) := by decide +kernel
theorem dX0_fill_115 : decode cX0_fill 115 = .ok (.iload 5, 2) := by decide +kernel
theorem dX0_fill_117 : decode cX0_fill 117 = .ok (.aload_n 2, 1) := by decide +kernel
theorem dX0_fill_118 : decode cX0_fill 118 = .ok (.getfield 52, 3) := by decide +kernel
theorem dX0_fill_121 : decode cX0_fill 121 = .ok (.if_icmp .ge 37, 3) := by decide +kernel
theorem dX0_fill_124 : decode cX0_fill 124 = .ok (.aload_n 0, 1) := by decide +kernel
theorem dX0_fill_125 : decode cX0_fill 125 = .ok (.getfield 20, 3) := by decide +kernel
theorem dX0_fill_128 : decode cX0_fill 128 = .ok (.iload 4, 2) := by decide +kernel
theorem dX0_fill_130 : decode cX0_fill 130 = .ok (.iconst 1, 1) := by decide +kernel
theorem dX0_fill_131 : decode cX0_fill 131 = .ok (.iadd, 1) := by decide +kernel
theorem dX0_fill_132 : decode cX0_fill 132 = .ok (.aaload, 1) := by decide +kernel
theorem dX0_fill_133 : decode cX0_fill 133 = .ok (.iload 5, 2) := by decide +kernel
theorem dX0_fill_135 : decode cX0_fill 135 = .ok (.iconst 1, 1) := by decide +kernel
theorem dX0_fill_136 : decode cX0_fill 136 = .ok (.iadd, 1) := by decide +kernel
theorem dX0_fill_137 : decode cX0_fill 137 = .ok (.aload_n 3, 1) := by decide +kernel
theorem dX0_fill_138 : decode cX0_fill 138 = .ok (.getfield 72, 3) := by decide +kernel
theorem dX0_fill_141 : decode cX0_fill 141 = .ok (.i2l, 1) := by decide +kernel
theorem dX0_fill_142 : decode cX0_fill 142 = .ok (.aload_n 3, 1) := by decide +kernel
theorem dX0_fill_143 : decode cX0_fill 143 = .ok (.iload 4, 2) := by decide +kernel
theorem dX0_fill_145 : decode cX0_fill 145 = .ok (.iload 5, 2) := by decide +kernel
theorem dX0_fill_147 : decode cX0_fill 147 = .ok (.invokevirtual 77, 3) := by decide +kernel
theorem dX0_fill_150 : decode cX0_fill 150 = .ok (.lmul, 1) := by decide +kernel
theorem dX0_fill_151 : decode cX0_fill 151 = .ok (.lastore, 1) := by decide +kernel
theorem dX0_fill_152 : decode cX0_fill 152 = .ok (.iinc 5 1, 3) := by decide +kernel
theorem dX0_fill_155 : decode cX0_fill 155 = .ok (.goto (-40), 3) := by decide +kernel
theorem dX0_fill_158 : decode cX0_fill 158 = .ok (.iinc 4 1, 3) := by decide +kernel
theorem dX0_fill_161 : decode cX0_fill 161 = .ok (.goto (-58), 3) := by decide +kernel
theorem dX0_fill_164 : decode cX0_fill 164 = .ok (.aload_n 0, 1) := by decide +kernel
theorem dX0_fill_165 : decode cX0_fill 165 = .ok (.iconst 1, 1) := by decide +kernel
theorem dX0_fill_166 : decode cX0_fill 166 = .ok (.putfield 26, 3) := by decide +kernel
theorem dX0_fill_169 : decode cX0_fill 169 = .ok (.return_, 1) := by decide +kernel
def J_X0_fill_b3 (v4 : Int) (st : z_St) : Option ((Int × z_St) ⊕ z_St) :=
  z_g (z32 v4 ∧ z32 (st 24 1)) (if v4 < st 24 1 then
    z_g (0 ≤ v4 ∧ v4 < 6) <|
    z_b (J_X0_fillNear v4 (29 + 5 * v4) st) fun st3 =>
    some (.inl (v4 + 1, st3))
  else
    some (.inr st))
set_option maxRecDepth 100000 in
set_option maxHeartbeats 4000000 in
theorem w_X0_fill_b3 {κ : zK} {a : Nat → Nat} {v4 : Int} {st : z_St} {mc9 ms9 : Nat} {o : (Int × z_St) ⊕ z_St} (hc : z_C κ RX0 cX0_fill 6 11 mc9 ms9) (hap : z_AP κ a z_N) (k1 : ∀ s9 : (Int × z_St), o = .inl s9 → z_V κ z_T z_N a 0 0 3 [(0, .ref (a 99)), (1, .ref (a 1)), (2, .ref (a 24)), (3, .ref (a 89)), (4, .int (zI s9.1))] [] s9.2) (k2 : ∀ x9 : z_St, o = .inr x9 → z_V κ z_T z_N a 0 0 32 [(0, .ref (a 99)), (1, .ref (a 1)), (2, .ref (a 24)), (3, .ref (a 89))] [] x9) (h : J_X0_fill_b3 v4 st = some o) : z_V κ z_T z_N a 0 0 3 [(0, .ref (a 99)), (1, .ref (a 1)), (2, .ref (a 24)), (3, .ref (a 89)), (4, .int (zI v4))] [] st := by
  unfold J_X0_fill_b3 at h
  refine z_iload 4 hc dX0_fill_3 rfl ?_
  refine z_aload_n (i := 2) 2 hc dX0_fill_5 rfl rfl ?_
  refine z_getI (kI := 24) (jI := 1) hc fl_RX0_30 tT_24 (by decide) rfl rfl rfl dX0_fill_6 ?_
  refine z_icmp_ge (tgt := 32) hc dX0_fill_9 (by decide) h (fun c9 h => ?_) (fun c9 h => ?_)
  · refine z_aload_n (i := 0) 0 hc dX0_fill_12 rfl rfl ?_
    refine z_iload 4 hc dX0_fill_13 rfl ?_
    refine z_aload_n (i := 2) 2 hc dX0_fill_15 rfl rfl ?_
    refine z_getA (k' := 25) hc fl_RX0_36 tT_24 (by decide) rfl rfl dX0_fill_16 ?_
    refine z_iload 4 hc dX0_fill_19 rfl ?_
    refine z_aald (r := 29 + 5 * v4) (nI9 := 6) hc tT_25 (by decide) (by decide) rfl (by decide) (fun j9 hj9 => by omega) dX0_fill_21 h (fun g1 h => ?_)
    refine z_aload_n (i := 1) 1 hc dX0_fill_22 rfl rfl ?_
    obtain ⟨st3, hr2, h⟩ := z_b_some h
    refine z_callVV [.int (zI v4), .ref (a ((29 + 5 * v4).toNat)), .ref (a 1)] hc hap o_X0_fillNear ml_RX0_40 (fun l hl => c_X0_fillNear hl (z_Sound_of g1) hr2) (by decide) tT_99 (by decide) ⟨_, rfl, rfl⟩ rfl rfl (Nat.le_of_ble_eq_true rfl) (Nat.zero_le _) (Nat.zero_le _) dX0_fill_23 ?_
    refine z_iinc [(4, .int (zI (v4 + 1))), (0, .ref (a 99)), (1, .ref (a 1)), (2, .ref (a 24)), (3, .ref (a 89))] 4 hc dX0_fill_26 rfl (by decide) rfl ?_
    refine z_goto (tgt := 3) hc dX0_fill_29 (by decide) ?_
    refine z_sub [(0, .ref (a 99)), (1, .ref (a 1)), (2, .ref (a 24)), (3, .ref (a 89)), (4, .int (zI (v4 + 1)))] [1, 2, 3, 4, 0] rfl ?_
    exact k1 _ (Option.some.inj h).symm
  · refine z_sub [(0, .ref (a 99)), (1, .ref (a 1)), (2, .ref (a 24)), (3, .ref (a 89))] [0, 1, 2, 3] rfl ?_
    exact k2 st (Option.some.inj h).symm
def J_X0_fill_b57 (v4 v5 : Int) (st : z_St) : Option ((Int × z_St) ⊕ z_St) :=
  z_g (0 ≤ v4 ∧ v4 < 5) <|
  z_g (z32 v5 ∧ z32 (st 27 v4)) (if v5 < st 27 v4 then
    z_b (J_X4_sayingOf v4 v5 st) fun r8 =>
    z_g (z_isSaying r8) <|
    z_b (J_X0_fillSpans v4 r8 (st 1 2) st) fun st12 =>
    some (.inl (v5 + 1, st12))
  else
    some (.inr st))
set_option maxRecDepth 100000 in
set_option maxHeartbeats 4000000 in
theorem w_X0_fill_b57 {κ : zK} {a : Nat → Nat} {v4 v5 : Int} {st : z_St} {mc9 ms9 : Nat} {o : (Int × z_St) ⊕ z_St} (hc : z_C κ RX0 cX0_fill 6 11 mc9 ms9) (hap : z_AP κ a z_N) (k1 : ∀ s9 : (Int × z_St), o = .inl s9 → z_V κ z_T z_N a 0 0 57 [(0, .ref (a 99)), (1, .ref (a 1)), (2, .ref (a 24)), (3, .ref (a 89)), (4, .int (zI v4)), (5, .int (zI s9.1))] [] s9.2) (k2 : ∀ x9 : z_St, o = .inr x9 → z_V κ z_T z_N a 0 0 94 [(0, .ref (a 99)), (1, .ref (a 1)), (2, .ref (a 24)), (3, .ref (a 89)), (4, .int (zI v4))] [] x9) (h : J_X0_fill_b57 v4 v5 st = some o) : z_V κ z_T z_N a 0 0 57 [(0, .ref (a 99)), (1, .ref (a 1)), (2, .ref (a 24)), (3, .ref (a 89)), (4, .int (zI v4)), (5, .int (zI v5))] [] st := by
  unfold J_X0_fill_b57 at h
  refine z_iload 5 hc dX0_fill_57 rfl ?_
  refine z_aload_n (i := 2) 2 hc dX0_fill_59 rfl rfl ?_
  refine z_getA (k' := 27) hc fl_RX0_55 tT_24 (by decide) rfl rfl dX0_fill_60 ?_
  refine z_iload 4 hc dX0_fill_63 rfl ?_
  refine z_iald (kI := 27) (nI9 := 5) hc tT_27 (by decide) rfl rfl (by decide) dX0_fill_65 h (fun g7 h => ?_)
  refine z_icmp_ge (tgt := 94) hc dX0_fill_66 (by decide) h (fun c66 h => ?_) (fun c66 h => ?_)
  · refine z_aload_n (i := 0) 0 hc dX0_fill_69 rfl rfl ?_
    refine z_iload 4 hc dX0_fill_70 rfl ?_
    refine z_aload_n (i := 2) 2 hc dX0_fill_72 rfl rfl ?_
    refine z_iload 4 hc dX0_fill_73 rfl ?_
    refine z_iload 5 hc dX0_fill_75 rfl ?_
    obtain ⟨r8, hr8, h⟩ := z_b_some h
    refine z_callVA [.int (zI v4), .int (zI v5)] hc hap o_X4_sayingOf ml_RX0_59 (fun l hl => c_X4_sayingOf hl  hr8) (by decide) tT_24 (by decide) ⟨_, rfl, rfl⟩ rfl rfl (Nat.le_of_ble_eq_true rfl) (Nat.zero_le _) (Nat.zero_le _) dX0_fill_77 ?_
    obtain ⟨g10, h⟩ := z_g_some h
    refine z_aload_n (i := 2) 2 hc dX0_fill_80 rfl rfl ?_
    refine z_aload_n (i := 1) 1 hc dX0_fill_81 rfl rfl ?_
    refine z_getI (kI := 1) (jI := 2) hc fl_RX0_63 tT_1 (by decide) rfl rfl rfl dX0_fill_82 ?_
    obtain ⟨st12, hr11, h⟩ := z_b_some h
    refine z_callVV [.int (zI v4), .ref (a r8.toNat), .ref (a 24), .int (zI (st 1 2))] hc hap o_X0_fillSpans ml_RX0_68 (fun l hl => c_X0_fillSpans hl g10 hr11) (by decide) tT_99 (by decide) ⟨_, rfl, rfl⟩ rfl rfl (Nat.le_of_ble_eq_true rfl) (Nat.zero_le _) (Nat.zero_le _) dX0_fill_85 ?_
    refine z_iinc [(5, .int (zI (v5 + 1))), (0, .ref (a 99)), (1, .ref (a 1)), (2, .ref (a 24)), (3, .ref (a 89)), (4, .int (zI v4))] 5 hc dX0_fill_88 rfl (by decide) rfl ?_
    refine z_goto (tgt := 57) hc dX0_fill_91 (by decide) ?_
    refine z_sub [(0, .ref (a 99)), (1, .ref (a 1)), (2, .ref (a 24)), (3, .ref (a 89)), (4, .int (zI v4)), (5, .int (zI (v5 + 1)))] [1, 2, 3, 4, 5, 0] rfl ?_
    exact k1 _ (Option.some.inj h).symm
  · refine z_sub [(0, .ref (a 99)), (1, .ref (a 1)), (2, .ref (a 24)), (3, .ref (a 89)), (4, .int (zI v4))] [0, 1, 2, 3, 4] rfl ?_
    exact k2 st (Option.some.inj h).symm
def J_X0_fill_b45 (v4 : Int) (st : z_St) : Option ((Int × z_St) ⊕ z_St) :=
  z_g (z32 v4 ∧ z32 (st 24 4)) (if v4 < st 24 4 then
    z_b (z_iter z_F (fun q9 : (Int × z_St) => J_X0_fill_b57 v4 q9.1 q9.2) (0, st)) fun lx13 =>
      some (.inl (v4 + 1, lx13))
  else
    some (.inr st))
set_option maxRecDepth 100000 in
set_option maxHeartbeats 4000000 in
theorem w_X0_fill_b45 {κ : zK} {a : Nat → Nat} {v4 : Int} {st : z_St} {mc9 ms9 : Nat} {o : (Int × z_St) ⊕ z_St} (hc : z_C κ RX0 cX0_fill 6 11 mc9 ms9) (hap : z_AP κ a z_N) (k1 : ∀ s9 : (Int × z_St), o = .inl s9 → z_V κ z_T z_N a 0 0 45 [(0, .ref (a 99)), (1, .ref (a 1)), (2, .ref (a 24)), (3, .ref (a 89)), (4, .int (zI s9.1))] [] s9.2) (k2 : ∀ x9 : z_St, o = .inr x9 → z_V κ z_T z_N a 0 0 100 [(0, .ref (a 99)), (2, .ref (a 24)), (3, .ref (a 89))] [] x9) (h : J_X0_fill_b45 v4 st = some o) : z_V κ z_T z_N a 0 0 45 [(0, .ref (a 99)), (1, .ref (a 1)), (2, .ref (a 24)), (3, .ref (a 89)), (4, .int (zI v4))] [] st := by
  unfold J_X0_fill_b45 at h
  refine z_iload 4 hc dX0_fill_45 rfl ?_
  refine z_aload_n (i := 2) 2 hc dX0_fill_47 rfl rfl ?_
  refine z_getI (kI := 24) (jI := 4) hc fl_RX0_52 tT_24 (by decide) rfl rfl rfl dX0_fill_48 ?_
  refine z_icmp_ge (tgt := 100) hc dX0_fill_51 (by decide) h (fun c51 h => ?_) (fun c51 h => ?_)
  · refine z_iconst hc dX0_fill_54 ?_
    refine z_istore [(5, .int (zI 0)), (0, .ref (a 99)), (1, .ref (a 1)), (2, .ref (a 24)), (3, .ref (a 89)), (4, .int (zI v4))] hc dX0_fill_55 (by decide) rfl ?_
    obtain ⟨lx13, hlx13, h⟩ := z_b_some h
    refine z_sub [(0, .ref (a 99)), (1, .ref (a 1)), (2, .ref (a 24)), (3, .ref (a 89)), (4, .int (zI v4)), (5, .int (zI 0))] [1, 2, 3, 4, 5, 0] rfl ?_
    refine z_loop (fun q9 : (Int × z_St) => J_X0_fill_b57 v4 q9.1 q9.2) (fun q9 : (Int × z_St) => z_V κ z_T z_N a 0 0 57 [(0, .ref (a 99)), (1, .ref (a 1)), (2, .ref (a 24)), (3, .ref (a 89)), (4, .int (zI v4)), (5, .int (zI q9.1))] [] q9.2) (fun x9 : z_St => z_V κ z_T z_N a 0 0 94 [(0, .ref (a 99)), (1, .ref (a 1)), (2, .ref (a 24)), (3, .ref (a 89)), (4, .int (zI v4))] [] x9) (fun q9 o9 hb k1 k2 => ?_) _ _ _ hlx13 ?_
    · exact w_X0_fill_b57 hc hap k1 k2 hb
    · show z_V κ z_T z_N a 0 0 94 [(0, .ref (a 99)), (1, .ref (a 1)), (2, .ref (a 24)), (3, .ref (a 89)), (4, .int (zI v4))] [] lx13
      refine z_iinc [(4, .int (zI (v4 + 1))), (0, .ref (a 99)), (1, .ref (a 1)), (2, .ref (a 24)), (3, .ref (a 89))] 4 hc dX0_fill_94 rfl (by decide) rfl ?_
      refine z_goto (tgt := 45) hc dX0_fill_97 (by decide) ?_
      refine z_sub [(0, .ref (a 99)), (1, .ref (a 1)), (2, .ref (a 24)), (3, .ref (a 89)), (4, .int (zI (v4 + 1)))] [1, 2, 3, 4, 0] rfl ?_
      exact k1 _ (Option.some.inj h).symm
  · refine z_sub [(0, .ref (a 99)), (2, .ref (a 24)), (3, .ref (a 89))] [0, 2, 3] rfl ?_
    exact k2 st (Option.some.inj h).symm
def J_X0_fill_b115 (v4 v5 : Int) (st : z_St) : Option ((Int × z_St) ⊕ z_St) :=
  z_g (z32 v5 ∧ z32 (st 24 4)) (if v5 < st 24 4 then
    z_g (0 ≤ v4 + 1 ∧ v4 + 1 < 6) <|
    z_g (z32 (st 89 5)) <|
    z_b (J_X2_priceOf v4 v5 st) fun r16 =>
    z_g (0 ≤ v5 + 1 ∧ v5 + 1 < 6) <|
    z_let (z_up st (127 + (v4 + 1)) (v5 + 1) ((st 89 5) * r16)) fun st18 =>
    some (.inl (v5 + 1, st18))
  else
    some (.inr st))
set_option maxRecDepth 100000 in
set_option maxHeartbeats 4000000 in
theorem w_X0_fill_b115 {κ : zK} {a : Nat → Nat} {v4 v5 : Int} {st : z_St} {mc9 ms9 : Nat} {o : (Int × z_St) ⊕ z_St} (hc : z_C κ RX0 cX0_fill 6 11 mc9 ms9) (hap : z_AP κ a z_N) (k1 : ∀ s9 : (Int × z_St), o = .inl s9 → z_V κ z_T z_N a 0 0 115 [(0, .ref (a 99)), (2, .ref (a 24)), (3, .ref (a 89)), (4, .int (zI v4)), (5, .int (zI s9.1))] [] s9.2) (k2 : ∀ x9 : z_St, o = .inr x9 → z_V κ z_T z_N a 0 0 158 [(0, .ref (a 99)), (2, .ref (a 24)), (3, .ref (a 89)), (4, .int (zI v4))] [] x9) (h : J_X0_fill_b115 v4 v5 st = some o) : z_V κ z_T z_N a 0 0 115 [(0, .ref (a 99)), (2, .ref (a 24)), (3, .ref (a 89)), (4, .int (zI v4)), (5, .int (zI v5))] [] st := by
  unfold J_X0_fill_b115 at h
  refine z_iload 4 hc dX0_fill_115 rfl ?_
  refine z_aload_n (i := 2) 1 hc dX0_fill_117 rfl rfl ?_
  refine z_getI (kI := 24) (jI := 4) hc fl_RX0_52 tT_24 (by decide) rfl rfl rfl dX0_fill_118 ?_
  refine z_icmp_ge (tgt := 158) hc dX0_fill_121 (by decide) h (fun c121 h => ?_) (fun c121 h => ?_)
  · refine z_aload_n (i := 0) 0 hc dX0_fill_124 rfl rfl ?_
    refine z_getA (k' := 126) hc fl_RX0_20 tT_99 (by decide) rfl rfl dX0_fill_125 ?_
    refine z_iload 3 hc dX0_fill_128 rfl ?_
    refine z_iconst hc dX0_fill_130 ?_
    refine z_iadd hc dX0_fill_131 ?_
    refine z_aald (r := 127 + (v4 + 1)) (nI9 := 6) hc tT_126 (by decide) (by decide) rfl (by decide) (fun j9 hj9 => by omega) dX0_fill_132 h (fun g15 h => ?_)
    refine z_iload 4 hc dX0_fill_133 rfl ?_
    refine z_iconst hc dX0_fill_135 ?_
    refine z_iadd hc dX0_fill_136 ?_
    refine z_aload_n (i := 3) 2 hc dX0_fill_137 rfl rfl ?_
    refine z_getI (kI := 89) (jI := 5) hc fl_RX0_72 tT_89 (by decide) rfl rfl rfl dX0_fill_138 ?_
    refine z_i2l hc dX0_fill_141 h (fun h => ?_)
    refine z_aload_n (i := 3) 2 hc dX0_fill_142 rfl rfl ?_
    refine z_iload 3 hc dX0_fill_143 rfl ?_
    refine z_iload 4 hc dX0_fill_145 rfl ?_
    obtain ⟨r16, hr16, h⟩ := z_b_some h
    refine z_callVJ [.int (zI v4), .int (zI v5)] hc hap o_X2_priceOf ml_RX0_77 (fun l hl => c_X2_priceOf hl  hr16) (by decide) tT_89 (by decide) ⟨_, rfl, rfl⟩ rfl rfl (Nat.le_of_ble_eq_true rfl) (Nat.zero_le _) (Nat.zero_le _) dX0_fill_147 ?_
    refine z_lmul hc dX0_fill_150 ?_
    refine z_last (kI := 127 + (v4 + 1)) (nI9 := 6) hc hap (z_row_126 g15).2.2 (z_row_126 g15).2.1 (Int.toNat_of_nonneg (z_row_126 g15).1) rfl (by decide) dX0_fill_151 h (fun st18 h => ?_)
    refine z_iinc [(5, .int (zI (v5 + 1))), (0, .ref (a 99)), (2, .ref (a 24)), (3, .ref (a 89)), (4, .int (zI v4))] 4 hc dX0_fill_152 rfl (by decide) rfl ?_
    refine z_goto (tgt := 115) hc dX0_fill_155 (by decide) ?_
    refine z_sub [(0, .ref (a 99)), (2, .ref (a 24)), (3, .ref (a 89)), (4, .int (zI v4)), (5, .int (zI (v5 + 1)))] [1, 2, 3, 4, 0] rfl ?_
    exact k1 _ (Option.some.inj h).symm
  · refine z_sub [(0, .ref (a 99)), (2, .ref (a 24)), (3, .ref (a 89)), (4, .int (zI v4))] [0, 1, 2, 3] rfl ?_
    exact k2 st (Option.some.inj h).symm
def J_X0_fill_b103 (v4 : Int) (st : z_St) : Option ((Int × z_St) ⊕ z_St) :=
  z_g (z32 v4 ∧ z32 (st 24 4)) (if v4 < st 24 4 then
    z_b (z_iter z_F (fun q9 : (Int × z_St) => J_X0_fill_b115 v4 q9.1 q9.2) ((-1), st)) fun lx19 =>
      some (.inl (v4 + 1, lx19))
  else
    some (.inr st))
set_option maxRecDepth 100000 in
set_option maxHeartbeats 4000000 in
theorem w_X0_fill_b103 {κ : zK} {a : Nat → Nat} {v4 : Int} {st : z_St} {mc9 ms9 : Nat} {o : (Int × z_St) ⊕ z_St} (hc : z_C κ RX0 cX0_fill 6 11 mc9 ms9) (hap : z_AP κ a z_N) (k1 : ∀ s9 : (Int × z_St), o = .inl s9 → z_V κ z_T z_N a 0 0 103 [(0, .ref (a 99)), (2, .ref (a 24)), (3, .ref (a 89)), (4, .int (zI s9.1))] [] s9.2) (k2 : ∀ x9 : z_St, o = .inr x9 → z_V κ z_T z_N a 0 0 164 [(0, .ref (a 99))] [] x9) (h : J_X0_fill_b103 v4 st = some o) : z_V κ z_T z_N a 0 0 103 [(0, .ref (a 99)), (2, .ref (a 24)), (3, .ref (a 89)), (4, .int (zI v4))] [] st := by
  unfold J_X0_fill_b103 at h
  refine z_iload 3 hc dX0_fill_103 rfl ?_
  refine z_aload_n (i := 2) 1 hc dX0_fill_105 rfl rfl ?_
  refine z_getI (kI := 24) (jI := 4) hc fl_RX0_52 tT_24 (by decide) rfl rfl rfl dX0_fill_106 ?_
  refine z_icmp_ge (tgt := 164) hc dX0_fill_109 (by decide) h (fun c109 h => ?_) (fun c109 h => ?_)
  · refine z_iconst hc dX0_fill_112 ?_
    refine z_istore [(5, .int (zI (-1))), (0, .ref (a 99)), (2, .ref (a 24)), (3, .ref (a 89)), (4, .int (zI v4))] hc dX0_fill_113 (by decide) rfl ?_
    obtain ⟨lx19, hlx19, h⟩ := z_b_some h
    refine z_sub [(0, .ref (a 99)), (2, .ref (a 24)), (3, .ref (a 89)), (4, .int (zI v4)), (5, .int (zI (-1)))] [1, 2, 3, 4, 0] rfl ?_
    refine z_loop (fun q9 : (Int × z_St) => J_X0_fill_b115 v4 q9.1 q9.2) (fun q9 : (Int × z_St) => z_V κ z_T z_N a 0 0 115 [(0, .ref (a 99)), (2, .ref (a 24)), (3, .ref (a 89)), (4, .int (zI v4)), (5, .int (zI q9.1))] [] q9.2) (fun x9 : z_St => z_V κ z_T z_N a 0 0 158 [(0, .ref (a 99)), (2, .ref (a 24)), (3, .ref (a 89)), (4, .int (zI v4))] [] x9) (fun q9 o9 hb k1 k2 => ?_) _ _ _ hlx19 ?_
    · exact w_X0_fill_b115 hc hap k1 k2 hb
    · show z_V κ z_T z_N a 0 0 158 [(0, .ref (a 99)), (2, .ref (a 24)), (3, .ref (a 89)), (4, .int (zI v4))] [] lx19
      refine z_iinc [(4, .int (zI (v4 + 1))), (0, .ref (a 99)), (2, .ref (a 24)), (3, .ref (a 89))] 3 hc dX0_fill_158 rfl (by decide) rfl ?_
      refine z_goto (tgt := 103) hc dX0_fill_161 (by decide) ?_
      refine z_sub [(0, .ref (a 99)), (2, .ref (a 24)), (3, .ref (a 89)), (4, .int (zI (v4 + 1)))] [1, 2, 3, 0] rfl ?_
      exact k1 _ (Option.some.inj h).symm
  · refine z_sub [(0, .ref (a 99))] [0] rfl ?_
    exact k2 st (Option.some.inj h).symm
def J_X0_fill (st : z_St) : Option (z_St) :=
  z_b (z_iter z_F (fun q9 : (Int × z_St) => J_X0_fill_b3 q9.1 q9.2) (0, st)) fun lx4 =>
    z_b (J_J7_fill_d0a16 1445 125 1152921504606846976 lx4) fun st6 =>
    z_b (z_iter z_F (fun q9 : (Int × z_St) => J_X0_fill_b45 q9.1 q9.2) (0, st6)) fun lx14 =>
      z_b (z_iter z_F (fun q9 : (Int × z_St) => J_X0_fill_b103 q9.1 q9.2) ((-1), lx14)) fun lx20 =>
        z_g (1 = 0 ∨ 1 = 1) <|
        z_let (z_up lx20 99 4 1) fun st21 =>
        some st21
set_option maxRecDepth 100000 in
set_option maxHeartbeats 4000000 in
theorem w_X0_fill {κ : zK} {a : Nat → Nat} {st : z_St} {o : z_St} (hc : z_C κ RX0 cX0_fill 6 11 0 0) (hap : z_AP κ a z_N) (he : z_E 2 κ none z_T z_N a 0 o) (h : J_X0_fill st = some o) : z_V κ z_T z_N a 0 0 0 [(0, .ref (a 99)), (1, .ref (a 1)), (2, .ref (a 24)), (3, .ref (a 89))] [] st := by
  unfold J_X0_fill at h
  refine z_iconst hc dX0_fill_0 ?_
  refine z_istore [(4, .int (zI 0)), (0, .ref (a 99)), (1, .ref (a 1)), (2, .ref (a 24)), (3, .ref (a 89))] hc dX0_fill_1 (by decide) rfl ?_
  obtain ⟨lx4, hlx4, h⟩ := z_b_some h
  refine z_sub [(0, .ref (a 99)), (1, .ref (a 1)), (2, .ref (a 24)), (3, .ref (a 89)), (4, .int (zI 0))] [1, 2, 3, 4, 0] rfl ?_
  refine z_loop (fun q9 : (Int × z_St) => J_X0_fill_b3 q9.1 q9.2) (fun q9 : (Int × z_St) => z_V κ z_T z_N a 0 0 3 [(0, .ref (a 99)), (1, .ref (a 1)), (2, .ref (a 24)), (3, .ref (a 89)), (4, .int (zI q9.1))] [] q9.2) (fun x9 : z_St => z_V κ z_T z_N a 0 0 32 [(0, .ref (a 99)), (1, .ref (a 1)), (2, .ref (a 24)), (3, .ref (a 89))] [] x9) (fun q9 o9 hb k1 k2 => ?_) _ _ _ hlx4 ?_
  · exact w_X0_fill_b3 hc hap k1 k2 hb
  · show z_V κ z_T z_N a 0 0 32 [(0, .ref (a 99)), (1, .ref (a 1)), (2, .ref (a 24)), (3, .ref (a 89))] [] lx4
    refine z_aload_n (i := 0) 0 hc dX0_fill_32 rfl rfl ?_
    refine z_getA (k' := 125) hc fl_RX0_16 tT_99 (by decide) rfl rfl dX0_fill_33 ?_
    refine z_ldc2 1152921504606846976 hc kc_RX0_44 dX0_fill_36 rfl ?_
    obtain ⟨st6, hr5, h⟩ := z_b_some h
    refine z_callSV [.ref (a 125), .long (zJ 1152921504606846976)] hc hap o_J7_fill_d0a16 ml_RX0_46 (fun l hl => c_J7_fill_d0a16 hl (by decide) (z_isArr_lit (by decide) tT_125) hr5) (by decide) rfl rfl (Nat.le_of_ble_eq_true rfl) (Nat.zero_le _) (Nat.zero_le _) dX0_fill_39 ?_
    refine z_iconst hc dX0_fill_42 ?_
    refine z_istore [(4, .int (zI 0)), (0, .ref (a 99)), (1, .ref (a 1)), (2, .ref (a 24)), (3, .ref (a 89))] hc dX0_fill_43 (by decide) rfl ?_
    obtain ⟨lx14, hlx14, h⟩ := z_b_some h
    refine z_sub [(0, .ref (a 99)), (1, .ref (a 1)), (2, .ref (a 24)), (3, .ref (a 89)), (4, .int (zI 0))] [1, 2, 3, 4, 0] rfl ?_
    refine z_loop (fun q9 : (Int × z_St) => J_X0_fill_b45 q9.1 q9.2) (fun q9 : (Int × z_St) => z_V κ z_T z_N a 0 0 45 [(0, .ref (a 99)), (1, .ref (a 1)), (2, .ref (a 24)), (3, .ref (a 89)), (4, .int (zI q9.1))] [] q9.2) (fun x9 : z_St => z_V κ z_T z_N a 0 0 100 [(0, .ref (a 99)), (2, .ref (a 24)), (3, .ref (a 89))] [] x9) (fun q9 o9 hb k1 k2 => ?_) _ _ _ hlx14 ?_
    · exact w_X0_fill_b45 hc hap k1 k2 hb
    · show z_V κ z_T z_N a 0 0 100 [(0, .ref (a 99)), (2, .ref (a 24)), (3, .ref (a 89))] [] lx14
      refine z_iconst hc dX0_fill_100 ?_
      refine z_istore [(4, .int (zI (-1))), (0, .ref (a 99)), (2, .ref (a 24)), (3, .ref (a 89))] hc dX0_fill_101 (by decide) rfl ?_
      obtain ⟨lx20, hlx20, h⟩ := z_b_some h
      refine z_sub [(0, .ref (a 99)), (2, .ref (a 24)), (3, .ref (a 89)), (4, .int (zI (-1)))] [1, 2, 3, 0] rfl ?_
      refine z_loop (fun q9 : (Int × z_St) => J_X0_fill_b103 q9.1 q9.2) (fun q9 : (Int × z_St) => z_V κ z_T z_N a 0 0 103 [(0, .ref (a 99)), (2, .ref (a 24)), (3, .ref (a 89)), (4, .int (zI q9.1))] [] q9.2) (fun x9 : z_St => z_V κ z_T z_N a 0 0 164 [(0, .ref (a 99))] [] x9) (fun q9 o9 hb k1 k2 => ?_) _ _ _ hlx20 ?_
      · exact w_X0_fill_b103 hc hap k1 k2 hb
      · show z_V κ z_T z_N a 0 0 164 [(0, .ref (a 99))] [] lx20
        refine z_aload_n (i := 0) 0 hc dX0_fill_164 rfl rfl ?_
        refine z_iconst hc dX0_fill_165 ?_
        refine z_putZ (kI := 99) (jI := 4) hc hap fp_RX0_26 tT_99 (by decide) rfl rfl rfl dX0_fill_166 h (fun st21 h => ?_)
        have h := Option.some.inj h
        subst h
        exact z_retV hc he dX0_fill_169
set_option maxRecDepth 100000 in
set_option maxHeartbeats 4000000 in
theorem c_X0_fill {l : Launch} (hl : l.stackTraces = false) {a : Nat → Nat} {st : z_St} {o : z_St} (h : J_X0_fill st = some o) : z_M 2 l yX0_fill cX0_fill 6 none 11 z_T z_N a [.ref (a 99), .ref (a 1), .ref (a 24), .ref (a 89)] st 0 o := z_of hl (by decide +kernel) (Nat.le_of_ble_eq_true rfl) (fun κ hc hap he => w_X0_fill hc hap he h)
theorem dX2_count_0 : decode cX2_count 0 = .ok (.aload_n 0, 1) := by decide +kernel
theorem dX2_count_1 : decode cX2_count 1 = .ok (.getfield 11, 3) := by decide +kernel
theorem dX2_count_4 : decode cX2_count 4 = .ok (.iload_n 1, 1) := by decide +kernel
theorem dX2_count_5 : decode cX2_count 5 = .ok (.iconst 1, 1) := by decide +kernel
theorem dX2_count_6 : decode cX2_count 6 = .ok (.iadd, 1) := by decide +kernel
theorem dX2_count_7 : decode cX2_count 7 = .ok (.aaload, 1) := by decide +kernel
theorem dX2_count_8 : decode cX2_count 8 = .ok (.iload_n 2, 1) := by decide +kernel
theorem dX2_count_9 : decode cX2_count 9 = .ok (.iconst 1, 1) := by decide +kernel
theorem dX2_count_10 : decode cX2_count 10 = .ok (.iadd, 1) := by decide +kernel
theorem dX2_count_11 : decode cX2_count 11 = .ok (.dup2, 1) := by decide +kernel
theorem dX2_count_12 : decode cX2_count 12 = .ok (.iaload, 1) := by decide +kernel
theorem dX2_count_13 : decode cX2_count 13 = .ok (.iconst 1, 1) := by decide +kernel
theorem dX2_count_14 : decode cX2_count 14 = .ok (.iadd, 1) := by decide +kernel
theorem dX2_count_15 : decode cX2_count 15 = .ok (.iastore, 1) := by decide +kernel
theorem dX2_count_16 : decode cX2_count 16 = .ok (.aload_n 0, 1) := by decide +kernel
theorem dX2_count_17 : decode cX2_count 17 = .ok (.getfield 16, 3) := by decide +kernel
theorem dX2_count_20 : decode cX2_count 20 = .ok (.iload_n 1, 1) := by decide +kernel
theorem dX2_count_21 : decode cX2_count 21 = .ok (.iconst 1, 1) := by decide +kernel
theorem dX2_count_22 : decode cX2_count 22 = .ok (.iadd, 1) := by decide +kernel
theorem dX2_count_23 : decode cX2_count 23 = .ok (.dup2, 1) := by decide +kernel
theorem dX2_count_24 : decode cX2_count 24 = .ok (.iaload, 1) := by decide +kernel
theorem dX2_count_25 : decode cX2_count 25 = .ok (.iconst 1, 1) := by decide +kernel
theorem dX2_count_26 : decode cX2_count 26 = .ok (.iadd, 1) := by decide +kernel
theorem dX2_count_27 : decode cX2_count 27 = .ok (.iastore, 1) := by decide +kernel
theorem dX2_count_28 : decode cX2_count 28 = .ok (.aload_n 0, 1) := by decide +kernel
theorem dX2_count_29 : decode cX2_count 29 = .ok (.getfield 20, 3) := by decide +kernel
theorem dX2_count_32 : decode cX2_count 32 = .ok (.iload_n 2, 1) := by decide +kernel
theorem dX2_count_33 : decode cX2_count 33 = .ok (.iconst 1, 1) := by decide +kernel
theorem dX2_count_34 : decode cX2_count 34 = .ok (.iadd, 1) := by decide +kernel
theorem dX2_count_35 : decode cX2_count 35 = .ok (.dup2, 1) := by decide +kernel
theorem dX2_count_36 : decode cX2_count 36 = .ok (.iaload, 1) := by decide +kernel
theorem dX2_count_37 : decode cX2_count 37 = .ok (.iconst 1, 1) := by decide +kernel
theorem dX2_count_38 : decode cX2_count 38 = .ok (.iadd, 1) := by decide +kernel
theorem dX2_count_39 : decode cX2_count 39 = .ok (.iastore, 1) := by decide +kernel
theorem dX2_count_40 : decode cX2_count 40 = .ok (.aload_n 0, 1) := by decide +kernel
theorem dX2_count_41 : decode cX2_count 41 = .ok (.dup, 1) := by decide +kernel
theorem dX2_count_42 : decode cX2_count 42 = .ok (.getfield 23, 3) := by decide +kernel
theorem dX2_count_45 : decode cX2_count 45 = .ok (.iconst 1, 1) := by decide +kernel
theorem dX2_count_46 : decode cX2_count 46 = .ok (.iadd, 1) := by decide +kernel
theorem dX2_count_47 : decode cX2_count 47 = .ok (.putfield 23, 3) := by decide +kernel
theorem dX2_count_50 : decode cX2_count 50 = .ok (.return_, 1) := by decide +kernel
def J_X2_count (x1 x2 : Int) (st : z_St) : Option (z_St) :=
  z_g (0 ≤ x1 + 1 ∧ x1 + 1 < 6) <|
  z_g (0 ≤ x2 + 1 ∧ x2 + 1 < 6) <|
  z_g (0 ≤ x2 + 1 ∧ x2 + 1 < 6) <|
  z_let (z_up st (91 + (x1 + 1)) (x2 + 1) ((st (91 + (x1 + 1)) (x2 + 1)) + 1)) fun st3 =>
  z_g (0 ≤ x1 + 1 ∧ x1 + 1 < 6) <|
  z_g (0 ≤ x1 + 1 ∧ x1 + 1 < 6) <|
  z_let (z_up st3 97 (x1 + 1) ((st3 97 (x1 + 1)) + 1)) fun st5 =>
  z_g (0 ≤ x2 + 1 ∧ x2 + 1 < 6) <|
  z_g (0 ≤ x2 + 1 ∧ x2 + 1 < 6) <|
  z_let (z_up st5 98 (x2 + 1) ((st5 98 (x2 + 1)) + 1)) fun st7 =>
  z_let (z_up st7 89 3 ((st7 89 3) + 1)) fun st8 =>
  some st8
set_option maxRecDepth 100000 in
set_option maxHeartbeats 4000000 in
theorem w_X2_count {κ : zK} {a : Nat → Nat} {x1 x2 : Int} {st : z_St} {o : z_St} (hc : z_C κ RX2 cX2_count 3 8 0 0) (hap : z_AP κ a z_N) (he : z_E 2 κ none z_T z_N a 0 o) (h : J_X2_count x1 x2 st = some o) : z_V κ z_T z_N a 0 0 0 [(0, .ref (a 89)), (1, .int (zI x1)), (2, .int (zI x2))] [] st := by
  unfold J_X2_count at h
  refine z_aload_n (i := 0) 0 hc dX2_count_0 rfl rfl ?_
  refine z_getA (k' := 90) hc fl_RX2_11 tT_89 (by decide) rfl rfl dX2_count_1 ?_
  refine z_iload_n (i := 1) 1 hc dX2_count_4 rfl rfl ?_
  refine z_iconst hc dX2_count_5 ?_
  refine z_iadd hc dX2_count_6 ?_
  refine z_aald (r := 91 + (x1 + 1)) (nI9 := 6) hc tT_90 (by decide) (by decide) rfl (by decide) (fun j9 hj9 => by omega) dX2_count_7 h (fun g1 h => ?_)
  refine z_iload_n (i := 2) 2 hc dX2_count_8 rfl rfl ?_
  refine z_iconst hc dX2_count_9 ?_
  refine z_iadd hc dX2_count_10 ?_
  refine z_dup2 hc dX2_count_11 rfl rfl ?_
  refine z_iald (kI := 91 + (x1 + 1)) (nI9 := 6) hc (z_row_90 g1).2.2 (z_row_90 g1).2.1 (Int.toNat_of_nonneg (z_row_90 g1).1) rfl (by decide) dX2_count_12 h (fun g2 h => ?_)
  refine z_iconst hc dX2_count_13 ?_
  refine z_iadd hc dX2_count_14 ?_
  refine z_iast (kI := 91 + (x1 + 1)) (nI9 := 6) hc hap (z_row_90 g1).2.2 (z_row_90 g1).2.1 (Int.toNat_of_nonneg (z_row_90 g1).1) rfl (by decide) dX2_count_15 h (fun st3 h => ?_)
  refine z_aload_n (i := 0) 0 hc dX2_count_16 rfl rfl ?_
  refine z_getA (k' := 97) hc fl_RX2_16 tT_89 (by decide) rfl rfl dX2_count_17 ?_
  refine z_iload_n (i := 1) 1 hc dX2_count_20 rfl rfl ?_
  refine z_iconst hc dX2_count_21 ?_
  refine z_iadd hc dX2_count_22 ?_
  refine z_dup2 hc dX2_count_23 rfl rfl ?_
  refine z_iald (kI := 97) (nI9 := 6) hc tT_97 (by decide) rfl rfl (by decide) dX2_count_24 h (fun g4 h => ?_)
  refine z_iconst hc dX2_count_25 ?_
  refine z_iadd hc dX2_count_26 ?_
  refine z_iast (kI := 97) (nI9 := 6) hc hap tT_97 (by decide) rfl rfl (by decide) dX2_count_27 h (fun st5 h => ?_)
  refine z_aload_n (i := 0) 0 hc dX2_count_28 rfl rfl ?_
  refine z_getA (k' := 98) hc fl_RX2_20 tT_89 (by decide) rfl rfl dX2_count_29 ?_
  refine z_iload_n (i := 2) 2 hc dX2_count_32 rfl rfl ?_
  refine z_iconst hc dX2_count_33 ?_
  refine z_iadd hc dX2_count_34 ?_
  refine z_dup2 hc dX2_count_35 rfl rfl ?_
  refine z_iald (kI := 98) (nI9 := 6) hc tT_98 (by decide) rfl rfl (by decide) dX2_count_36 h (fun g6 h => ?_)
  refine z_iconst hc dX2_count_37 ?_
  refine z_iadd hc dX2_count_38 ?_
  refine z_iast (kI := 98) (nI9 := 6) hc hap tT_98 (by decide) rfl rfl (by decide) dX2_count_39 h (fun st7 h => ?_)
  refine z_aload_n (i := 0) 0 hc dX2_count_40 rfl rfl ?_
  refine z_dup hc dX2_count_41 rfl ?_
  refine z_getI (kI := 89) (jI := 3) hc fl_RX2_23 tT_89 (by decide) rfl rfl rfl dX2_count_42 ?_
  refine z_iconst hc dX2_count_45 ?_
  refine z_iadd hc dX2_count_46 ?_
  refine z_putI (kI := 89) (jI := 3) hc hap fp_RX2_23 tT_89 (by decide) rfl rfl rfl dX2_count_47 h (fun st8 h => ?_)
  have h := Option.some.inj h
  subst h
  exact z_retV hc he dX2_count_50
set_option maxRecDepth 100000 in
set_option maxHeartbeats 4000000 in
theorem c_X2_count {l : Launch} (hl : l.stackTraces = false) {a : Nat → Nat} {x1 x2 : Int} {st : z_St} {o : z_St} (h : J_X2_count x1 x2 st = some o) : z_M 2 l yX2_count cX2_count 3 none 8 z_T z_N a [.ref (a 89), .int (zI x1), .int (zI x2)] st 0 o := z_of hl (by decide +kernel) (Nat.le_of_ble_eq_true rfl) (fun κ hc hap he => w_X2_count hc hap he h)
theorem dX3_index_0 : decode cX3_index 0 = .ok (.iload_n 0, 1) := by decide +kernel
theorem dX3_index_1 : decode cX3_index 1 = .ok (.iconst 5, 1) := by decide +kernel
theorem dX3_index_2 : decode cX3_index 2 = .ok (.imul, 1) := by decide +kernel
theorem dX3_index_3 : decode cX3_index 3 = .ok (.iload_n 1, 1) := by decide +kernel
theorem dX3_index_4 : decode cX3_index 4 = .ok (.iadd, 1) := by decide +kernel
theorem dX3_index_5 : decode cX3_index 5 = .ok (.bipush 17, 2) := by decide +kernel
theorem dX3_index_7 : decode cX3_index 7 = .ok (.imul, 1) := by decide +kernel
theorem dX3_index_8 : decode cX3_index 8 = .ok (.iload_n 2, 1) := by decide +kernel
theorem dX3_index_9 : decode cX3_index 9 = .ok (.iadd, 1) := by decide +kernel
theorem dX3_index_10 : decode cX3_index 10 = .ok (.ireturn, 1) := by decide +kernel
def J_X3_index (x0 x1 x2 : Int) (st : z_St) : Option (Int) :=
  some ((((x0 * 5) + x1) * 17) + x2)
set_option maxRecDepth 100000 in
set_option maxHeartbeats 4000000 in
theorem w_X3_index {κ : zK} {a : Nat → Nat} {x0 x1 x2 : Int} {st : z_St} {o : Int} (hc : z_C κ RX3 cX3_index 3 8 0 0) (hap : z_AP κ a z_N) (he : z_E 0 κ (some .int) z_T z_N a o st) (h : J_X3_index x0 x1 x2 st = some o) : z_V κ z_T z_N a 0 0 0 [(0, .int (zI x0)), (1, .int (zI x1)), (2, .int (zI x2))] [] st := by
  unfold J_X3_index at h
  refine z_iload_n (i := 0) 0 hc dX3_index_0 rfl rfl ?_
  refine z_iconst hc dX3_index_1 ?_
  refine z_imul hc dX3_index_2 ?_
  refine z_iload_n (i := 1) 1 hc dX3_index_3 rfl rfl ?_
  refine z_iadd hc dX3_index_4 ?_
  refine z_bipush hc dX3_index_5 rfl ?_
  refine z_imul hc dX3_index_7 ?_
  refine z_iload_n (i := 2) 2 hc dX3_index_8 rfl rfl ?_
  refine z_iadd hc dX3_index_9 ?_
  have h := Option.some.inj h
  subst h
  exact z_retI hc he dX3_index_10
set_option maxRecDepth 100000 in
set_option maxHeartbeats 4000000 in
theorem c_X3_index {l : Launch} (hl : l.stackTraces = false) {a : Nat → Nat} {x0 x1 x2 : Int} {st : z_St} {o : Int} (h : J_X3_index x0 x1 x2 st = some o) : z_M 0 l yX3_index cX3_index 3 (some .int) 8 z_T z_N a [.int (zI x0), .int (zI x1), .int (zI x2)] st o st := z_of hl (by decide +kernel) (Nat.le_of_ble_eq_true rfl) (fun κ hc hap he => w_X3_index hc hap he h)
theorem dX3_leadOf_0 : decode cX3_leadOf 0 = .ok (.iload_n 1, 1) := by decide +kernel
theorem dX3_leadOf_1 : decode cX3_leadOf 1 = .ok (.ifCond .ne 21, 3) := by decide +kernel
theorem dX3_leadOf_4 : decode cX3_leadOf 4 = .ok (.iload_n 3, 1) := by decide +kernel
theorem dX3_leadOf_5 : decode cX3_leadOf 5 = .ok (.ifCond .ne 13, 3) := by decide +kernel
theorem dX3_leadOf_8 : decode cX3_leadOf 8 = .ok (.aload 4, 2) := by decide +kernel
theorem dX3_leadOf_10 : decode cX3_leadOf 10 = .ok (.iconst (-1), 1) := by decide +kernel
theorem dX3_leadOf_11 : decode cX3_leadOf 11 = .ok (.iload_n 2, 1) := by decide +kernel
theorem dX3_leadOf_12 : decode cX3_leadOf 12 = .ok (.invokevirtual 57, 3) := by decide +kernel
theorem dX3_leadOf_15 : decode cX3_leadOf 15 = .ok (.goto 6, 3) := by decide +kernel
theorem dX3_leadOf_18 : decode cX3_leadOf 18 = .ok (.ldc2_w 55, 3) := by decide +kernel
theorem dX3_leadOf_21 : decode cX3_leadOf 21 = .ok (.lreturn, 1) := by decide +kernel
theorem dX3_leadOf_22 : decode cX3_leadOf 22 = .ok (.ldc2_w 55, 3) := by decide +kernel
theorem dX3_leadOf_25 : decode cX3_leadOf 25 = .ok (.lstore 5, 2) := by decide +kernel
theorem dX3_leadOf_27 : decode cX3_leadOf 27 = .ok (.iconst 0, 1) := by decide +kernel
theorem dX3_leadOf_28 : decode cX3_leadOf 28 = .ok (.istore 7, 2) := by decide +kernel
theorem dX3_leadOf_30 : decode cX3_leadOf 30 = .ok (.iload 7, 2) := by decide +kernel
theorem dX3_leadOf_32 : decode cX3_leadOf 32 = .ok (.iload_n 3, 1) := by decide +kernel
theorem dX3_leadOf_33 : decode cX3_leadOf 33 = .ok (.if_icmp .ge 73, 3) := by decide +kernel
theorem dX3_leadOf_36 : decode cX3_leadOf 36 = .ok (.iconst 0, 1) := by decide +kernel
theorem dX3_leadOf_37 : decode cX3_leadOf 37 = .ok (.istore 8, 2) := by decide +kernel
theorem dX3_leadOf_39 : decode cX3_leadOf 39 = .ok (.iload 8, 2) := by decide +kernel
theorem dX3_leadOf_41 : decode cX3_leadOf 41 = .ok (.aload_n 0, 1) := by decide +kernel
theorem dX3_leadOf_42 : decode cX3_leadOf 42 = .ok (.getfield 21, 3) := by decide +kernel
theorem dX3_leadOf_45 : decode cX3_leadOf 45 = .ok (.if_icmp .ge 55, 3) := by decide +kernel
theorem dX3_leadOf_48 : decode cX3_leadOf 48 = .ok (.aload_n 0, 1) := by decide +kernel
theorem dX3_leadOf_49 : decode cX3_leadOf 49 = .ok (.getfield 15, 3) := by decide +kernel
theorem dX3_leadOf_52 : decode cX3_leadOf 52 = .ok (.iload_n 1, 1) := by decide +kernel
theorem dX3_leadOf_53 : decode cX3_leadOf 53 = .ok (.iconst 1, 1) := by decide +kernel
theorem dX3_leadOf_54 : decode cX3_leadOf 54 = .ok (.isub, 1) := by decide +kernel
theorem dX3_leadOf_55 : decode cX3_leadOf 55 = .ok (.iload 8, 2) := by decide +kernel
theorem dX3_leadOf_57 : decode cX3_leadOf 57 = .ok (.iload 7, 2) := by decide +kernel
theorem dX3_leadOf_59 : decode cX3_leadOf 59 = .ok (.invokestatic 32, 3) := by decide +kernel
theorem dX3_leadOf_62 : decode cX3_leadOf 62 = .ok (.laload, 1) := by decide +kernel
theorem dX3_leadOf_63 : decode cX3_leadOf 63 = .ok (.aload 4, 2) := by decide +kernel
theorem dX3_leadOf_65 : decode cX3_leadOf 65 = .ok (.iload 8, 2) := by decide +kernel
theorem dX3_leadOf_67 : decode cX3_leadOf 67 = .ok (.iload 7, 2) := by decide +kernel
theorem dX3_leadOf_69 : decode cX3_leadOf 69 = .ok (.iload_n 3, 1) := by decide +kernel
theorem dX3_leadOf_70 : decode cX3_leadOf 70 = .ok (.invokevirtual 47, 3) := by decide +kernel
theorem dX3_leadOf_73 : decode cX3_leadOf 73 = .ok (.ladd, 1) := by decide +kernel
theorem dX3_leadOf_74 : decode cX3_leadOf 74 = .ok (.lstore 9, 2) := by decide +kernel
theorem dX3_leadOf_76 : decode cX3_leadOf 76 = .ok (.lload 5, 2) := by decide +kernel
theorem dX3_leadOf_78 : decode cX3_leadOf 78 = .ok (.lload 9, 2) := by decide +kernel
theorem dX3_leadOf_80 : decode cX3_leadOf 80 = .ok (.aload 4, 2) := by decide +kernel
theorem dX3_leadOf_82 : decode cX3_leadOf 82 = .ok (.iload 8, 2) := by decide +kernel
theorem dX3_leadOf_84 : decode cX3_leadOf 84 = .ok (.iload_n 2, 1) := by decide +kernel
theorem dX3_leadOf_85 : decode cX3_leadOf 85 = .ok (.invokevirtual 57, 3) := by decide +kernel
theorem dX3_leadOf_88 : decode cX3_leadOf 88 = .ok (.ladd, 1) := by decide +kernel
theorem dX3_leadOf_89 : decode cX3_leadOf 89 = .ok (.invokestatic 61, 3) := by decide +kernel
theorem dX3_leadOf_92 : decode cX3_leadOf 92 = .ok (.lstore 5, 2) := by decide +kernel
theorem dX3_leadOf_94 : decode cX3_leadOf 94 = .ok (.iinc 8 1, 3) := by decide +kernel
theorem dX3_leadOf_97 : decode cX3_leadOf 97 = .ok (.goto (-58), 3) := by decide +kernel
theorem dX3_leadOf_100 : decode cX3_leadOf 100 = .ok (.iinc 7 1, 3) := by decide +kernel
theorem dX3_leadOf_103 : decode cX3_leadOf 103 = .ok (.goto (-73), 3) := by decide +kernel
theorem dX3_leadOf_106 : decode cX3_leadOf 106 = .ok (.lload 5, 2) := by decide +kernel
theorem dX3_leadOf_108 : decode cX3_leadOf 108 = .ok (.lreturn, 1) := by decide +kernel
def J_X3_leadOf_21 (s0 : Int) (st : z_St) : Option (Int) :=
  some s0
set_option maxRecDepth 100000 in
set_option maxHeartbeats 4000000 in
theorem w_X3_leadOf_21 {κ : zK} {a : Nat → Nat} {s0 : Int} {st : z_St} {o : Int} (hc : z_C κ RX3 cX3_leadOf 11 9 0 0) (hap : z_AP κ a z_N) (he : z_E 1 κ (some .long) z_T z_N a o st) (h : J_X3_leadOf_21 s0 st = some o) : z_V κ z_T z_N a 0 0 21 [] [.long (zJ s0)] st := by
  unfold J_X3_leadOf_21 at h
  have h := Option.some.inj h
  subst h
  exact z_retJ hc he dX3_leadOf_21
def J_X3_leadOf_b39 (v1 v2 v3 v7 v5 v8 : Int) (st : z_St) : Option ((Int × Int) ⊕ Int) :=
  z_g (z32 v8 ∧ z32 (st 144 3)) (if v8 < st 144 3 then
    z_b (J_X3_index (v1 - 1) v8 v7 st) fun r3 =>
    z_g (0 ≤ r3 ∧ r3 < 340) <|
    z_b (J_X0_span v8 v7 v3 st) fun r6 =>
    z_b (J_X0_toll v8 v2 st) fun r8 =>
    z_g (z64 v5 ∧ z64 (((st 146 r3) + r6) + r8)) <|
    some (.inl (min v5 (((st 146 r3) + r6) + r8), v8 + 1))
  else
    some (.inr v5))
set_option maxRecDepth 100000 in
set_option maxHeartbeats 4000000 in
theorem w_X3_leadOf_b39 {κ : zK} {a : Nat → Nat} {v1 v2 v3 v5 v7 v8 : Int} {st : z_St} {mc9 ms9 : Nat} {o : (Int × Int) ⊕ Int} (hc : z_C κ RX3 cX3_leadOf 11 9 mc9 ms9) (hap : z_AP κ a z_N) (k1 : ∀ s9 : (Int × Int), o = .inl s9 → z_V κ z_T z_N a 0 0 39 [(0, .ref (a 144)), (1, .int (zI v1)), (2, .int (zI v2)), (3, .int (zI v3)), (4, .ref (a 99)), (5, .long (zJ s9.1)), (7, .int (zI v7)), (8, .int (zI s9.2))] [] st) (k2 : ∀ x9 : Int, o = .inr x9 → z_V κ z_T z_N a 0 0 100 [(0, .ref (a 144)), (1, .int (zI v1)), (2, .int (zI v2)), (3, .int (zI v3)), (4, .ref (a 99)), (5, .long (zJ x9)), (7, .int (zI v7))] [] st) (h : J_X3_leadOf_b39 v1 v2 v3 v7 v5 v8 st = some o) : z_V κ z_T z_N a 0 0 39 [(0, .ref (a 144)), (1, .int (zI v1)), (2, .int (zI v2)), (3, .int (zI v3)), (4, .ref (a 99)), (5, .long (zJ v5)), (7, .int (zI v7)), (8, .int (zI v8))] [] st := by
  unfold J_X3_leadOf_b39 at h
  refine z_iload 7 hc dX3_leadOf_39 rfl ?_
  refine z_aload_n (i := 0) 0 hc dX3_leadOf_41 rfl rfl ?_
  refine z_getI (kI := 144) (jI := 3) hc fl_RX3_21 tT_144 (by decide) rfl rfl rfl dX3_leadOf_42 ?_
  refine z_icmp_ge (tgt := 100) hc dX3_leadOf_45 (by decide) h (fun c45 h => ?_) (fun c45 h => ?_)
  · refine z_aload_n (i := 0) 0 hc dX3_leadOf_48 rfl rfl ?_
    refine z_getA (k' := 146) hc fl_RX3_15 tT_144 (by decide) rfl rfl dX3_leadOf_49 ?_
    refine z_iload_n (i := 1) 1 hc dX3_leadOf_52 rfl rfl ?_
    refine z_iconst hc dX3_leadOf_53 ?_
    refine z_isub hc dX3_leadOf_54 ?_
    refine z_iload 7 hc dX3_leadOf_55 rfl ?_
    refine z_iload 6 hc dX3_leadOf_57 rfl ?_
    obtain ⟨r3, hr3, h⟩ := z_b_some h
    refine z_callSI [.int (zI (v1 - 1)), .int (zI v8), .int (zI v7)] hc hap o_X3_index ml_RX3_32 (fun l hl => c_X3_index hl  hr3) (by decide) rfl rfl (Nat.le_of_ble_eq_true rfl) (Nat.zero_le _) (Nat.zero_le _) dX3_leadOf_59 ?_
    refine z_lald (kI := 146) (nI9 := 340) hc tT_146 (by decide) rfl rfl (by decide) dX3_leadOf_62 h (fun g5 h => ?_)
    refine z_aload 4 hc dX3_leadOf_63 rfl ?_
    refine z_iload 7 hc dX3_leadOf_65 rfl ?_
    refine z_iload 6 hc dX3_leadOf_67 rfl ?_
    refine z_iload_n (i := 3) 3 hc dX3_leadOf_69 rfl rfl ?_
    obtain ⟨r6, hr6, h⟩ := z_b_some h
    refine z_callVJ [.int (zI v8), .int (zI v7), .int (zI v3)] hc hap o_X0_span ml_RX3_47 (fun l hl => c_X0_span hl  hr6) (by decide) tT_99 (by decide) ⟨_, rfl, rfl⟩ rfl rfl (Nat.le_of_ble_eq_true rfl) (Nat.zero_le _) (Nat.zero_le _) dX3_leadOf_70 ?_
    refine z_ladd hc dX3_leadOf_73 ?_
    refine z_lstore [(9, .long (zJ ((st 146 r3) + r6))), (0, .ref (a 144)), (1, .int (zI v1)), (2, .int (zI v2)), (3, .int (zI v3)), (4, .ref (a 99)), (5, .long (zJ v5)), (7, .int (zI v7)), (8, .int (zI v8))] hc dX3_leadOf_74 (by decide) rfl ?_
    refine z_lload 6 hc dX3_leadOf_76 rfl ?_
    refine z_lload 0 hc dX3_leadOf_78 rfl ?_
    refine z_aload 5 hc dX3_leadOf_80 rfl ?_
    refine z_iload 8 hc dX3_leadOf_82 rfl ?_
    refine z_iload_n (i := 2) 3 hc dX3_leadOf_84 rfl rfl ?_
    obtain ⟨r8, hr8, h⟩ := z_b_some h
    refine z_callVJ [.int (zI v8), .int (zI v2)] hc hap o_X0_toll ml_RX3_57 (fun l hl => c_X0_toll hl  hr8) (by decide) tT_99 (by decide) ⟨_, rfl, rfl⟩ rfl rfl (Nat.le_of_ble_eq_true rfl) (Nat.zero_le _) (Nat.zero_le _) dX3_leadOf_85 ?_
    refine z_ladd hc dX3_leadOf_88 ?_
    refine z_minJ hc ml_RX3_61 h ⟨rfl, rfl, Nat.le_of_ble_eq_true rfl, by omega⟩ dX3_leadOf_89 (fun h => ?_)
    refine z_lstore [(5, .long (zJ (min v5 (((st 146 r3) + r6) + r8)))), (9, .long (zJ ((st 146 r3) + r6))), (0, .ref (a 144)), (1, .int (zI v1)), (2, .int (zI v2)), (3, .int (zI v3)), (4, .ref (a 99)), (7, .int (zI v7)), (8, .int (zI v8))] hc dX3_leadOf_92 (by decide) rfl ?_
    refine z_iinc [(8, .int (zI (v8 + 1))), (5, .long (zJ (min v5 (((st 146 r3) + r6) + r8)))), (9, .long (zJ ((st 146 r3) + r6))), (0, .ref (a 144)), (1, .int (zI v1)), (2, .int (zI v2)), (3, .int (zI v3)), (4, .ref (a 99)), (7, .int (zI v7))] 8 hc dX3_leadOf_94 rfl (by decide) rfl ?_
    refine z_goto (tgt := 39) hc dX3_leadOf_97 (by decide) ?_
    refine z_sub [(0, .ref (a 144)), (1, .int (zI v1)), (2, .int (zI v2)), (3, .int (zI v3)), (4, .ref (a 99)), (5, .long (zJ (min v5 (((st 146 r3) + r6) + r8)))), (7, .int (zI v7)), (8, .int (zI (v8 + 1)))] [3, 4, 5, 6, 7, 1, 8, 0] rfl ?_
    exact k1 _ (Option.some.inj h).symm
  · refine z_sub [(0, .ref (a 144)), (1, .int (zI v1)), (2, .int (zI v2)), (3, .int (zI v3)), (4, .ref (a 99)), (5, .long (zJ v5)), (7, .int (zI v7))] [0, 1, 2, 3, 4, 5, 6] rfl ?_
    exact k2 v5 (Option.some.inj h).symm
def J_X3_leadOf_b30 (v1 v2 v3 v5 v7 : Int) (st : z_St) : Option ((Int × Int) ⊕ Int) :=
  z_g (z32 v7 ∧ z32 v3) (if v7 < v3 then
    z_b (z_iter z_F (fun q9 : (Int × Int) => J_X3_leadOf_b39 v1 v2 v3 v7 q9.1 q9.2 st) (v5, 0)) fun lx10 =>
      some (.inl (lx10, v7 + 1))
  else
    some (.inr v5))
set_option maxRecDepth 100000 in
set_option maxHeartbeats 4000000 in
theorem w_X3_leadOf_b30 {κ : zK} {a : Nat → Nat} {v1 v2 v3 v5 v7 : Int} {st : z_St} {mc9 ms9 : Nat} {o : (Int × Int) ⊕ Int} (hc : z_C κ RX3 cX3_leadOf 11 9 mc9 ms9) (hap : z_AP κ a z_N) (k1 : ∀ s9 : (Int × Int), o = .inl s9 → z_V κ z_T z_N a 0 0 30 [(0, .ref (a 144)), (1, .int (zI v1)), (2, .int (zI v2)), (3, .int (zI v3)), (4, .ref (a 99)), (5, .long (zJ s9.1)), (7, .int (zI s9.2))] [] st) (k2 : ∀ x9 : Int, o = .inr x9 → z_V κ z_T z_N a 0 0 106 [(5, .long (zJ x9))] [] st) (h : J_X3_leadOf_b30 v1 v2 v3 v5 v7 st = some o) : z_V κ z_T z_N a 0 0 30 [(0, .ref (a 144)), (1, .int (zI v1)), (2, .int (zI v2)), (3, .int (zI v3)), (4, .ref (a 99)), (5, .long (zJ v5)), (7, .int (zI v7))] [] st := by
  unfold J_X3_leadOf_b30 at h
  refine z_iload 6 hc dX3_leadOf_30 rfl ?_
  refine z_iload_n (i := 3) 3 hc dX3_leadOf_32 rfl rfl ?_
  refine z_icmp_ge (tgt := 106) hc dX3_leadOf_33 (by decide) h (fun c33 h => ?_) (fun c33 h => ?_)
  · refine z_iconst hc dX3_leadOf_36 ?_
    refine z_istore [(8, .int (zI 0)), (0, .ref (a 144)), (1, .int (zI v1)), (2, .int (zI v2)), (3, .int (zI v3)), (4, .ref (a 99)), (5, .long (zJ v5)), (7, .int (zI v7))] hc dX3_leadOf_37 (by decide) rfl ?_
    obtain ⟨lx10, hlx10, h⟩ := z_b_some h
    refine z_sub [(0, .ref (a 144)), (1, .int (zI v1)), (2, .int (zI v2)), (3, .int (zI v3)), (4, .ref (a 99)), (5, .long (zJ v5)), (7, .int (zI v7)), (8, .int (zI 0))] [1, 2, 3, 4, 5, 6, 7, 0] rfl ?_
    refine z_loop (fun q9 : (Int × Int) => J_X3_leadOf_b39 v1 v2 v3 v7 q9.1 q9.2 st) (fun q9 : (Int × Int) => z_V κ z_T z_N a 0 0 39 [(0, .ref (a 144)), (1, .int (zI v1)), (2, .int (zI v2)), (3, .int (zI v3)), (4, .ref (a 99)), (5, .long (zJ q9.1)), (7, .int (zI v7)), (8, .int (zI q9.2))] [] st) (fun x9 : Int => z_V κ z_T z_N a 0 0 100 [(0, .ref (a 144)), (1, .int (zI v1)), (2, .int (zI v2)), (3, .int (zI v3)), (4, .ref (a 99)), (5, .long (zJ x9)), (7, .int (zI v7))] [] st) (fun q9 o9 hb k1 k2 => ?_) _ _ _ hlx10 ?_
    · exact w_X3_leadOf_b39 hc hap k1 k2 hb
    · show z_V κ z_T z_N a 0 0 100 [(0, .ref (a 144)), (1, .int (zI v1)), (2, .int (zI v2)), (3, .int (zI v3)), (4, .ref (a 99)), (5, .long (zJ lx10)), (7, .int (zI v7))] [] st
      refine z_iinc [(7, .int (zI (v7 + 1))), (0, .ref (a 144)), (1, .int (zI v1)), (2, .int (zI v2)), (3, .int (zI v3)), (4, .ref (a 99)), (5, .long (zJ lx10))] 6 hc dX3_leadOf_100 rfl (by decide) rfl ?_
      refine z_goto (tgt := 30) hc dX3_leadOf_103 (by decide) ?_
      refine z_sub [(0, .ref (a 144)), (1, .int (zI v1)), (2, .int (zI v2)), (3, .int (zI v3)), (4, .ref (a 99)), (5, .long (zJ lx10)), (7, .int (zI (v7 + 1)))] [1, 2, 3, 4, 5, 6, 0] rfl ?_
      exact k1 _ (Option.some.inj h).symm
  · refine z_sub [(5, .long (zJ v5))] [5] rfl ?_
    exact k2 v5 (Option.some.inj h).symm
def J_X3_leadOf (x1 x2 x3 : Int) (st : z_St) : Option (Int) :=
  z_g (z32 x1) (if x1 = 0 then
    z_g (z32 x3) (if x3 = 0 then
      z_b (J_X0_toll (-1) x2 st) fun r1 =>
      J_X3_leadOf_21 r1 st
    else
      J_X3_leadOf_21 1152921504606846976 st)
  else
    z_b (z_iter z_F (fun q9 : (Int × Int) => J_X3_leadOf_b30 x1 x2 x3 q9.1 q9.2 st) (1152921504606846976, 0)) fun lx11 =>
      some lx11)
set_option maxRecDepth 100000 in
set_option maxHeartbeats 4000000 in
theorem w_X3_leadOf {κ : zK} {a : Nat → Nat} {x1 x2 x3 : Int} {st : z_St} {o : Int} (hc : z_C κ RX3 cX3_leadOf 11 9 0 0) (hap : z_AP κ a z_N) (he : z_E 1 κ (some .long) z_T z_N a o st) (h : J_X3_leadOf x1 x2 x3 st = some o) : z_V κ z_T z_N a 0 0 0 [(0, .ref (a 144)), (1, .int (zI x1)), (2, .int (zI x2)), (3, .int (zI x3)), (4, .ref (a 99))] [] st := by
  unfold J_X3_leadOf at h
  refine z_iload_n (i := 1) 1 hc dX3_leadOf_0 rfl rfl ?_
  refine z_if_ne (tgt := 22) hc dX3_leadOf_1 (by decide) h (fun c1 h => ?_) (fun c1 h => ?_)
  · refine z_iload_n (i := 3) 3 hc dX3_leadOf_4 rfl rfl ?_
    refine z_if_ne (tgt := 18) hc dX3_leadOf_5 (by decide) h (fun c5 h => ?_) (fun c5 h => ?_)
    · refine z_aload 4 hc dX3_leadOf_8 rfl ?_
      refine z_iconst hc dX3_leadOf_10 ?_
      refine z_iload_n (i := 2) 2 hc dX3_leadOf_11 rfl rfl ?_
      obtain ⟨r1, hr1, h⟩ := z_b_some h
      refine z_callVJ [.int (zI (-1)), .int (zI x2)] hc hap o_X0_toll ml_RX3_57 (fun l hl => c_X0_toll hl  hr1) (by decide) tT_99 (by decide) ⟨_, rfl, rfl⟩ rfl rfl (Nat.le_of_ble_eq_true rfl) (Nat.zero_le _) (Nat.zero_le _) dX3_leadOf_12 ?_
      refine z_goto (tgt := 21) hc dX3_leadOf_15 (by decide) ?_
      refine z_sub [] [] rfl ?_
      exact w_X3_leadOf_21 hc hap he h
    · refine z_ldc2 1152921504606846976 hc kc_RX3_55 dX3_leadOf_18 rfl ?_
      refine z_sub [] [] rfl ?_
      exact w_X3_leadOf_21 hc hap he h
  · refine z_ldc2 1152921504606846976 hc kc_RX3_55 dX3_leadOf_22 rfl ?_
    refine z_lstore [(5, .long (zJ 1152921504606846976)), (0, .ref (a 144)), (1, .int (zI x1)), (2, .int (zI x2)), (3, .int (zI x3)), (4, .ref (a 99))] hc dX3_leadOf_25 (by decide) rfl ?_
    refine z_iconst hc dX3_leadOf_27 ?_
    refine z_istore [(7, .int (zI 0)), (5, .long (zJ 1152921504606846976)), (0, .ref (a 144)), (1, .int (zI x1)), (2, .int (zI x2)), (3, .int (zI x3)), (4, .ref (a 99))] hc dX3_leadOf_28 (by decide) rfl ?_
    obtain ⟨lx11, hlx11, h⟩ := z_b_some h
    refine z_sub [(0, .ref (a 144)), (1, .int (zI x1)), (2, .int (zI x2)), (3, .int (zI x3)), (4, .ref (a 99)), (5, .long (zJ 1152921504606846976)), (7, .int (zI 0))] [2, 3, 4, 5, 6, 1, 0] rfl ?_
    refine z_loop (fun q9 : (Int × Int) => J_X3_leadOf_b30 x1 x2 x3 q9.1 q9.2 st) (fun q9 : (Int × Int) => z_V κ z_T z_N a 0 0 30 [(0, .ref (a 144)), (1, .int (zI x1)), (2, .int (zI x2)), (3, .int (zI x3)), (4, .ref (a 99)), (5, .long (zJ q9.1)), (7, .int (zI q9.2))] [] st) (fun x9 : Int => z_V κ z_T z_N a 0 0 106 [(5, .long (zJ x9))] [] st) (fun q9 o9 hb k1 k2 => ?_) _ _ _ hlx11 ?_
    · exact w_X3_leadOf_b30 hc hap k1 k2 hb
    · show z_V κ z_T z_N a 0 0 106 [(5, .long (zJ lx11))] [] st
      refine z_lload 0 hc dX3_leadOf_106 rfl ?_
      have h := Option.some.inj h
      subst h
      exact z_retJ hc he dX3_leadOf_108
set_option maxRecDepth 100000 in
set_option maxHeartbeats 4000000 in
theorem c_X3_leadOf {l : Launch} (hl : l.stackTraces = false) {a : Nat → Nat} {x1 x2 x3 : Int} {st : z_St} {o : Int} (h : J_X3_leadOf x1 x2 x3 st = some o) : z_M 1 l yX3_leadOf cX3_leadOf 11 (some .long) 9 z_T z_N a [.ref (a 144), .int (zI x1), .int (zI x2), .int (zI x3), .ref (a 99)] st o st := z_of hl (by decide +kernel) (Nat.le_of_ble_eq_true rfl) (fun κ hc hap he => w_X3_leadOf hc hap he h)
theorem dX3_trailOf_0 : decode cX3_trailOf 0 = .ok (.iload_n 3, 1) := by decide +kernel
theorem dX3_trailOf_1 : decode cX3_trailOf 1 = .ok (.aload_n 0, 1) := by decide +kernel
theorem dX3_trailOf_2 : decode cX3_trailOf 2 = .ok (.getfield 25, 3) := by decide +kernel
theorem dX3_trailOf_5 : decode cX3_trailOf 5 = .ok (.if_icmp .ne 11, 3) := by decide +kernel
theorem dX3_trailOf_8 : decode cX3_trailOf 8 = .ok (.aload 4, 2) := by decide +kernel
theorem dX3_trailOf_10 : decode cX3_trailOf 10 = .ok (.iload_n 2, 1) := by decide +kernel
theorem dX3_trailOf_11 : decode cX3_trailOf 11 = .ok (.iconst (-1), 1) := by decide +kernel
theorem dX3_trailOf_12 : decode cX3_trailOf 12 = .ok (.invokevirtual 57, 3) := by decide +kernel
theorem dX3_trailOf_15 : decode cX3_trailOf 15 = .ok (.lreturn, 1) := by decide +kernel
theorem dX3_trailOf_16 : decode cX3_trailOf 16 = .ok (.ldc2_w 55, 3) := by decide +kernel
theorem dX3_trailOf_19 : decode cX3_trailOf 19 = .ok (.lstore 5, 2) := by decide +kernel
theorem dX3_trailOf_21 : decode cX3_trailOf 21 = .ok (.iload_n 3, 1) := by decide +kernel
theorem dX3_trailOf_22 : decode cX3_trailOf 22 = .ok (.iconst 1, 1) := by decide +kernel
theorem dX3_trailOf_23 : decode cX3_trailOf 23 = .ok (.iadd, 1) := by decide +kernel
theorem dX3_trailOf_24 : decode cX3_trailOf 24 = .ok (.istore 7, 2) := by decide +kernel
theorem dX3_trailOf_26 : decode cX3_trailOf 26 = .ok (.iload 7, 2) := by decide +kernel
theorem dX3_trailOf_28 : decode cX3_trailOf 28 = .ok (.aload_n 0, 1) := by decide +kernel
theorem dX3_trailOf_29 : decode cX3_trailOf 29 = .ok (.getfield 25, 3) := by decide +kernel
theorem dX3_trailOf_32 : decode cX3_trailOf 32 = .ok (.if_icmp .gt 77, 3) := by decide +kernel
theorem dX3_trailOf_35 : decode cX3_trailOf 35 = .ok (.iload_n 1, 1) := by decide +kernel
theorem dX3_trailOf_36 : decode cX3_trailOf 36 = .ok (.ifCond .le 73, 3) := by decide +kernel
theorem dX3_trailOf_39 : decode cX3_trailOf 39 = .ok (.iconst 0, 1) := by decide +kernel
theorem dX3_trailOf_40 : decode cX3_trailOf 40 = .ok (.istore 8, 2) := by decide +kernel
theorem dX3_trailOf_42 : decode cX3_trailOf 42 = .ok (.iload 8, 2) := by decide +kernel
theorem dX3_trailOf_44 : decode cX3_trailOf 44 = .ok (.aload_n 0, 1) := by decide +kernel
theorem dX3_trailOf_45 : decode cX3_trailOf 45 = .ok (.getfield 21, 3) := by decide +kernel
theorem dX3_trailOf_48 : decode cX3_trailOf 48 = .ok (.if_icmp .ge 55, 3) := by decide +kernel
theorem dX3_trailOf_51 : decode cX3_trailOf 51 = .ok (.aload_n 0, 1) := by decide +kernel
theorem dX3_trailOf_52 : decode cX3_trailOf 52 = .ok (.getfield 18, 3) := by decide +kernel
theorem dX3_trailOf_55 : decode cX3_trailOf 55 = .ok (.iload_n 1, 1) := by decide +kernel
theorem dX3_trailOf_56 : decode cX3_trailOf 56 = .ok (.iconst 1, 1) := by decide +kernel
theorem dX3_trailOf_57 : decode cX3_trailOf 57 = .ok (.isub, 1) := by decide +kernel
theorem dX3_trailOf_58 : decode cX3_trailOf 58 = .ok (.iload 8, 2) := by decide +kernel
theorem dX3_trailOf_60 : decode cX3_trailOf 60 = .ok (.iload 7, 2) := by decide +kernel
theorem dX3_trailOf_62 : decode cX3_trailOf 62 = .ok (.invokestatic 32, 3) := by decide +kernel
theorem dX3_trailOf_65 : decode cX3_trailOf 65 = .ok (.laload, 1) := by decide +kernel
theorem dX3_trailOf_66 : decode cX3_trailOf 66 = .ok (.aload 4, 2) := by decide +kernel
theorem dX3_trailOf_68 : decode cX3_trailOf 68 = .ok (.iload 8, 2) := by decide +kernel
theorem dX3_trailOf_70 : decode cX3_trailOf 70 = .ok (.iload_n 3, 1) := by decide +kernel
theorem dX3_trailOf_71 : decode cX3_trailOf 71 = .ok (.iload 7, 2) := by decide +kernel
theorem dX3_trailOf_73 : decode cX3_trailOf 73 = .ok (.invokevirtual 47, 3) := by decide +kernel
theorem dX3_trailOf_76 : decode cX3_trailOf 76 = .ok (.ladd, 1) := by decide +kernel
theorem dX3_trailOf_77 : decode cX3_trailOf 77 = .ok (.lstore 9, 2) := by decide +kernel
theorem dX3_trailOf_79 : decode cX3_trailOf 79 = .ok (.lload 5, 2) := by decide +kernel
theorem dX3_trailOf_81 : decode cX3_trailOf 81 = .ok (.lload 9, 2) := by decide +kernel
theorem dX3_trailOf_83 : decode cX3_trailOf 83 = .ok (.aload 4, 2) := by decide +kernel
theorem dX3_trailOf_85 : decode cX3_trailOf 85 = .ok (.iload_n 2, 1) := by decide +kernel
theorem dX3_trailOf_86 : decode cX3_trailOf 86 = .ok (.iload 8, 2) := by decide +kernel
theorem dX3_trailOf_88 : decode cX3_trailOf 88 = .ok (.invokevirtual 57, 3) := by decide +kernel
theorem dX3_trailOf_91 : decode cX3_trailOf 91 = .ok (.ladd, 1) := by decide +kernel
theorem dX3_trailOf_92 : decode cX3_trailOf 92 = .ok (.invokestatic 61, 3) := by decide +kernel
theorem dX3_trailOf_95 : decode cX3_trailOf 95 = .ok (.lstore 5, 2) := by decide +kernel
theorem dX3_trailOf_97 : decode cX3_trailOf 97 = .ok (.iinc 8 1, 3) := by decide +kernel
theorem dX3_trailOf_100 : decode cX3_trailOf 100 = .ok (.goto (-58), 3) := by decide +kernel
theorem dX3_trailOf_103 : decode cX3_trailOf 103 = .ok (.iinc 7 1, 3) := by decide +kernel
theorem dX3_trailOf_106 : decode cX3_trailOf 106 = .ok (.goto (-80), 3) := by decide +kernel
theorem dX3_trailOf_109 : decode cX3_trailOf 109 = .ok (.lload 5, 2) := by decide +kernel
theorem dX3_trailOf_111 : decode cX3_trailOf 111 = .ok (.lreturn, 1) := by decide +kernel
def J_X3_trailOf_b42 (v1 v2 v3 v7 v5 v8 : Int) (st : z_St) : Option ((Int × Int) ⊕ Int) :=
  z_g (z32 v8 ∧ z32 (st 144 3)) (if v8 < st 144 3 then
    z_b (J_X3_index (v1 - 1) v8 v7 st) fun r3 =>
    z_g (0 ≤ r3 ∧ r3 < 340) <|
    z_b (J_X0_span v8 v3 v7 st) fun r6 =>
    z_b (J_X0_toll v2 v8 st) fun r8 =>
    z_g (z64 v5 ∧ z64 (((st 147 r3) + r6) + r8)) <|
    some (.inl (min v5 (((st 147 r3) + r6) + r8), v8 + 1))
  else
    some (.inr v5))
set_option maxRecDepth 100000 in
set_option maxHeartbeats 4000000 in
theorem w_X3_trailOf_b42 {κ : zK} {a : Nat → Nat} {v1 v2 v3 v5 v7 v8 : Int} {st : z_St} {mc9 ms9 : Nat} {o : (Int × Int) ⊕ Int} (hc : z_C κ RX3 cX3_trailOf 11 9 mc9 ms9) (hap : z_AP κ a z_N) (k1 : ∀ s9 : (Int × Int), o = .inl s9 → z_V κ z_T z_N a 0 0 42 [(0, .ref (a 144)), (1, .int (zI v1)), (2, .int (zI v2)), (3, .int (zI v3)), (4, .ref (a 99)), (5, .long (zJ s9.1)), (7, .int (zI v7)), (8, .int (zI s9.2))] [] st) (k2 : ∀ x9 : Int, o = .inr x9 → z_V κ z_T z_N a 0 0 103 [(0, .ref (a 144)), (1, .int (zI v1)), (2, .int (zI v2)), (3, .int (zI v3)), (4, .ref (a 99)), (5, .long (zJ x9)), (7, .int (zI v7))] [] st) (h : J_X3_trailOf_b42 v1 v2 v3 v7 v5 v8 st = some o) : z_V κ z_T z_N a 0 0 42 [(0, .ref (a 144)), (1, .int (zI v1)), (2, .int (zI v2)), (3, .int (zI v3)), (4, .ref (a 99)), (5, .long (zJ v5)), (7, .int (zI v7)), (8, .int (zI v8))] [] st := by
  unfold J_X3_trailOf_b42 at h
  refine z_iload 7 hc dX3_trailOf_42 rfl ?_
  refine z_aload_n (i := 0) 0 hc dX3_trailOf_44 rfl rfl ?_
  refine z_getI (kI := 144) (jI := 3) hc fl_RX3_21 tT_144 (by decide) rfl rfl rfl dX3_trailOf_45 ?_
  refine z_icmp_ge (tgt := 103) hc dX3_trailOf_48 (by decide) h (fun c48 h => ?_) (fun c48 h => ?_)
  · refine z_aload_n (i := 0) 0 hc dX3_trailOf_51 rfl rfl ?_
    refine z_getA (k' := 147) hc fl_RX3_18 tT_144 (by decide) rfl rfl dX3_trailOf_52 ?_
    refine z_iload_n (i := 1) 1 hc dX3_trailOf_55 rfl rfl ?_
    refine z_iconst hc dX3_trailOf_56 ?_
    refine z_isub hc dX3_trailOf_57 ?_
    refine z_iload 7 hc dX3_trailOf_58 rfl ?_
    refine z_iload 6 hc dX3_trailOf_60 rfl ?_
    obtain ⟨r3, hr3, h⟩ := z_b_some h
    refine z_callSI [.int (zI (v1 - 1)), .int (zI v8), .int (zI v7)] hc hap o_X3_index ml_RX3_32 (fun l hl => c_X3_index hl  hr3) (by decide) rfl rfl (Nat.le_of_ble_eq_true rfl) (Nat.zero_le _) (Nat.zero_le _) dX3_trailOf_62 ?_
    refine z_lald (kI := 147) (nI9 := 340) hc tT_147 (by decide) rfl rfl (by decide) dX3_trailOf_65 h (fun g5 h => ?_)
    refine z_aload 4 hc dX3_trailOf_66 rfl ?_
    refine z_iload 7 hc dX3_trailOf_68 rfl ?_
    refine z_iload_n (i := 3) 3 hc dX3_trailOf_70 rfl rfl ?_
    refine z_iload 6 hc dX3_trailOf_71 rfl ?_
    obtain ⟨r6, hr6, h⟩ := z_b_some h
    refine z_callVJ [.int (zI v8), .int (zI v3), .int (zI v7)] hc hap o_X0_span ml_RX3_47 (fun l hl => c_X0_span hl  hr6) (by decide) tT_99 (by decide) ⟨_, rfl, rfl⟩ rfl rfl (Nat.le_of_ble_eq_true rfl) (Nat.zero_le _) (Nat.zero_le _) dX3_trailOf_73 ?_
    refine z_ladd hc dX3_trailOf_76 ?_
    refine z_lstore [(9, .long (zJ ((st 147 r3) + r6))), (0, .ref (a 144)), (1, .int (zI v1)), (2, .int (zI v2)), (3, .int (zI v3)), (4, .ref (a 99)), (5, .long (zJ v5)), (7, .int (zI v7)), (8, .int (zI v8))] hc dX3_trailOf_77 (by decide) rfl ?_
    refine z_lload 6 hc dX3_trailOf_79 rfl ?_
    refine z_lload 0 hc dX3_trailOf_81 rfl ?_
    refine z_aload 5 hc dX3_trailOf_83 rfl ?_
    refine z_iload_n (i := 2) 3 hc dX3_trailOf_85 rfl rfl ?_
    refine z_iload 8 hc dX3_trailOf_86 rfl ?_
    obtain ⟨r8, hr8, h⟩ := z_b_some h
    refine z_callVJ [.int (zI v2), .int (zI v8)] hc hap o_X0_toll ml_RX3_57 (fun l hl => c_X0_toll hl  hr8) (by decide) tT_99 (by decide) ⟨_, rfl, rfl⟩ rfl rfl (Nat.le_of_ble_eq_true rfl) (Nat.zero_le _) (Nat.zero_le _) dX3_trailOf_88 ?_
    refine z_ladd hc dX3_trailOf_91 ?_
    refine z_minJ hc ml_RX3_61 h ⟨rfl, rfl, Nat.le_of_ble_eq_true rfl, by omega⟩ dX3_trailOf_92 (fun h => ?_)
    refine z_lstore [(5, .long (zJ (min v5 (((st 147 r3) + r6) + r8)))), (9, .long (zJ ((st 147 r3) + r6))), (0, .ref (a 144)), (1, .int (zI v1)), (2, .int (zI v2)), (3, .int (zI v3)), (4, .ref (a 99)), (7, .int (zI v7)), (8, .int (zI v8))] hc dX3_trailOf_95 (by decide) rfl ?_
    refine z_iinc [(8, .int (zI (v8 + 1))), (5, .long (zJ (min v5 (((st 147 r3) + r6) + r8)))), (9, .long (zJ ((st 147 r3) + r6))), (0, .ref (a 144)), (1, .int (zI v1)), (2, .int (zI v2)), (3, .int (zI v3)), (4, .ref (a 99)), (7, .int (zI v7))] 8 hc dX3_trailOf_97 rfl (by decide) rfl ?_
    refine z_goto (tgt := 42) hc dX3_trailOf_100 (by decide) ?_
    refine z_sub [(0, .ref (a 144)), (1, .int (zI v1)), (2, .int (zI v2)), (3, .int (zI v3)), (4, .ref (a 99)), (5, .long (zJ (min v5 (((st 147 r3) + r6) + r8)))), (7, .int (zI v7)), (8, .int (zI (v8 + 1)))] [3, 4, 5, 6, 7, 1, 8, 0] rfl ?_
    exact k1 _ (Option.some.inj h).symm
  · refine z_sub [(0, .ref (a 144)), (1, .int (zI v1)), (2, .int (zI v2)), (3, .int (zI v3)), (4, .ref (a 99)), (5, .long (zJ v5)), (7, .int (zI v7))] [0, 1, 2, 3, 4, 5, 6] rfl ?_
    exact k2 v5 (Option.some.inj h).symm
def J_X3_trailOf_b26 (v1 v2 v3 v5 v7 : Int) (st : z_St) : Option ((Int × Int) ⊕ Int) :=
  z_g (z32 v7 ∧ z32 (st 144 4)) (if st 144 4 < v7 then
    some (.inr v5)
  else
    z_g (z32 v1) (if 0 < v1 then
      z_b (z_iter z_F (fun q9 : (Int × Int) => J_X3_trailOf_b42 v1 v2 v3 v7 q9.1 q9.2 st) (v5, 0)) fun lx10 =>
        some (.inl (lx10, v7 + 1))
    else
      some (.inr v5)))
set_option maxRecDepth 100000 in
set_option maxHeartbeats 4000000 in
theorem w_X3_trailOf_b26 {κ : zK} {a : Nat → Nat} {v1 v2 v3 v5 v7 : Int} {st : z_St} {mc9 ms9 : Nat} {o : (Int × Int) ⊕ Int} (hc : z_C κ RX3 cX3_trailOf 11 9 mc9 ms9) (hap : z_AP κ a z_N) (k1 : ∀ s9 : (Int × Int), o = .inl s9 → z_V κ z_T z_N a 0 0 26 [(0, .ref (a 144)), (1, .int (zI v1)), (2, .int (zI v2)), (3, .int (zI v3)), (4, .ref (a 99)), (5, .long (zJ s9.1)), (7, .int (zI s9.2))] [] st) (k2 : ∀ x9 : Int, o = .inr x9 → z_V κ z_T z_N a 0 0 109 [(5, .long (zJ x9))] [] st) (h : J_X3_trailOf_b26 v1 v2 v3 v5 v7 st = some o) : z_V κ z_T z_N a 0 0 26 [(0, .ref (a 144)), (1, .int (zI v1)), (2, .int (zI v2)), (3, .int (zI v3)), (4, .ref (a 99)), (5, .long (zJ v5)), (7, .int (zI v7))] [] st := by
  unfold J_X3_trailOf_b26 at h
  refine z_iload 6 hc dX3_trailOf_26 rfl ?_
  refine z_aload_n (i := 0) 0 hc dX3_trailOf_28 rfl rfl ?_
  refine z_getI (kI := 144) (jI := 4) hc fl_RX3_25 tT_144 (by decide) rfl rfl rfl dX3_trailOf_29 ?_
  refine z_icmp_gt (tgt := 109) hc dX3_trailOf_32 (by decide) h (fun c32 h => ?_) (fun c32 h => ?_)
  · refine z_sub [(5, .long (zJ v5))] [5] rfl ?_
    exact k2 v5 (Option.some.inj h).symm
  · refine z_iload_n (i := 1) 1 hc dX3_trailOf_35 rfl rfl ?_
    refine z_if_le (tgt := 109) hc dX3_trailOf_36 (by decide) h (fun c36 h => ?_) (fun c36 h => ?_)
    · refine z_iconst hc dX3_trailOf_39 ?_
      refine z_istore [(8, .int (zI 0)), (0, .ref (a 144)), (1, .int (zI v1)), (2, .int (zI v2)), (3, .int (zI v3)), (4, .ref (a 99)), (5, .long (zJ v5)), (7, .int (zI v7))] hc dX3_trailOf_40 (by decide) rfl ?_
      obtain ⟨lx10, hlx10, h⟩ := z_b_some h
      refine z_sub [(0, .ref (a 144)), (1, .int (zI v1)), (2, .int (zI v2)), (3, .int (zI v3)), (4, .ref (a 99)), (5, .long (zJ v5)), (7, .int (zI v7)), (8, .int (zI 0))] [1, 2, 3, 4, 5, 6, 7, 0] rfl ?_
      refine z_loop (fun q9 : (Int × Int) => J_X3_trailOf_b42 v1 v2 v3 v7 q9.1 q9.2 st) (fun q9 : (Int × Int) => z_V κ z_T z_N a 0 0 42 [(0, .ref (a 144)), (1, .int (zI v1)), (2, .int (zI v2)), (3, .int (zI v3)), (4, .ref (a 99)), (5, .long (zJ q9.1)), (7, .int (zI v7)), (8, .int (zI q9.2))] [] st) (fun x9 : Int => z_V κ z_T z_N a 0 0 103 [(0, .ref (a 144)), (1, .int (zI v1)), (2, .int (zI v2)), (3, .int (zI v3)), (4, .ref (a 99)), (5, .long (zJ x9)), (7, .int (zI v7))] [] st) (fun q9 o9 hb k1 k2 => ?_) _ _ _ hlx10 ?_
      · exact w_X3_trailOf_b42 hc hap k1 k2 hb
      · show z_V κ z_T z_N a 0 0 103 [(0, .ref (a 144)), (1, .int (zI v1)), (2, .int (zI v2)), (3, .int (zI v3)), (4, .ref (a 99)), (5, .long (zJ lx10)), (7, .int (zI v7))] [] st
        refine z_iinc [(7, .int (zI (v7 + 1))), (0, .ref (a 144)), (1, .int (zI v1)), (2, .int (zI v2)), (3, .int (zI v3)), (4, .ref (a 99)), (5, .long (zJ lx10))] 6 hc dX3_trailOf_103 rfl (by decide) rfl ?_
        refine z_goto (tgt := 26) hc dX3_trailOf_106 (by decide) ?_
        refine z_sub [(0, .ref (a 144)), (1, .int (zI v1)), (2, .int (zI v2)), (3, .int (zI v3)), (4, .ref (a 99)), (5, .long (zJ lx10)), (7, .int (zI (v7 + 1)))] [1, 2, 3, 4, 5, 6, 0] rfl ?_
        exact k1 _ (Option.some.inj h).symm
    · refine z_sub [(5, .long (zJ v5))] [5] rfl ?_
      exact k2 v5 (Option.some.inj h).symm
def J_X3_trailOf (x1 x2 x3 : Int) (st : z_St) : Option (Int) :=
  z_g (z32 x3 ∧ z32 (st 144 4)) (if x3 = st 144 4 then
    z_b (J_X0_toll x2 (-1) st) fun r1 =>
    some r1
  else
    z_b (z_iter z_F (fun q9 : (Int × Int) => J_X3_trailOf_b26 x1 x2 x3 q9.1 q9.2 st) (1152921504606846976, x3 + 1)) fun lx11 =>
      some lx11)
set_option maxRecDepth 100000 in
set_option maxHeartbeats 4000000 in
theorem w_X3_trailOf {κ : zK} {a : Nat → Nat} {x1 x2 x3 : Int} {st : z_St} {o : Int} (hc : z_C κ RX3 cX3_trailOf 11 9 0 0) (hap : z_AP κ a z_N) (he : z_E 1 κ (some .long) z_T z_N a o st) (h : J_X3_trailOf x1 x2 x3 st = some o) : z_V κ z_T z_N a 0 0 0 [(0, .ref (a 144)), (1, .int (zI x1)), (2, .int (zI x2)), (3, .int (zI x3)), (4, .ref (a 99))] [] st := by
  unfold J_X3_trailOf at h
  refine z_iload_n (i := 3) 3 hc dX3_trailOf_0 rfl rfl ?_
  refine z_aload_n (i := 0) 0 hc dX3_trailOf_1 rfl rfl ?_
  refine z_getI (kI := 144) (jI := 4) hc fl_RX3_25 tT_144 (by decide) rfl rfl rfl dX3_trailOf_2 ?_
  refine z_icmp_ne (tgt := 16) hc dX3_trailOf_5 (by decide) h (fun c5 h => ?_) (fun c5 h => ?_)
  · refine z_aload 4 hc dX3_trailOf_8 rfl ?_
    refine z_iload_n (i := 2) 2 hc dX3_trailOf_10 rfl rfl ?_
    refine z_iconst hc dX3_trailOf_11 ?_
    obtain ⟨r1, hr1, h⟩ := z_b_some h
    refine z_callVJ [.int (zI x2), .int (zI (-1))] hc hap o_X0_toll ml_RX3_57 (fun l hl => c_X0_toll hl  hr1) (by decide) tT_99 (by decide) ⟨_, rfl, rfl⟩ rfl rfl (Nat.le_of_ble_eq_true rfl) (Nat.zero_le _) (Nat.zero_le _) dX3_trailOf_12 ?_
    have h := Option.some.inj h
    subst h
    exact z_retJ hc he dX3_trailOf_15
  · refine z_ldc2 1152921504606846976 hc kc_RX3_55 dX3_trailOf_16 rfl ?_
    refine z_lstore [(5, .long (zJ 1152921504606846976)), (0, .ref (a 144)), (1, .int (zI x1)), (2, .int (zI x2)), (3, .int (zI x3)), (4, .ref (a 99))] hc dX3_trailOf_19 (by decide) rfl ?_
    refine z_iload_n (i := 3) 4 hc dX3_trailOf_21 rfl rfl ?_
    refine z_iconst hc dX3_trailOf_22 ?_
    refine z_iadd hc dX3_trailOf_23 ?_
    refine z_istore [(7, .int (zI (x3 + 1))), (5, .long (zJ 1152921504606846976)), (0, .ref (a 144)), (1, .int (zI x1)), (2, .int (zI x2)), (3, .int (zI x3)), (4, .ref (a 99))] hc dX3_trailOf_24 (by decide) rfl ?_
    obtain ⟨lx11, hlx11, h⟩ := z_b_some h
    refine z_sub [(0, .ref (a 144)), (1, .int (zI x1)), (2, .int (zI x2)), (3, .int (zI x3)), (4, .ref (a 99)), (5, .long (zJ 1152921504606846976)), (7, .int (zI (x3 + 1)))] [2, 3, 4, 5, 6, 1, 0] rfl ?_
    refine z_loop (fun q9 : (Int × Int) => J_X3_trailOf_b26 x1 x2 x3 q9.1 q9.2 st) (fun q9 : (Int × Int) => z_V κ z_T z_N a 0 0 26 [(0, .ref (a 144)), (1, .int (zI x1)), (2, .int (zI x2)), (3, .int (zI x3)), (4, .ref (a 99)), (5, .long (zJ q9.1)), (7, .int (zI q9.2))] [] st) (fun x9 : Int => z_V κ z_T z_N a 0 0 109 [(5, .long (zJ x9))] [] st) (fun q9 o9 hb k1 k2 => ?_) _ _ _ hlx11 ?_
    · exact w_X3_trailOf_b26 hc hap k1 k2 hb
    · show z_V κ z_T z_N a 0 0 109 [(5, .long (zJ lx11))] [] st
      refine z_lload 0 hc dX3_trailOf_109 rfl ?_
      have h := Option.some.inj h
      subst h
      exact z_retJ hc he dX3_trailOf_111
set_option maxRecDepth 100000 in
set_option maxHeartbeats 4000000 in
theorem c_X3_trailOf {l : Launch} (hl : l.stackTraces = false) {a : Nat → Nat} {x1 x2 x3 : Int} {st : z_St} {o : Int} (h : J_X3_trailOf x1 x2 x3 st = some o) : z_M 1 l yX3_trailOf cX3_trailOf 11 (some .long) 9 z_T z_N a [.ref (a 144), .int (zI x1), .int (zI x2), .int (zI x3), .ref (a 99)] st o st := z_of hl (by decide +kernel) (Nat.le_of_ble_eq_true rfl) (fun κ hc hap he => w_X3_trailOf hc hap he h)
theorem dX3_leastThrough_0 : decode cX3_leastThrough 0 = .ok (.ldc2_w 55, 3) := by decide +kernel
theorem dX3_leastThrough_3 : decode cX3_leastThrough 3 = .ok (.lstore 4, 2) := by decide +kernel
theorem dX3_leastThrough_5 : decode cX3_leastThrough 5 = .ok (.iconst 0, 1) := by decide +kernel
theorem dX3_leastThrough_6 : decode cX3_leastThrough 6 = .ok (.istore 6, 2) := by decide +kernel
theorem dX3_leastThrough_8 : decode cX3_leastThrough 8 = .ok (.iload 6, 2) := by decide +kernel
theorem dX3_leastThrough_10 : decode cX3_leastThrough 10 = .ok (.iconst 4, 1) := by decide +kernel
theorem dX3_leastThrough_11 : decode cX3_leastThrough 11 = .ok (.if_icmp .ge 47, 3) := by decide +kernel
theorem dX3_leastThrough_14 : decode cX3_leastThrough 14 = .ok (.aload_n 0, 1) := by decide +kernel
theorem dX3_leastThrough_15 : decode cX3_leastThrough 15 = .ok (.getfield 15, 3) := by decide +kernel
theorem dX3_leastThrough_18 : decode cX3_leastThrough 18 = .ok (.iload 6, 2) := by decide +kernel
theorem dX3_leastThrough_20 : decode cX3_leastThrough 20 = .ok (.iload_n 1, 1) := by decide +kernel
theorem dX3_leastThrough_21 : decode cX3_leastThrough 21 = .ok (.iload_n 2, 1) := by decide +kernel
theorem dX3_leastThrough_22 : decode cX3_leastThrough 22 = .ok (.invokestatic 32, 3) := by decide +kernel
theorem dX3_leastThrough_25 : decode cX3_leastThrough 25 = .ok (.laload, 1) := by decide +kernel
theorem dX3_leastThrough_26 : decode cX3_leastThrough 26 = .ok (.lstore 7, 2) := by decide +kernel
theorem dX3_leastThrough_28 : decode cX3_leastThrough 28 = .ok (.lload 4, 2) := by decide +kernel
theorem dX3_leastThrough_30 : decode cX3_leastThrough 30 = .ok (.lload 7, 2) := by decide +kernel
theorem dX3_leastThrough_32 : decode cX3_leastThrough 32 = .ok (.aload_n 0, 1) := by decide +kernel
theorem dX3_leastThrough_33 : decode cX3_leastThrough 33 = .ok (.getfield 18, 3) := by decide +kernel
theorem dX3_leastThrough_36 : decode cX3_leastThrough 36 = .ok (.iconst 3, 1) := by decide +kernel
theorem dX3_leastThrough_37 : decode cX3_leastThrough 37 = .ok (.iload 6, 2) := by decide +kernel
theorem dX3_leastThrough_39 : decode cX3_leastThrough 39 = .ok (.isub, 1) := by decide +kernel
theorem dX3_leastThrough_40 : decode cX3_leastThrough 40 = .ok (.iload_n 1, 1) := by decide +kernel
theorem dX3_leastThrough_41 : decode cX3_leastThrough 41 = .ok (.iload_n 3, 1) := by decide +kernel
theorem dX3_leastThrough_42 : decode cX3_leastThrough 42 = .ok (.invokestatic 32, 3) := by decide +kernel
theorem dX3_leastThrough_45 : decode cX3_leastThrough 45 = .ok (.laload, 1) := by decide +kernel
theorem dX3_leastThrough_46 : decode cX3_leastThrough 46 = .ok (.ladd, 1) := by decide +kernel
theorem dX3_leastThrough_47 : decode cX3_leastThrough 47 = .ok (.invokestatic 61, 3) := by decide +kernel
theorem dX3_leastThrough_50 : decode cX3_leastThrough 50 = .ok (.lstore 4, 2) := by decide +kernel
theorem dX3_leastThrough_52 : decode cX3_leastThrough 52 = .ok (.iinc 6 1, 3) := by decide +kernel
theorem dX3_leastThrough_55 : decode cX3_leastThrough 55 = .ok (.goto (-47), 3) := by decide +kernel
theorem dX3_leastThrough_58 : decode cX3_leastThrough 58 = .ok (.lload 4, 2) := by decide +kernel
theorem dX3_leastThrough_60 : decode cX3_leastThrough 60 = .ok (.lreturn, 1) := by decide +kernel
def J_X3_leastThrough_b8 (v1 v2 v3 v4 v6 : Int) (st : z_St) : Option ((Int × Int) ⊕ Int) :=
  z_g (z32 v6 ∧ z32 4) (if v6 < 4 then
    z_b (J_X3_index v6 v1 v2 st) fun r1 =>
    z_g (0 ≤ r1 ∧ r1 < 340) <|
    z_b (J_X3_index (3 - v6) v1 v3 st) fun r4 =>
    z_g (0 ≤ r4 ∧ r4 < 340) <|
    z_g (z64 v4 ∧ z64 ((st 146 r1) + (st 147 r4))) <|
    some (.inl (min v4 ((st 146 r1) + (st 147 r4)), v6 + 1))
  else
    some (.inr v4))
set_option maxRecDepth 100000 in
set_option maxHeartbeats 4000000 in
theorem w_X3_leastThrough_b8 {κ : zK} {a : Nat → Nat} {v1 v2 v3 v4 v6 : Int} {st : z_St} {mc9 ms9 : Nat} {o : (Int × Int) ⊕ Int} (hc : z_C κ RX3 cX3_leastThrough 9 9 mc9 ms9) (hap : z_AP κ a z_N) (k1 : ∀ s9 : (Int × Int), o = .inl s9 → z_V κ z_T z_N a 0 0 8 [(0, .ref (a 144)), (1, .int (zI v1)), (2, .int (zI v2)), (3, .int (zI v3)), (4, .long (zJ s9.1)), (6, .int (zI s9.2))] [] st) (k2 : ∀ x9 : Int, o = .inr x9 → z_V κ z_T z_N a 0 0 58 [(4, .long (zJ x9))] [] st) (h : J_X3_leastThrough_b8 v1 v2 v3 v4 v6 st = some o) : z_V κ z_T z_N a 0 0 8 [(0, .ref (a 144)), (1, .int (zI v1)), (2, .int (zI v2)), (3, .int (zI v3)), (4, .long (zJ v4)), (6, .int (zI v6))] [] st := by
  unfold J_X3_leastThrough_b8 at h
  refine z_iload 5 hc dX3_leastThrough_8 rfl ?_
  refine z_iconst hc dX3_leastThrough_10 ?_
  refine z_icmp_ge (tgt := 58) hc dX3_leastThrough_11 (by decide) h (fun c11 h => ?_) (fun c11 h => ?_)
  · refine z_aload_n (i := 0) 0 hc dX3_leastThrough_14 rfl rfl ?_
    refine z_getA (k' := 146) hc fl_RX3_15 tT_144 (by decide) rfl rfl dX3_leastThrough_15 ?_
    refine z_iload 5 hc dX3_leastThrough_18 rfl ?_
    refine z_iload_n (i := 1) 1 hc dX3_leastThrough_20 rfl rfl ?_
    refine z_iload_n (i := 2) 2 hc dX3_leastThrough_21 rfl rfl ?_
    obtain ⟨r1, hr1, h⟩ := z_b_some h
    refine z_callSI [.int (zI v6), .int (zI v1), .int (zI v2)] hc hap o_X3_index ml_RX3_32 (fun l hl => c_X3_index hl  hr1) (by decide) rfl rfl (Nat.le_of_ble_eq_true rfl) (Nat.zero_le _) (Nat.zero_le _) dX3_leastThrough_22 ?_
    refine z_lald (kI := 146) (nI9 := 340) hc tT_146 (by decide) rfl rfl (by decide) dX3_leastThrough_25 h (fun g3 h => ?_)
    refine z_lstore [(7, .long (zJ (st 146 r1))), (0, .ref (a 144)), (1, .int (zI v1)), (2, .int (zI v2)), (3, .int (zI v3)), (4, .long (zJ v4)), (6, .int (zI v6))] hc dX3_leastThrough_26 (by decide) rfl ?_
    refine z_lload 5 hc dX3_leastThrough_28 rfl ?_
    refine z_lload 0 hc dX3_leastThrough_30 rfl ?_
    refine z_aload_n (i := 0) 1 hc dX3_leastThrough_32 rfl rfl ?_
    refine z_getA (k' := 147) hc fl_RX3_18 tT_144 (by decide) rfl rfl dX3_leastThrough_33 ?_
    refine z_iconst hc dX3_leastThrough_36 ?_
    refine z_iload 6 hc dX3_leastThrough_37 rfl ?_
    refine z_isub hc dX3_leastThrough_39 ?_
    refine z_iload_n (i := 1) 2 hc dX3_leastThrough_40 rfl rfl ?_
    refine z_iload_n (i := 3) 4 hc dX3_leastThrough_41 rfl rfl ?_
    obtain ⟨r4, hr4, h⟩ := z_b_some h
    refine z_callSI [.int (zI (3 - v6)), .int (zI v1), .int (zI v3)] hc hap o_X3_index ml_RX3_32 (fun l hl => c_X3_index hl  hr4) (by decide) rfl rfl (Nat.le_of_ble_eq_true rfl) (Nat.zero_le _) (Nat.zero_le _) dX3_leastThrough_42 ?_
    refine z_lald (kI := 147) (nI9 := 340) hc tT_147 (by decide) rfl rfl (by decide) dX3_leastThrough_45 h (fun g6 h => ?_)
    refine z_ladd hc dX3_leastThrough_46 ?_
    refine z_minJ hc ml_RX3_61 h ⟨rfl, rfl, Nat.le_of_ble_eq_true rfl, by omega⟩ dX3_leastThrough_47 (fun h => ?_)
    refine z_lstore [(4, .long (zJ (min v4 ((st 146 r1) + (st 147 r4))))), (7, .long (zJ (st 146 r1))), (0, .ref (a 144)), (1, .int (zI v1)), (2, .int (zI v2)), (3, .int (zI v3)), (6, .int (zI v6))] hc dX3_leastThrough_50 (by decide) rfl ?_
    refine z_iinc [(6, .int (zI (v6 + 1))), (4, .long (zJ (min v4 ((st 146 r1) + (st 147 r4))))), (7, .long (zJ (st 146 r1))), (0, .ref (a 144)), (1, .int (zI v1)), (2, .int (zI v2)), (3, .int (zI v3))] 6 hc dX3_leastThrough_52 rfl (by decide) rfl ?_
    refine z_goto (tgt := 8) hc dX3_leastThrough_55 (by decide) ?_
    refine z_sub [(0, .ref (a 144)), (1, .int (zI v1)), (2, .int (zI v2)), (3, .int (zI v3)), (4, .long (zJ (min v4 ((st 146 r1) + (st 147 r4))))), (6, .int (zI (v6 + 1)))] [3, 4, 5, 6, 1, 0] rfl ?_
    exact k1 _ (Option.some.inj h).symm
  · refine z_sub [(4, .long (zJ v4))] [4] rfl ?_
    exact k2 v4 (Option.some.inj h).symm
def J_X3_leastThrough (x1 x2 x3 : Int) (st : z_St) : Option (Int) :=
  z_b (z_iter z_F (fun q9 : (Int × Int) => J_X3_leastThrough_b8 x1 x2 x3 q9.1 q9.2 st) (1152921504606846976, 0)) fun lx7 =>
    some lx7
set_option maxRecDepth 100000 in
set_option maxHeartbeats 4000000 in
theorem w_X3_leastThrough {κ : zK} {a : Nat → Nat} {x1 x2 x3 : Int} {st : z_St} {o : Int} (hc : z_C κ RX3 cX3_leastThrough 9 9 0 0) (hap : z_AP κ a z_N) (he : z_E 1 κ (some .long) z_T z_N a o st) (h : J_X3_leastThrough x1 x2 x3 st = some o) : z_V κ z_T z_N a 0 0 0 [(0, .ref (a 144)), (1, .int (zI x1)), (2, .int (zI x2)), (3, .int (zI x3))] [] st := by
  unfold J_X3_leastThrough at h
  refine z_ldc2 1152921504606846976 hc kc_RX3_55 dX3_leastThrough_0 rfl ?_
  refine z_lstore [(4, .long (zJ 1152921504606846976)), (0, .ref (a 144)), (1, .int (zI x1)), (2, .int (zI x2)), (3, .int (zI x3))] hc dX3_leastThrough_3 (by decide) rfl ?_
  refine z_iconst hc dX3_leastThrough_5 ?_
  refine z_istore [(6, .int (zI 0)), (4, .long (zJ 1152921504606846976)), (0, .ref (a 144)), (1, .int (zI x1)), (2, .int (zI x2)), (3, .int (zI x3))] hc dX3_leastThrough_6 (by decide) rfl ?_
  obtain ⟨lx7, hlx7, h⟩ := z_b_some h
  refine z_sub [(0, .ref (a 144)), (1, .int (zI x1)), (2, .int (zI x2)), (3, .int (zI x3)), (4, .long (zJ 1152921504606846976)), (6, .int (zI 0))] [2, 3, 4, 5, 1, 0] rfl ?_
  refine z_loop (fun q9 : (Int × Int) => J_X3_leastThrough_b8 x1 x2 x3 q9.1 q9.2 st) (fun q9 : (Int × Int) => z_V κ z_T z_N a 0 0 8 [(0, .ref (a 144)), (1, .int (zI x1)), (2, .int (zI x2)), (3, .int (zI x3)), (4, .long (zJ q9.1)), (6, .int (zI q9.2))] [] st) (fun x9 : Int => z_V κ z_T z_N a 0 0 58 [(4, .long (zJ x9))] [] st) (fun q9 o9 hb k1 k2 => ?_) _ _ _ hlx7 ?_
  · exact w_X3_leastThrough_b8 hc hap k1 k2 hb
  · show z_V κ z_T z_N a 0 0 58 [(4, .long (zJ lx7))] [] st
    refine z_lload 0 hc dX3_leastThrough_58 rfl ?_
    have h := Option.some.inj h
    subst h
    exact z_retJ hc he dX3_leastThrough_60
set_option maxRecDepth 100000 in
set_option maxHeartbeats 4000000 in
theorem c_X3_leastThrough {l : Launch} (hl : l.stackTraces = false) {a : Nat → Nat} {x1 x2 x3 : Int} {st : z_St} {o : Int} (h : J_X3_leastThrough x1 x2 x3 st = some o) : z_M 1 l yX3_leastThrough cX3_leastThrough 9 (some .long) 9 z_T z_N a [.ref (a 144), .int (zI x1), .int (zI x2), .int (zI x3)] st o st := z_of hl (by decide +kernel) (Nat.le_of_ble_eq_true rfl) (fun κ hc hap he => w_X3_leastThrough hc hap he h)
