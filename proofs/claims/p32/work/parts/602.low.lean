theorem dL_low_0 : decode cL_low 0 = .ok (.iload_n 0, 1) := by decide +kernel
theorem dL_low_1 : decode cL_low 1 = .ok (.ldc 8, 2) := by decide +kernel
theorem dL_low_3 : decode cL_low 3 = .ok (.iand, 1) := by decide +kernel
theorem dL_low_4 : decode cL_low 4 = .ok (.iload_n 1, 1) := by decide +kernel
theorem dL_low_5 : decode cL_low 5 = .ok (.irem, 1) := by decide +kernel
theorem dL_low_6 : decode cL_low 6 = .ok (.ireturn, 1) := by decide +kernel
def J_L_low (x0 x1 : Int) (st : z_St) : Option (Int) :=
  z_g (z32 (z_iand x0 2147483647) ∧ z32 x1 ∧ (x1 : Int) ≠ 0) <|
  some ((z_iand x0 2147483647).tmod x1)
set_option maxRecDepth 100000 in
set_option maxHeartbeats 4000000 in
theorem w_L_low {κ : zK} {a : Nat → Nat} {x0 x1 : Int} {st : z_St} {o : Int} (hc : z_C κ RL cL_low 2 8 0 0) (hap : z_AP κ a z_N) (he : z_E 0 κ (some .int) z_T z_N a o st) (h : J_L_low x0 x1 st = some o) : z_V κ z_T z_N a 0 0 0 [(0, .int (zI x0)), (1, .int (zI x1))] [] st := by
  unfold J_L_low at h
  refine z_iload_n (i := 0) 0 hc dL_low_0 rfl rfl ?_
  refine z_ldc 2147483647 hc kc_RL_8 dL_low_1 rfl ?_
  refine z_iand_r hc dL_low_3 ?_
  refine z_iload_n (i := 1) 1 hc dL_low_4 rfl rfl ?_
  refine z_irem hc dL_low_5 h (fun h => ?_)
  have h := Option.some.inj h
  subst h
  exact z_retI hc he dL_low_6
set_option maxRecDepth 100000 in
set_option maxHeartbeats 4000000 in
theorem c_L_low {l : Launch} (hl : l.stackTraces = false) {a : Nat → Nat} {x0 x1 : Int} {st : z_St} {o : Int} (h : J_L_low x0 x1 st = some o) : z_M 0 l yL_low cL_low 2 (some .int) 8 z_T z_N a [.int (zI x0), .int (zI x1)] st o st := z_of hl (by decide +kernel) (Nat.le_of_ble_eq_true rfl) (fun κ hc hap he => w_L_low hc hap he h)
theorem dL_row_0 : decode cL_row 0 = .ok (.iconst 1, 1) := by decide +kernel
theorem dL_row_1 : decode cL_row 1 = .ok (.iload_n 0, 1) := by decide +kernel
theorem dL_row_2 : decode cL_row 2 = .ok (.iconst 4, 1) := by decide +kernel
theorem dL_row_3 : decode cL_row 3 = .ok (.invokestatic 129, 3) := by decide +kernel
theorem dL_row_6 : decode cL_row 6 = .ok (.iadd, 1) := by decide +kernel
theorem dL_row_7 : decode cL_row 7 = .ok (.istore_n 2, 1) := by decide +kernel
theorem dL_row_8 : decode cL_row 8 = .ok (.iconst 0, 1) := by decide +kernel
theorem dL_row_9 : decode cL_row 9 = .ok (.istore_n 3, 1) := by decide +kernel
theorem dL_row_10 : decode cL_row 10 = .ok (.iconst 0, 1) := by decide +kernel
theorem dL_row_11 : decode cL_row 11 = .ok (.istore 4, 2) := by decide +kernel
theorem dL_row_13 : decode cL_row 13 = .ok (.iload 4, 2) := by decide +kernel
theorem dL_row_15 : decode cL_row 15 = .ok (.iload_n 2, 1) := by decide +kernel
theorem dL_row_16 : decode cL_row 16 = .ok (.if_icmp .ge 29, 3) := by decide +kernel
theorem dL_row_19 : decode cL_row 19 = .ok (.bipush 10, 2) := by decide +kernel
theorem dL_row_21 : decode cL_row 21 = .ok (.iload_n 3, 1) := by decide +kernel
theorem dL_row_22 : decode cL_row 22 = .ok (.imul, 1) := by decide +kernel
theorem dL_row_23 : decode cL_row 23 = .ok (.iconst 1, 1) := by decide +kernel
theorem dL_row_24 : decode cL_row 24 = .ok (.iadd, 1) := by decide +kernel
theorem dL_row_25 : decode cL_row 25 = .ok (.iload_n 0, 1) := by decide +kernel
theorem dL_row_26 : decode cL_row 26 = .ok (.iconst 3, 1) := by decide +kernel
theorem dL_row_27 : decode cL_row 27 = .ok (.iconst 4, 1) := by decide +kernel
theorem dL_row_28 : decode cL_row 28 = .ok (.iload 4, 2) := by decide +kernel
theorem dL_row_30 : decode cL_row 30 = .ok (.imul, 1) := by decide +kernel
theorem dL_row_31 : decode cL_row 31 = .ok (.iadd, 1) := by decide +kernel
theorem dL_row_32 : decode cL_row 32 = .ok (.ishr, 1) := by decide +kernel
theorem dL_row_33 : decode cL_row 33 = .ok (.iload_n 1, 1) := by decide +kernel
theorem dL_row_34 : decode cL_row 34 = .ok (.invokestatic 129, 3) := by decide +kernel
theorem dL_row_37 : decode cL_row 37 = .ok (.iadd, 1) := by decide +kernel
theorem dL_row_38 : decode cL_row 38 = .ok (.istore_n 3, 1) := by decide +kernel
theorem dL_row_39 : decode cL_row 39 = .ok (.iinc 4 1, 3) := by decide +kernel
theorem dL_row_42 : decode cL_row 42 = .ok (.goto (-29), 3) := by decide +kernel
theorem dL_row_45 : decode cL_row 45 = .ok (.iload_n 3, 1) := by decide +kernel
theorem dL_row_46 : decode cL_row 46 = .ok (.ireturn, 1) := by decide +kernel
def J_L_row_b13 (v0 v1 v2 v3 v4 : Int) (st : z_St) : Option ((Int × Int) ⊕ Int) :=
  z_g (z32 v4 ∧ z32 v2) (if v4 < v2 then
    z_b (J_L_low (z_ishr v0 (3 + (4 * v4))) v1 st) fun r3 =>
    some (.inl (((10 * v3) + 1) + r3, v4 + 1))
  else
    some (.inr v3))
set_option maxRecDepth 100000 in
set_option maxHeartbeats 4000000 in
theorem w_L_row_b13 {κ : zK} {a : Nat → Nat} {v0 v1 v2 v3 v4 : Int} {st : z_St} {mc9 ms9 : Nat} {o : (Int × Int) ⊕ Int} (hc : z_C κ RL cL_row 5 9 mc9 ms9) (hap : z_AP κ a z_N) (k1 : ∀ s9 : (Int × Int), o = .inl s9 → z_V κ z_T z_N a 0 0 13 [(0, .int (zI v0)), (1, .int (zI v1)), (2, .int (zI v2)), (3, .int (zI s9.1)), (4, .int (zI s9.2))] [] st) (k2 : ∀ x9 : Int, o = .inr x9 → z_V κ z_T z_N a 0 0 45 [(3, .int (zI x9))] [] st) (h : J_L_row_b13 v0 v1 v2 v3 v4 st = some o) : z_V κ z_T z_N a 0 0 13 [(0, .int (zI v0)), (1, .int (zI v1)), (2, .int (zI v2)), (3, .int (zI v3)), (4, .int (zI v4))] [] st := by
  unfold J_L_row_b13 at h
  refine z_iload 4 hc dL_row_13 rfl ?_
  refine z_iload_n (i := 2) 2 hc dL_row_15 rfl rfl ?_
  refine z_icmp_ge (tgt := 45) hc dL_row_16 (by decide) h (fun c16 h => ?_) (fun c16 h => ?_)
  · refine z_bipush hc dL_row_19 rfl ?_
    refine z_iload_n (i := 3) 3 hc dL_row_21 rfl rfl ?_
    refine z_imul hc dL_row_22 ?_
    refine z_iconst hc dL_row_23 ?_
    refine z_iadd hc dL_row_24 ?_
    refine z_iload_n (i := 0) 0 hc dL_row_25 rfl rfl ?_
    refine z_iconst hc dL_row_26 ?_
    refine z_iconst hc dL_row_27 ?_
    refine z_iload 4 hc dL_row_28 rfl ?_
    refine z_imul hc dL_row_30 ?_
    refine z_iadd hc dL_row_31 ?_
    refine z_ishr_r hc dL_row_32 ?_
    refine z_iload_n (i := 1) 1 hc dL_row_33 rfl rfl ?_
    obtain ⟨r3, hr3, h⟩ := z_b_some h
    refine z_callSI [.int (zI (z_ishr v0 (3 + (4 * v4)))), .int (zI v1)] hc hap o_L_low ml_RL_129 (fun l hl => c_L_low hl  hr3) (by decide) rfl rfl (Nat.le_of_ble_eq_true rfl) (Nat.zero_le _) (Nat.zero_le _) dL_row_34 ?_
    refine z_iadd hc dL_row_37 ?_
    refine z_istore_n (i := 3) [(3, .int (zI (((10 * v3) + 1) + r3))), (0, .int (zI v0)), (1, .int (zI v1)), (2, .int (zI v2)), (4, .int (zI v4))] hc dL_row_38 rfl (by decide) rfl ?_
    refine z_iinc [(4, .int (zI (v4 + 1))), (3, .int (zI (((10 * v3) + 1) + r3))), (0, .int (zI v0)), (1, .int (zI v1)), (2, .int (zI v2))] 4 hc dL_row_39 rfl (by decide) rfl ?_
    refine z_goto (tgt := 13) hc dL_row_42 (by decide) ?_
    refine z_sub [(0, .int (zI v0)), (1, .int (zI v1)), (2, .int (zI v2)), (3, .int (zI (((10 * v3) + 1) + r3))), (4, .int (zI (v4 + 1)))] [2, 3, 4, 1, 0] rfl ?_
    exact k1 _ (Option.some.inj h).symm
  · refine z_sub [(3, .int (zI v3))] [3] rfl ?_
    exact k2 v3 (Option.some.inj h).symm
def J_L_row (x0 x1 : Int) (st : z_St) : Option (Int) :=
  z_b (J_L_low x0 4 st) fun r1 =>
  z_b (z_iter z_F (fun q9 : (Int × Int) => J_L_row_b13 x0 x1 (1 + r1) q9.1 q9.2 st) (0, 0)) fun lx5 =>
    some lx5
set_option maxRecDepth 100000 in
set_option maxHeartbeats 4000000 in
theorem w_L_row {κ : zK} {a : Nat → Nat} {x0 x1 : Int} {st : z_St} {o : Int} (hc : z_C κ RL cL_row 5 9 0 0) (hap : z_AP κ a z_N) (he : z_E 0 κ (some .int) z_T z_N a o st) (h : J_L_row x0 x1 st = some o) : z_V κ z_T z_N a 0 0 0 [(0, .int (zI x0)), (1, .int (zI x1))] [] st := by
  unfold J_L_row at h
  refine z_iconst hc dL_row_0 ?_
  refine z_iload_n (i := 0) 0 hc dL_row_1 rfl rfl ?_
  refine z_iconst hc dL_row_2 ?_
  obtain ⟨r1, hr1, h⟩ := z_b_some h
  refine z_callSI [.int (zI x0), .int (zI 4)] hc hap o_L_low ml_RL_129 (fun l hl => c_L_low hl  hr1) (by decide) rfl rfl (Nat.le_of_ble_eq_true rfl) (Nat.zero_le _) (Nat.zero_le _) dL_row_3 ?_
  refine z_iadd hc dL_row_6 ?_
  refine z_istore_n (i := 2) [(2, .int (zI (1 + r1))), (0, .int (zI x0)), (1, .int (zI x1))] hc dL_row_7 rfl (by decide) rfl ?_
  refine z_iconst hc dL_row_8 ?_
  refine z_istore_n (i := 3) [(3, .int (zI 0)), (2, .int (zI (1 + r1))), (0, .int (zI x0)), (1, .int (zI x1))] hc dL_row_9 rfl (by decide) rfl ?_
  refine z_iconst hc dL_row_10 ?_
  refine z_istore [(4, .int (zI 0)), (3, .int (zI 0)), (2, .int (zI (1 + r1))), (0, .int (zI x0)), (1, .int (zI x1))] hc dL_row_11 (by decide) rfl ?_
  obtain ⟨lx5, hlx5, h⟩ := z_b_some h
  refine z_sub [(0, .int (zI x0)), (1, .int (zI x1)), (2, .int (zI (1 + r1))), (3, .int (zI 0)), (4, .int (zI 0))] [3, 4, 2, 1, 0] rfl ?_
  refine z_loop (fun q9 : (Int × Int) => J_L_row_b13 x0 x1 (1 + r1) q9.1 q9.2 st) (fun q9 : (Int × Int) => z_V κ z_T z_N a 0 0 13 [(0, .int (zI x0)), (1, .int (zI x1)), (2, .int (zI (1 + r1))), (3, .int (zI q9.1)), (4, .int (zI q9.2))] [] st) (fun x9 : Int => z_V κ z_T z_N a 0 0 45 [(3, .int (zI x9))] [] st) (fun q9 o9 hb k1 k2 => ?_) _ _ _ hlx5 ?_
  · exact w_L_row_b13 hc hap k1 k2 hb
  · show z_V κ z_T z_N a 0 0 45 [(3, .int (zI lx5))] [] st
    refine z_iload_n (i := 3) 0 hc dL_row_45 rfl rfl ?_
    have h := Option.some.inj h
    subst h
    exact z_retI hc he dL_row_46
set_option maxRecDepth 100000 in
set_option maxHeartbeats 4000000 in
theorem c_L_row {l : Launch} (hl : l.stackTraces = false) {a : Nat → Nat} {x0 x1 : Int} {st : z_St} {o : Int} (h : J_L_row x0 x1 st = some o) : z_M 0 l yL_row cL_row 5 (some .int) 9 z_T z_N a [.int (zI x0), .int (zI x1)] st o st := z_of hl (by decide +kernel) (Nat.le_of_ble_eq_true rfl) (fun κ hc hap he => w_L_row hc hap he h)
theorem dL_cell_0 : decode cL_cell 0 = .ok (.iload_n 1, 1) := by decide +kernel
theorem dL_cell_1 : decode cL_cell 1 = .ok (.aload_n 0, 1) := by decide +kernel
theorem dL_cell_2 : decode cL_cell 2 = .ok (.arraylength, 1) := by decide +kernel
theorem dL_cell_3 : decode cL_cell 3 = .ok (.if_icmp .ge 9, 3) := by decide +kernel
theorem dL_cell_6 : decode cL_cell 6 = .ok (.aload_n 0, 1) := by decide +kernel
theorem dL_cell_7 : decode cL_cell 7 = .ok (.iload_n 1, 1) := by decide +kernel
theorem dL_cell_8 : decode cL_cell 8 = .ok (.iaload, 1) := by decide +kernel
theorem dL_cell_9 : decode cL_cell 9 = .ok (.goto 11, 3) := by decide +kernel
theorem dL_cell_12 : decode cL_cell 12 = .ok (.ldc 7, 2) := by decide +kernel
theorem dL_cell_14 : decode cL_cell 14 = .ok (.iload_n 1, 1) := by decide +kernel
theorem dL_cell_15 : decode cL_cell 15 = .ok (.imul, 1) := by decide +kernel
theorem dL_cell_16 : decode cL_cell 16 = .ok (.sipush 15791, 3) := by decide +kernel
theorem dL_cell_19 : decode cL_cell 19 = .ok (.iadd, 1) := by decide +kernel
theorem dL_cell_20 : decode cL_cell 20 = .ok (.ireturn, 1) := by decide +kernel
def z_cell (f : Int → Int) (n k : Int) : Int := if k < n then f k else 2754361 * k + 15791
def J_L_cell (f : Int → Int) (n k : Int) (_ : z_St) : Option Int := z_g (0 ≤ k ∧ k ≤ 100) (some (z_cell f n k))
set_option maxRecDepth 100000 in
set_option maxHeartbeats 4000000 in
theorem c_L_cell {l : Launch} (hl : l.stackTraces = false) {a : Nat → Nat} {b n9 : Nat} {f : Int → Int} {x1 : Int} {st : z_St} {o : Int} (h : J_L_cell f (n9 : Int) x1 st = some o) : z_MS 0 0 l yL_cell (z_w yL_cell cL_cell 2 (some .int)) 8 z_T z_N a [.ref b, .int (zI x1)] b n9 f st o st := by
  refine z_ofS hl (by decide +kernel) (Nat.le_of_ble_eq_true rfl) (fun κ hc hap hX he => ?_)
  show z_V κ z_T z_N a 0 0 0 [(0, .ref b), (1, .int (zI x1))] [] st
  have hn9 := z_SXn hX
  unfold J_L_cell at h
  obtain ⟨hk, h⟩ := z_g_some h
  have h := Option.some.inj h
  unfold z_cell at h
  refine z_iload_n (i := 1) 1 hc dL_cell_0 rfl rfl ?_
  refine z_aload_n (i := 0) 0 hc dL_cell_1 rfl rfl ?_
  refine z_slen hX hc dL_cell_2 ?_
  by_cases c : x1 < (n9 : Int)
  · rw [if_pos c] at h
    refine z_icmp_ge (X := some ()) (Y := some ()) (o := ()) (tgt := 12) hc dL_cell_3 (by decide) (by rw [z_g_pos ⟨⟨by omega, by omega⟩, ⟨by omega, by omega⟩⟩]; split <;> rfl) (fun _ _ => ?_) (fun e9 _ => absurd c e9)
    refine z_aload_n (i := 0) 0 hc dL_cell_6 rfl rfl ?_
    refine z_iload_n (i := 1) 1 hc dL_cell_7 rfl rfl ?_
    refine z_sld hX hc dL_cell_8 (by omega) ?_
    refine z_goto (tgt := 20) hc dL_cell_9 (by decide) ?_
    subst h
    exact z_retUI hc he dL_cell_20
  · rw [if_neg c] at h
    refine z_icmp_ge (X := some ()) (Y := some ()) (o := ()) (tgt := 12) hc dL_cell_3 (by decide) (by rw [z_g_pos ⟨⟨by omega, by omega⟩, ⟨by omega, by omega⟩⟩]; split <;> rfl) (fun e9 _ => absurd e9 c) (fun _ _ => ?_)
    refine z_ldc 2754361 hc kc_RL_7 dL_cell_12 rfl ?_
    refine z_iload_n (i := 1) 1 hc dL_cell_14 rfl rfl ?_
    refine z_imul hc dL_cell_15 ?_
    refine z_sipush hc dL_cell_16 rfl ?_
    refine z_iadd hc dL_cell_19 ?_
    subst h
    exact z_retUI hc he dL_cell_20
