theorem dX11_sure_0 : decode cX11_sure 0 = .ok (.iload_n 3, 1) := by decide +kernel
theorem dX11_sure_1 : decode cX11_sure 1 = .ok (.aload_n 0, 1) := by decide +kernel
theorem dX11_sure_2 : decode cX11_sure 2 = .ok (.getfield 12, 3) := by decide +kernel
theorem dX11_sure_5 : decode cX11_sure 5 = .ok (.getfield 84, 3) := by decide +kernel
theorem dX11_sure_8 : decode cX11_sure 8 = .ok (.invokestatic 105, 3) := by decide +kernel
theorem dX11_sure_11 : decode cX11_sure 11 = .ok (.lload_n 1, 1) := by decide +kernel
theorem dX11_sure_12 : decode cX11_sure 12 = .ok (.lconst 0, 1) := by decide +kernel
theorem dX11_sure_13 : decode cX11_sure 13 = .ok (.invokestatic 266, 3) := by decide +kernel
theorem dX11_sure_16 : decode cX11_sure 16 = .ok (.aload_n 0, 1) := by decide +kernel
theorem dX11_sure_17 : decode cX11_sure 17 = .ok (.invokevirtual 118, 3) := by decide +kernel
theorem dX11_sure_20 : decode cX11_sure 20 = .ok (.aload_n 0, 1) := by decide +kernel
theorem dX11_sure_21 : decode cX11_sure 21 = .ok (.invokevirtual 121, 3) := by decide +kernel
theorem dX11_sure_24 : decode cX11_sure 24 = .ok (.aload_n 0, 1) := by decide +kernel
theorem dX11_sure_25 : decode cX11_sure 25 = .ok (.invokevirtual 287, 3) := by decide +kernel
theorem dX11_sure_28 : decode cX11_sure 28 = .ok (.aload_n 0, 1) := by decide +kernel
theorem dX11_sure_29 : decode cX11_sure 29 = .ok (.getfield 54, 3) := by decide +kernel
theorem dX11_sure_32 : decode cX11_sure 32 = .ok (.lload_n 1, 1) := by decide +kernel
theorem dX11_sure_33 : decode cX11_sure 33 = .ok (.iload_n 3, 1) := by decide +kernel
theorem dX11_sure_34 : decode cX11_sure 34 = .ok (.aload_n 0, 1) := by decide +kernel
theorem dX11_sure_35 : decode cX11_sure 35 = .ok (.getfield 61, 3) := by decide +kernel
theorem dX11_sure_38 : decode cX11_sure 38 = .ok (.getfield 301, 3) := by decide +kernel
theorem dX11_sure_41 : decode cX11_sure 41 = .ok (.iconst 1, 1) := by decide +kernel
theorem dX11_sure_42 : decode cX11_sure 42 = .ok (.aaload, 1) := by decide +kernel
theorem dX11_sure_43 : decode cX11_sure 43 = .ok (.iload_n 3, 1) := by decide +kernel
theorem dX11_sure_44 : decode cX11_sure 44 = .ok (.iaload, 1) := by decide +kernel
theorem dX11_sure_45 : decode cX11_sure 45 = .ok (.invokevirtual 304, 3) := by decide +kernel
theorem dX11_sure_48 : decode cX11_sure 48 = .ok (.istore 4, 2) := by decide +kernel
theorem dX11_sure_50 : decode cX11_sure 50 = .ok (.iload 4, 2) := by decide +kernel
theorem dX11_sure_52 : decode cX11_sure 52 = .ok (.aload_n 0, 1) := by decide +kernel
theorem dX11_sure_53 : decode cX11_sure 53 = .ok (.getfield 54, 3) := by decide +kernel
theorem dX11_sure_56 : decode cX11_sure 56 = .ok (.lload_n 1, 1) := by decide +kernel
theorem dX11_sure_57 : decode cX11_sure 57 = .ok (.iload_n 3, 1) := by decide +kernel
theorem dX11_sure_58 : decode cX11_sure 58 = .ok (.iconst (-1), 1) := by decide +kernel
theorem dX11_sure_59 : decode cX11_sure 59 = .ok (.invokevirtual 304, 3) := by decide +kernel
theorem dX11_sure_62 : decode cX11_sure 62 = .ok (.invokestatic 308, 3) := by decide +kernel
theorem dX11_sure_65 : decode cX11_sure 65 = .ok (.ireturn, 1) := by decide +kernel
def J_X11_sure (x1 x3 : Int) (st : z_St) : Option (z_R (Int × z_St)) :=
  z_x (J_X11_checkIndex x3 (st 1 2) st) fun _ =>
    z_x (J_X11_checkAtLeast x1 0 st) fun _ =>
      z_x (J_X11_checkBest st) fun st6 =>
        z_b (J_X11_readyTrack st6) fun st8 =>
        z_b (J_X11_readyLattice st8) fun st10 =>
        z_g (0 ≤ 1 ∧ 1 < 6) <|
        z_g (0 ≤ x3 ∧ x3 < 16) <|
        z_b (J_X3_countAround x1 x3 (st10 (150 + 1) x3) st10) fun r13 =>
        z_b (J_X3_countAround x1 x3 (-1) st10) fun r15 =>
        z_b (J_X11_partBits r13 r15 st10) fun r17 =>
        some (.inl (r17, st10))
set_option maxRecDepth 100000 in
set_option maxHeartbeats 4000000 in
theorem w_X11_sure {κ : zK} {a : Nat → Nat} {x1 x3 : Int} {st : z_St} {o : z_R (Int × z_St)} (hc : z_C κ RX11 cX11_sure 5 14 (z_mc o) (z_ms o)) (hap : z_AP κ a z_N) (he : z_EX 0 κ (some .int) z_T z_N a o) (h : J_X11_sure x1 x3 st = some o) : z_V κ z_T z_N a 0 0 0 [(0, .ref (a 0)), (1, .long (zJ x1)), (3, .int (zI x3))] [] st := by
  unfold J_X11_sure at h
  refine z_iload_n (i := 3) 2 hc dX11_sure_0 rfl rfl ?_
  refine z_aload_n (i := 0) 0 hc dX11_sure_1 rfl rfl ?_
  refine z_getA (k' := 1) hc fl_RX11_12 tT_0 (by decide) rfl rfl dX11_sure_2 ?_
  refine z_getI (kI := 1) (jI := 2) hc fl_RX11_84 tT_1 (by decide) rfl rfl rfl dX11_sure_5 ?_
  rcases z_x_cases h with ⟨u9, hr1, h⟩ | ⟨q9, hr1, h⟩
  · refine z_xcallSV [.int (zI x3), .int (zI (st 1 2))] hc hap o_X11_checkIndex ml_RX11_105 (fun l hl => c_X11_checkIndex_r hl  hr1) (by decide) rfl rfl (Nat.le_of_ble_eq_true rfl) (Nat.zero_le _) (Nat.zero_le _) dX11_sure_8 ?_
    refine z_lload_n (i := 1) 1 hc dX11_sure_11 rfl rfl ?_
    refine z_lconst 0 hc dX11_sure_12 rfl ?_
    rcases z_x_cases h with ⟨u9, hr3, h⟩ | ⟨q9, hr3, h⟩
    · refine z_xcallSV [.long (zJ x1), .long (zJ 0)] hc hap o_X11_checkAtLeast ml_RX11_266 (fun l hl => c_X11_checkAtLeast_r hl  hr3) (by decide) rfl rfl (Nat.le_of_ble_eq_true rfl) (Nat.zero_le _) (Nat.zero_le _) dX11_sure_13 ?_
      refine z_aload_n (i := 0) 0 hc dX11_sure_16 rfl rfl ?_
      rcases z_x_cases h with ⟨st6, hr5, h⟩ | ⟨q9, hr5, h⟩
      · refine z_xcallVV [] hc hap o_X11_checkBest ml_RX11_118 (fun l hl => c_X11_checkBest_r hl  hr5) (by decide) tT_0 (by decide) ⟨_, rfl, rfl⟩ rfl rfl (Nat.le_of_ble_eq_true rfl) (Nat.zero_le _) (Nat.zero_le _) dX11_sure_17 ?_
        refine z_aload_n (i := 0) 0 hc dX11_sure_20 rfl rfl ?_
        obtain ⟨st8, hr7, h⟩ := z_b_some h
        refine z_callVV [] hc hap o_X11_readyTrack ml_RX11_121 (fun l hl => c_X11_readyTrack hl  hr7) (by decide) tT_0 (by decide) ⟨_, rfl, rfl⟩ rfl rfl (Nat.le_of_ble_eq_true rfl) (Nat.zero_le _) (Nat.zero_le _) dX11_sure_21 ?_
        refine z_aload_n (i := 0) 0 hc dX11_sure_24 rfl rfl ?_
        obtain ⟨st10, hr9, h⟩ := z_b_some h
        refine z_callVV [] hc hap o_X11_readyLattice ml_RX11_287 (fun l hl => c_X11_readyLattice hl  hr9) (by decide) tT_0 (by decide) ⟨_, rfl, rfl⟩ rfl rfl (Nat.le_of_ble_eq_true rfl) (Nat.zero_le _) (Nat.zero_le _) dX11_sure_25 ?_
        refine z_aload_n (i := 0) 0 hc dX11_sure_28 rfl rfl ?_
        refine z_getA (k' := 144) hc fl_RX11_54 tT_0 (by decide) rfl rfl dX11_sure_29 ?_
        refine z_lload_n (i := 1) 1 hc dX11_sure_32 rfl rfl ?_
        refine z_iload_n (i := 3) 2 hc dX11_sure_33 rfl rfl ?_
        refine z_aload_n (i := 0) 0 hc dX11_sure_34 rfl rfl ?_
        refine z_getA (k' := 148) hc fl_RX11_61 tT_0 (by decide) rfl rfl dX11_sure_35 ?_
        refine z_getA (k' := 149) hc fl_RX11_301 tT_148 (by decide) rfl rfl dX11_sure_38 ?_
        refine z_iconst hc dX11_sure_41 ?_
        refine z_aald (r := 150 + 1) (nI9 := 6) hc tT_149 (by decide) (by decide) rfl (by decide) (fun j9 hj9 => by omega) dX11_sure_42 h (fun g11 h => ?_)
        refine z_iload_n (i := 3) 2 hc dX11_sure_43 rfl rfl ?_
        refine z_iald (kI := 150 + 1) (nI9 := 16) hc (z_row_149 g11).2.2 (z_row_149 g11).2.1 (Int.toNat_of_nonneg (z_row_149 g11).1) rfl (by decide) dX11_sure_44 h (fun g12 h => ?_)
        obtain ⟨r13, hr13, h⟩ := z_b_some h
        refine z_callVI [.long (zJ x1), .int (zI x3), .int (zI (st10 (150 + 1) x3))] hc hap o_X3_countAround ml_RX11_304 (fun l hl => c_X3_countAround hl  hr13) (by decide) tT_144 (by decide) ⟨_, rfl, rfl⟩ rfl rfl (Nat.le_of_ble_eq_true rfl) (Nat.zero_le _) (Nat.zero_le _) dX11_sure_45 ?_
        refine z_istore [(4, .int (zI r13)), (0, .ref (a 0)), (1, .long (zJ x1)), (3, .int (zI x3))] hc dX11_sure_48 (by decide) rfl ?_
        refine z_iload 0 hc dX11_sure_50 rfl ?_
        refine z_aload_n (i := 0) 1 hc dX11_sure_52 rfl rfl ?_
        refine z_getA (k' := 144) hc fl_RX11_54 tT_0 (by decide) rfl rfl dX11_sure_53 ?_
        refine z_lload_n (i := 1) 2 hc dX11_sure_56 rfl rfl ?_
        refine z_iload_n (i := 3) 3 hc dX11_sure_57 rfl rfl ?_
        refine z_iconst hc dX11_sure_58 ?_
        obtain ⟨r15, hr15, h⟩ := z_b_some h
        refine z_callVI [.long (zJ x1), .int (zI x3), .int (zI (-1))] hc hap o_X3_countAround ml_RX11_304 (fun l hl => c_X3_countAround hl  hr15) (by decide) tT_144 (by decide) ⟨_, rfl, rfl⟩ rfl rfl (Nat.le_of_ble_eq_true rfl) (Nat.zero_le _) (Nat.zero_le _) dX11_sure_59 ?_
        obtain ⟨r17, hr17, h⟩ := z_b_some h
        refine z_callSI [.int (zI r13), .int (zI r15)] hc hap o_X11_partBits ml_RX11_308 (fun l hl => c_X11_partBits hl  hr17) (by decide) rfl rfl (Nat.le_of_ble_eq_true rfl) (Nat.zero_le _) (Nat.zero_le _) dX11_sure_62 ?_
        have h := Option.some.inj h
        subst h
        exact z_retXI hc he rfl dX11_sure_65
      · obtain ⟨e9, st9⟩ := q9
        subst h
        refine z_xthrV (kd := 2) [] hc hap o_X11_checkBest ml_RX11_118 (fun l hl => c_X11_checkBest_t hl  hr5) (by decide) tT_0 (by decide) ⟨_, rfl, rfl⟩ rfl rfl (Nat.le_of_ble_eq_true rfl) (Nat.le_refl 1) (Nat.le_refl 6) dX11_sure_17 (z_outX hc he rfl)
    · obtain ⟨e9, st9⟩ := q9
      subst h
      refine z_xthrS (kd := 2) [.long (zJ x1), .long (zJ 0)] hc hap o_X11_checkAtLeast ml_RX11_266 (fun l hl => c_X11_checkAtLeast_t hl  hr3) (by decide) rfl rfl (Nat.le_of_ble_eq_true rfl) (Nat.le_refl 1) (Nat.le_refl 6) dX11_sure_13 (z_outX hc he rfl)
  · obtain ⟨e9, st9⟩ := q9
    subst h
    refine z_xthrS (kd := 2) [.int (zI x3), .int (zI (st 1 2))] hc hap o_X11_checkIndex ml_RX11_105 (fun l hl => c_X11_checkIndex_t hl  hr1) (by decide) rfl rfl (Nat.le_of_ble_eq_true rfl) (Nat.le_refl 1) (Nat.le_refl 6) dX11_sure_8 (z_outX hc he rfl)
set_option maxRecDepth 100000 in
set_option maxHeartbeats 4000000 in
theorem c_X11_sure {l : Launch} (hl : l.stackTraces = false) {a : Nat → Nat} {x1 x3 : Int} {st : z_St} {o : z_R (Int × z_St)} (h : J_X11_sure x1 x3 st = some o) : z_MX 0 l yX11_sure cX11_sure 5 (some .int) 14 z_T z_N a [.ref (a 0), .long (zJ x1), .int (zI x3)] st o := z_ofX hl (by decide +kernel) (Nat.le_of_ble_eq_true rfl) (fun κ hc hap he => w_X11_sure hc hap he h)
theorem c_X11_sure_r {l : Launch} (hl : l.stackTraces = false) {a : Nat → Nat} {x1 x3 : Int} {st : z_St} {v9 : Int × z_St} (h : J_X11_sure x1 x3 st = some (.inl v9)) : z_MX 0 l yX11_sure cX11_sure 5 (some .int) 14 z_T z_N a [.ref (a 0), .long (zJ x1), .int (zI x3)] st (.inl v9) := by
  have h9 := c_X11_sure (a := a) (o := .inl v9) hl h
  exact h9
theorem c_X11_sure_t {l : Launch} (hl : l.stackTraces = false) {a : Nat → Nat} {x1 x3 : Int} {st : z_St} {e9 : Nat} {st9 : z_St} (h : J_X11_sure x1 x3 st = some (.inr (e9, st9))) : z_MX 0 l yX11_sure cX11_sure 5 (some .int) 14 z_T z_N a [.ref (a 0), .long (zJ x1), .int (zI x3)] st (.inr (e9, st9)) := by
  have h9 := c_X11_sure (a := a) (o := .inr (e9, st9)) hl h
  exact h9
theorem dX11_path_0 : decode cX11_path 0 = .ok (.iload_n 1, 1) := by decide +kernel
theorem dX11_path_1 : decode cX11_path 1 = .ok (.aload_n 0, 1) := by decide +kernel
theorem dX11_path_2 : decode cX11_path 2 = .ok (.getfield 12, 3) := by decide +kernel
theorem dX11_path_5 : decode cX11_path 5 = .ok (.getfield 84, 3) := by decide +kernel
theorem dX11_path_8 : decode cX11_path 8 = .ok (.invokestatic 105, 3) := by decide +kernel
theorem dX11_path_11 : decode cX11_path 11 = .ok (.iload_n 2, 1) := by decide +kernel
theorem dX11_path_12 : decode cX11_path 12 = .ok (.iconst 0, 1) := by decide +kernel
theorem dX11_path_13 : decode cX11_path 13 = .ok (.iconst 5, 1) := by decide +kernel
theorem dX11_path_14 : decode cX11_path 14 = .ok (.invokestatic 112, 3) := by decide +kernel
theorem dX11_path_17 : decode cX11_path 17 = .ok (.aload_n 0, 1) := by decide +kernel
theorem dX11_path_18 : decode cX11_path 18 = .ok (.invokevirtual 118, 3) := by decide +kernel
theorem dX11_path_21 : decode cX11_path 21 = .ok (.aload_n 0, 1) := by decide +kernel
theorem dX11_path_22 : decode cX11_path 22 = .ok (.invokevirtual 121, 3) := by decide +kernel
theorem dX11_path_25 : decode cX11_path 25 = .ok (.aload_n 0, 1) := by decide +kernel
theorem dX11_path_26 : decode cX11_path 26 = .ok (.getfield 61, 3) := by decide +kernel
theorem dX11_path_29 : decode cX11_path 29 = .ok (.getfield 301, 3) := by decide +kernel
theorem dX11_path_32 : decode cX11_path 32 = .ok (.iload_n 2, 1) := by decide +kernel
theorem dX11_path_33 : decode cX11_path 33 = .ok (.aaload, 1) := by decide +kernel
theorem dX11_path_34 : decode cX11_path 34 = .ok (.iload_n 1, 1) := by decide +kernel
theorem dX11_path_35 : decode cX11_path 35 = .ok (.iaload, 1) := by decide +kernel
theorem dX11_path_36 : decode cX11_path 36 = .ok (.ireturn, 1) := by decide +kernel
def J_X11_path (x1 x2 : Int) (st : z_St) : Option (z_R (Int × z_St)) :=
  z_x (J_X11_checkIndex x1 (st 1 2) st) fun _ =>
    z_x (J_X11_checkRange x2 0 5 st) fun _ =>
      z_x (J_X11_checkBest st) fun st6 =>
        z_b (J_X11_readyTrack st6) fun st8 =>
        z_g (0 ≤ x2 ∧ x2 < 6) <|
        z_g (0 ≤ x1 ∧ x1 < 16) <|
        some (.inl (st8 (150 + x2) x1, st8))
set_option maxRecDepth 100000 in
set_option maxHeartbeats 4000000 in
theorem w_X11_path {κ : zK} {a : Nat → Nat} {x1 x2 : Int} {st : z_St} {o : z_R (Int × z_St)} (hc : z_C κ RX11 cX11_path 3 14 (z_mc o) (z_ms o)) (hap : z_AP κ a z_N) (he : z_EX 0 κ (some .int) z_T z_N a o) (h : J_X11_path x1 x2 st = some o) : z_V κ z_T z_N a 0 0 0 [(0, .ref (a 0)), (1, .int (zI x1)), (2, .int (zI x2))] [] st := by
  unfold J_X11_path at h
  refine z_iload_n (i := 1) 1 hc dX11_path_0 rfl rfl ?_
  refine z_aload_n (i := 0) 0 hc dX11_path_1 rfl rfl ?_
  refine z_getA (k' := 1) hc fl_RX11_12 tT_0 (by decide) rfl rfl dX11_path_2 ?_
  refine z_getI (kI := 1) (jI := 2) hc fl_RX11_84 tT_1 (by decide) rfl rfl rfl dX11_path_5 ?_
  rcases z_x_cases h with ⟨u9, hr1, h⟩ | ⟨q9, hr1, h⟩
  · refine z_xcallSV [.int (zI x1), .int (zI (st 1 2))] hc hap o_X11_checkIndex ml_RX11_105 (fun l hl => c_X11_checkIndex_r hl  hr1) (by decide) rfl rfl (Nat.le_of_ble_eq_true rfl) (Nat.zero_le _) (Nat.zero_le _) dX11_path_8 ?_
    refine z_iload_n (i := 2) 2 hc dX11_path_11 rfl rfl ?_
    refine z_iconst hc dX11_path_12 ?_
    refine z_iconst hc dX11_path_13 ?_
    rcases z_x_cases h with ⟨u9, hr3, h⟩ | ⟨q9, hr3, h⟩
    · refine z_xcallSV [.int (zI x2), .int (zI 0), .int (zI 5)] hc hap o_X11_checkRange ml_RX11_112 (fun l hl => c_X11_checkRange_r hl  hr3) (by decide) rfl rfl (Nat.le_of_ble_eq_true rfl) (Nat.zero_le _) (Nat.zero_le _) dX11_path_14 ?_
      refine z_aload_n (i := 0) 0 hc dX11_path_17 rfl rfl ?_
      rcases z_x_cases h with ⟨st6, hr5, h⟩ | ⟨q9, hr5, h⟩
      · refine z_xcallVV [] hc hap o_X11_checkBest ml_RX11_118 (fun l hl => c_X11_checkBest_r hl  hr5) (by decide) tT_0 (by decide) ⟨_, rfl, rfl⟩ rfl rfl (Nat.le_of_ble_eq_true rfl) (Nat.zero_le _) (Nat.zero_le _) dX11_path_18 ?_
        refine z_aload_n (i := 0) 0 hc dX11_path_21 rfl rfl ?_
        obtain ⟨st8, hr7, h⟩ := z_b_some h
        refine z_callVV [] hc hap o_X11_readyTrack ml_RX11_121 (fun l hl => c_X11_readyTrack hl  hr7) (by decide) tT_0 (by decide) ⟨_, rfl, rfl⟩ rfl rfl (Nat.le_of_ble_eq_true rfl) (Nat.zero_le _) (Nat.zero_le _) dX11_path_22 ?_
        refine z_aload_n (i := 0) 0 hc dX11_path_25 rfl rfl ?_
        refine z_getA (k' := 148) hc fl_RX11_61 tT_0 (by decide) rfl rfl dX11_path_26 ?_
        refine z_getA (k' := 149) hc fl_RX11_301 tT_148 (by decide) rfl rfl dX11_path_29 ?_
        refine z_iload_n (i := 2) 2 hc dX11_path_32 rfl rfl ?_
        refine z_aald (r := 150 + x2) (nI9 := 6) hc tT_149 (by decide) (by decide) rfl (by decide) (fun j9 hj9 => by omega) dX11_path_33 h (fun g9 h => ?_)
        refine z_iload_n (i := 1) 1 hc dX11_path_34 rfl rfl ?_
        refine z_iald (kI := 150 + x2) (nI9 := 16) hc (z_row_149 g9).2.2 (z_row_149 g9).2.1 (Int.toNat_of_nonneg (z_row_149 g9).1) rfl (by decide) dX11_path_35 h (fun g10 h => ?_)
        have h := Option.some.inj h
        subst h
        exact z_retXI hc he rfl dX11_path_36
      · obtain ⟨e9, st9⟩ := q9
        subst h
        refine z_xthrV (kd := 2) [] hc hap o_X11_checkBest ml_RX11_118 (fun l hl => c_X11_checkBest_t hl  hr5) (by decide) tT_0 (by decide) ⟨_, rfl, rfl⟩ rfl rfl (Nat.le_of_ble_eq_true rfl) (Nat.le_refl 1) (Nat.le_refl 6) dX11_path_18 (z_outX hc he rfl)
    · obtain ⟨e9, st9⟩ := q9
      subst h
      refine z_xthrS (kd := 2) [.int (zI x2), .int (zI 0), .int (zI 5)] hc hap o_X11_checkRange ml_RX11_112 (fun l hl => c_X11_checkRange_t hl  hr3) (by decide) rfl rfl (Nat.le_of_ble_eq_true rfl) (Nat.le_refl 1) (Nat.le_refl 6) dX11_path_14 (z_outX hc he rfl)
  · obtain ⟨e9, st9⟩ := q9
    subst h
    refine z_xthrS (kd := 2) [.int (zI x1), .int (zI (st 1 2))] hc hap o_X11_checkIndex ml_RX11_105 (fun l hl => c_X11_checkIndex_t hl  hr1) (by decide) rfl rfl (Nat.le_of_ble_eq_true rfl) (Nat.le_refl 1) (Nat.le_refl 6) dX11_path_8 (z_outX hc he rfl)
set_option maxRecDepth 100000 in
set_option maxHeartbeats 4000000 in
theorem c_X11_path {l : Launch} (hl : l.stackTraces = false) {a : Nat → Nat} {x1 x2 : Int} {st : z_St} {o : z_R (Int × z_St)} (h : J_X11_path x1 x2 st = some o) : z_MX 0 l yX11_path cX11_path 3 (some .int) 14 z_T z_N a [.ref (a 0), .int (zI x1), .int (zI x2)] st o := z_ofX hl (by decide +kernel) (Nat.le_of_ble_eq_true rfl) (fun κ hc hap he => w_X11_path hc hap he h)
theorem c_X11_path_r {l : Launch} (hl : l.stackTraces = false) {a : Nat → Nat} {x1 x2 : Int} {st : z_St} {v9 : Int × z_St} (h : J_X11_path x1 x2 st = some (.inl v9)) : z_MX 0 l yX11_path cX11_path 3 (some .int) 14 z_T z_N a [.ref (a 0), .int (zI x1), .int (zI x2)] st (.inl v9) := by
  have h9 := c_X11_path (a := a) (o := .inl v9) hl h
  exact h9
theorem c_X11_path_t {l : Launch} (hl : l.stackTraces = false) {a : Nat → Nat} {x1 x2 : Int} {st : z_St} {e9 : Nat} {st9 : z_St} (h : J_X11_path x1 x2 st = some (.inr (e9, st9))) : z_MX 0 l yX11_path cX11_path 3 (some .int) 14 z_T z_N a [.ref (a 0), .int (zI x1), .int (zI x2)] st (.inr (e9, st9)) := by
  have h9 := c_X11_path (a := a) (o := .inr (e9, st9)) hl h
  exact h9
theorem dX11_changesHere_0 : decode cX11_changesHere 0 = .ok (.aload_n 1, 1) := by decide +kernel
theorem dX11_changesHere_1 : decode cX11_changesHere 1 = .ok (.iload_n 3, 1) := by decide +kernel
theorem dX11_changesHere_2 : decode cX11_changesHere 2 = .ok (.iconst 1, 1) := by decide +kernel
theorem dX11_changesHere_3 : decode cX11_changesHere 3 = .ok (.isub, 1) := by decide +kernel
theorem dX11_changesHere_4 : decode cX11_changesHere 4 = .ok (.invokevirtual 235, 3) := by decide +kernel
theorem dX11_changesHere_7 : decode cX11_changesHere 7 = .ok (.aload_n 2, 1) := by decide +kernel
theorem dX11_changesHere_8 : decode cX11_changesHere 8 = .ok (.iload 4, 2) := by decide +kernel
theorem dX11_changesHere_10 : decode cX11_changesHere 10 = .ok (.iconst 1, 1) := by decide +kernel
theorem dX11_changesHere_11 : decode cX11_changesHere 11 = .ok (.isub, 1) := by decide +kernel
theorem dX11_changesHere_12 : decode cX11_changesHere 12 = .ok (.invokevirtual 235, 3) := by decide +kernel
theorem dX11_changesHere_15 : decode cX11_changesHere 15 = .ok (.if_icmp .ne 7, 3) := by decide +kernel
theorem dX11_changesHere_18 : decode cX11_changesHere 18 = .ok (.iconst 0, 1) := by decide +kernel
theorem dX11_changesHere_19 : decode cX11_changesHere 19 = .ok (.goto 4, 3) := by decide +kernel
theorem dX11_changesHere_22 : decode cX11_changesHere 22 = .ok (.iconst 1, 1) := by decide +kernel
theorem dX11_changesHere_23 : decode cX11_changesHere 23 = .ok (.istore 5, 2) := by decide +kernel
theorem dX11_changesHere_25 : decode cX11_changesHere 25 = .ok (.iconst 1, 1) := by decide +kernel
theorem dX11_changesHere_26 : decode cX11_changesHere 26 = .ok (.aload_n 0, 1) := by decide +kernel
theorem dX11_changesHere_27 : decode cX11_changesHere 27 = .ok (.getfield 77, 3) := by decide +kernel
theorem dX11_changesHere_30 : decode cX11_changesHere 30 = .ok (.iload_n 3, 1) := by decide +kernel
theorem dX11_changesHere_31 : decode cX11_changesHere 31 = .ok (.iconst 1, 1) := by decide +kernel
theorem dX11_changesHere_32 : decode cX11_changesHere 32 = .ok (.isub, 1) := by decide +kernel
theorem dX11_changesHere_33 : decode cX11_changesHere 33 = .ok (.aaload, 1) := by decide +kernel
theorem dX11_changesHere_34 : decode cX11_changesHere 34 = .ok (.iload 4, 2) := by decide +kernel
theorem dX11_changesHere_36 : decode cX11_changesHere 36 = .ok (.iaload, 1) := by decide +kernel
theorem dX11_changesHere_37 : decode cX11_changesHere 37 = .ok (.aload_n 0, 1) := by decide +kernel
theorem dX11_changesHere_38 : decode cX11_changesHere 38 = .ok (.getfield 77, 3) := by decide +kernel
theorem dX11_changesHere_41 : decode cX11_changesHere 41 = .ok (.iload_n 3, 1) := by decide +kernel
theorem dX11_changesHere_42 : decode cX11_changesHere 42 = .ok (.aaload, 1) := by decide +kernel
theorem dX11_changesHere_43 : decode cX11_changesHere 43 = .ok (.iload 4, 2) := by decide +kernel
theorem dX11_changesHere_45 : decode cX11_changesHere 45 = .ok (.iconst 1, 1) := by decide +kernel
theorem dX11_changesHere_46 : decode cX11_changesHere 46 = .ok (.isub, 1) := by decide +kernel
theorem dX11_changesHere_47 : decode cX11_changesHere 47 = .ok (.iaload, 1) := by decide +kernel
theorem dX11_changesHere_48 : decode cX11_changesHere 48 = .ok (.invokestatic 389, 3) := by decide +kernel
theorem dX11_changesHere_51 : decode cX11_changesHere 51 = .ok (.iadd, 1) := by decide +kernel
theorem dX11_changesHere_52 : decode cX11_changesHere 52 = .ok (.istore 6, 2) := by decide +kernel
theorem dX11_changesHere_54 : decode cX11_changesHere 54 = .ok (.iload 6, 2) := by decide +kernel
theorem dX11_changesHere_56 : decode cX11_changesHere 56 = .ok (.aload_n 0, 1) := by decide +kernel
theorem dX11_changesHere_57 : decode cX11_changesHere 57 = .ok (.getfield 77, 3) := by decide +kernel
theorem dX11_changesHere_60 : decode cX11_changesHere 60 = .ok (.iload_n 3, 1) := by decide +kernel
theorem dX11_changesHere_61 : decode cX11_changesHere 61 = .ok (.iconst 1, 1) := by decide +kernel
theorem dX11_changesHere_62 : decode cX11_changesHere 62 = .ok (.isub, 1) := by decide +kernel
theorem dX11_changesHere_63 : decode cX11_changesHere 63 = .ok (.aaload, 1) := by decide +kernel
theorem dX11_changesHere_64 : decode cX11_changesHere 64 = .ok (.iload 4, 2) := by decide +kernel
theorem dX11_changesHere_66 : decode cX11_changesHere 66 = .ok (.iconst 1, 1) := by decide +kernel
theorem dX11_changesHere_67 : decode cX11_changesHere 67 = .ok (.isub, 1) := by decide +kernel
theorem dX11_changesHere_68 : decode cX11_changesHere 68 = .ok (.iaload, 1) := by decide +kernel
theorem dX11_changesHere_69 : decode cX11_changesHere 69 = .ok (.iload 5, 2) := by decide +kernel
theorem dX11_changesHere_71 : decode cX11_changesHere 71 = .ok (.iadd, 1) := by decide +kernel
theorem dX11_changesHere_72 : decode cX11_changesHere 72 = .ok (.invokestatic 389, 3) := by decide +kernel
theorem dX11_changesHere_75 : decode cX11_changesHere 75 = .ok (.ireturn, 1) := by decide +kernel
def J_X11_changesHere_23 (v3 v4 s0 : Int) (st : z_St) : Option (Int) :=
  z_g (0 ≤ v3 - 1 ∧ v3 - 1 < 5) <|
  z_g (0 ≤ v4 ∧ v4 < 5) <|
  z_g (0 ≤ v3 ∧ v3 < 5) <|
  z_g (0 ≤ v4 - 1 ∧ v4 - 1 < 5) <|
  z_g (z32 (st (163 + (v3 - 1)) v4) ∧ z32 (st (163 + v3) (v4 - 1))) <|
  z_g (0 ≤ v3 - 1 ∧ v3 - 1 < 5) <|
  z_g (0 ≤ v4 - 1 ∧ v4 - 1 < 5) <|
  z_g (z32 (1 + (min (st (163 + (v3 - 1)) v4) (st (163 + v3) (v4 - 1)))) ∧ z32 ((st (163 + (v3 - 1)) (v4 - 1)) + s0)) <|
  some (min (1 + (min (st (163 + (v3 - 1)) v4) (st (163 + v3) (v4 - 1)))) ((st (163 + (v3 - 1)) (v4 - 1)) + s0))
set_option maxRecDepth 100000 in
set_option maxHeartbeats 4000000 in
theorem w_X11_changesHere_23 {κ : zK} {a : Nat → Nat} {v3 v4 s0 : Int} {st : z_St} {o : Int} (hc : z_C κ RX11 cX11_changesHere 7 9 0 0) (hap : z_AP κ a z_N) (he : z_E 0 κ (some .int) z_T z_N a o st) (h : J_X11_changesHere_23 v3 v4 s0 st = some o) : z_V κ z_T z_N a 0 0 23 [(0, .ref (a 0)), (3, .int (zI v3)), (4, .int (zI v4))] [.int (zI s0)] st := by
  unfold J_X11_changesHere_23 at h
  refine z_istore [(5, .int (zI s0)), (0, .ref (a 0)), (3, .int (zI v3)), (4, .int (zI v4))] hc dX11_changesHere_23 (by decide) rfl ?_
  refine z_iconst hc dX11_changesHere_25 ?_
  refine z_aload_n (i := 0) 1 hc dX11_changesHere_26 rfl rfl ?_
  refine z_getA (k' := 162) hc fl_RX11_77 tT_0 (by decide) rfl rfl dX11_changesHere_27 ?_
  refine z_iload_n (i := 3) 2 hc dX11_changesHere_30 rfl rfl ?_
  refine z_iconst hc dX11_changesHere_31 ?_
  refine z_isub hc dX11_changesHere_32 ?_
  refine z_aald (r := 163 + (v3 - 1)) (nI9 := 5) hc tT_162 (by decide) (by decide) rfl (by decide) (fun j9 hj9 => by omega) dX11_changesHere_33 h (fun g5 h => ?_)
  refine z_iload 3 hc dX11_changesHere_34 rfl ?_
  refine z_iald (kI := 163 + (v3 - 1)) (nI9 := 5) hc (z_row_162 g5).2.2 (z_row_162 g5).2.1 (Int.toNat_of_nonneg (z_row_162 g5).1) rfl (by decide) dX11_changesHere_36 h (fun g6 h => ?_)
  refine z_aload_n (i := 0) 1 hc dX11_changesHere_37 rfl rfl ?_
  refine z_getA (k' := 162) hc fl_RX11_77 tT_0 (by decide) rfl rfl dX11_changesHere_38 ?_
  refine z_iload_n (i := 3) 2 hc dX11_changesHere_41 rfl rfl ?_
  refine z_aald (r := 163 + v3) (nI9 := 5) hc tT_162 (by decide) (by decide) rfl (by decide) (fun j9 hj9 => by omega) dX11_changesHere_42 h (fun g7 h => ?_)
  refine z_iload 3 hc dX11_changesHere_43 rfl ?_
  refine z_iconst hc dX11_changesHere_45 ?_
  refine z_isub hc dX11_changesHere_46 ?_
  refine z_iald (kI := 163 + v3) (nI9 := 5) hc (z_row_162 g7).2.2 (z_row_162 g7).2.1 (Int.toNat_of_nonneg (z_row_162 g7).1) rfl (by decide) dX11_changesHere_47 h (fun g8 h => ?_)
  refine z_minI hc ml_RX11_389 h ⟨rfl, rfl, Nat.le_of_ble_eq_true rfl, by omega⟩ dX11_changesHere_48 (fun h => ?_)
  refine z_iadd hc dX11_changesHere_51 ?_
  refine z_istore [(6, .int (zI (1 + (min (st (163 + (v3 - 1)) v4) (st (163 + v3) (v4 - 1)))))), (5, .int (zI s0)), (0, .ref (a 0)), (3, .int (zI v3)), (4, .int (zI v4))] hc dX11_changesHere_52 (by decide) rfl ?_
  refine z_iload 0 hc dX11_changesHere_54 rfl ?_
  refine z_aload_n (i := 0) 2 hc dX11_changesHere_56 rfl rfl ?_
  refine z_getA (k' := 162) hc fl_RX11_77 tT_0 (by decide) rfl rfl dX11_changesHere_57 ?_
  refine z_iload_n (i := 3) 3 hc dX11_changesHere_60 rfl rfl ?_
  refine z_iconst hc dX11_changesHere_61 ?_
  refine z_isub hc dX11_changesHere_62 ?_
  refine z_aald (r := 163 + (v3 - 1)) (nI9 := 5) hc tT_162 (by decide) (by decide) rfl (by decide) (fun j9 hj9 => by omega) dX11_changesHere_63 h (fun g9 h => ?_)
  refine z_iload 4 hc dX11_changesHere_64 rfl ?_
  refine z_iconst hc dX11_changesHere_66 ?_
  refine z_isub hc dX11_changesHere_67 ?_
  refine z_iald (kI := 163 + (v3 - 1)) (nI9 := 5) hc (z_row_162 g9).2.2 (z_row_162 g9).2.1 (Int.toNat_of_nonneg (z_row_162 g9).1) rfl (by decide) dX11_changesHere_68 h (fun g10 h => ?_)
  refine z_iload 1 hc dX11_changesHere_69 rfl ?_
  refine z_iadd hc dX11_changesHere_71 ?_
  refine z_minI hc ml_RX11_389 h ⟨rfl, rfl, Nat.le_of_ble_eq_true rfl, by omega⟩ dX11_changesHere_72 (fun h => ?_)
  have h := Option.some.inj h
  subst h
  exact z_retI hc he dX11_changesHere_75
def J_X11_changesHere (x1 x2 x3 x4 : Int) (st : z_St) : Option (Int) :=
  z_b (J_X6_wordAt x1 (x3 - 1) st) fun r1 =>
  z_b (J_X6_wordAt x2 (x4 - 1) st) fun r3 =>
  z_g (z32 r1 ∧ z32 r3) (if r1 = r3 then
    J_X11_changesHere_23 x3 x4 0 st
  else
    J_X11_changesHere_23 x3 x4 1 st)
set_option maxRecDepth 100000 in
set_option maxHeartbeats 4000000 in
theorem w_X11_changesHere {κ : zK} {a : Nat → Nat} {x1 x2 x3 x4 : Int} {st : z_St} {o : Int} (hc : z_C κ RX11 cX11_changesHere 7 9 0 0) (hap : z_AP κ a z_N) (hx1 : z_isRW x1) (hx2 : z_isRW x2) (he : z_E 0 κ (some .int) z_T z_N a o st) (h : J_X11_changesHere x1 x2 x3 x4 st = some o) : z_V κ z_T z_N a 0 0 0 [(0, .ref (a 0)), (1, .ref (a x1.toNat)), (2, .ref (a x2.toNat)), (3, .int (zI x3)), (4, .int (zI x4))] [] st := by
  unfold J_X11_changesHere at h
  refine z_aload_n (i := 1) 1 hc dX11_changesHere_0 rfl rfl ?_
  refine z_iload_n (i := 3) 3 hc dX11_changesHere_1 rfl rfl ?_
  refine z_iconst hc dX11_changesHere_2 ?_
  refine z_isub hc dX11_changesHere_3 ?_
  obtain ⟨r1, hr1, h⟩ := z_b_some h
  refine z_callVI [.int (zI (x3 - 1))] hc hap o_X6_wordAt ml_RX11_235 (fun l hl => c_X6_wordAt hl hx1 hr1) (by decide) (z_RW_T hx1) (z_RW_lt hx1) ⟨_, rfl, rfl⟩ rfl rfl (Nat.le_of_ble_eq_true rfl) (Nat.zero_le _) (Nat.zero_le _) dX11_changesHere_4 ?_
  refine z_aload_n (i := 2) 2 hc dX11_changesHere_7 rfl rfl ?_
  refine z_iload 4 hc dX11_changesHere_8 rfl ?_
  refine z_iconst hc dX11_changesHere_10 ?_
  refine z_isub hc dX11_changesHere_11 ?_
  obtain ⟨r3, hr3, h⟩ := z_b_some h
  refine z_callVI [.int (zI (x4 - 1))] hc hap o_X6_wordAt ml_RX11_235 (fun l hl => c_X6_wordAt hl hx2 hr3) (by decide) (z_RW_T hx2) (z_RW_lt hx2) ⟨_, rfl, rfl⟩ rfl rfl (Nat.le_of_ble_eq_true rfl) (Nat.zero_le _) (Nat.zero_le _) dX11_changesHere_12 ?_
  refine z_icmp_ne (tgt := 22) hc dX11_changesHere_15 (by decide) h (fun c15 h => ?_) (fun c15 h => ?_)
  · refine z_iconst hc dX11_changesHere_18 ?_
    refine z_goto (tgt := 23) hc dX11_changesHere_19 (by decide) ?_
    refine z_sub [(0, .ref (a 0)), (3, .int (zI x3)), (4, .int (zI x4))] [0, 3, 4] rfl ?_
    exact w_X11_changesHere_23 hc hap he h
  · refine z_iconst hc dX11_changesHere_22 ?_
    refine z_sub [(0, .ref (a 0)), (3, .int (zI x3)), (4, .int (zI x4))] [0, 3, 4] rfl ?_
    exact w_X11_changesHere_23 hc hap he h
set_option maxRecDepth 100000 in
set_option maxHeartbeats 4000000 in
theorem c_X11_changesHere {l : Launch} (hl : l.stackTraces = false) {a : Nat → Nat} {x1 x2 x3 x4 : Int} {st : z_St} {o : Int} (hx1 : z_isRW x1) (hx2 : z_isRW x2) (h : J_X11_changesHere x1 x2 x3 x4 st = some o) : z_M 0 l yX11_changesHere cX11_changesHere 7 (some .int) 9 z_T z_N a [.ref (a 0), .ref (a x1.toNat), .ref (a x2.toNat), .int (zI x3), .int (zI x4)] st o st := z_of hl (by decide +kernel) (Nat.le_of_ble_eq_true rfl) (fun κ hc hap he => w_X11_changesHere hc hap hx1 hx2 he h)
theorem dX11_fewestChanges_0 : decode cX11_fewestChanges 0 = .ok (.iconst 0, 1) := by decide +kernel
theorem dX11_fewestChanges_1 : decode cX11_fewestChanges 1 = .ok (.istore_n 3, 1) := by decide +kernel
theorem dX11_fewestChanges_2 : decode cX11_fewestChanges 2 = .ok (.iload_n 3, 1) := by decide +kernel
theorem dX11_fewestChanges_3 : decode cX11_fewestChanges 3 = .ok (.aload_n 1, 1) := by decide +kernel
theorem dX11_fewestChanges_4 : decode cX11_fewestChanges 4 = .ok (.getfield 234, 3) := by decide +kernel
theorem dX11_fewestChanges_7 : decode cX11_fewestChanges 7 = .ok (.if_icmp .gt 61, 3) := by decide +kernel
theorem dX11_fewestChanges_10 : decode cX11_fewestChanges 10 = .ok (.iconst 0, 1) := by decide +kernel
theorem dX11_fewestChanges_11 : decode cX11_fewestChanges 11 = .ok (.istore 4, 2) := by decide +kernel
theorem dX11_fewestChanges_13 : decode cX11_fewestChanges 13 = .ok (.iload 4, 2) := by decide +kernel
theorem dX11_fewestChanges_15 : decode cX11_fewestChanges 15 = .ok (.aload_n 2, 1) := by decide +kernel
theorem dX11_fewestChanges_16 : decode cX11_fewestChanges 16 = .ok (.getfield 234, 3) := by decide +kernel
theorem dX11_fewestChanges_19 : decode cX11_fewestChanges 19 = .ok (.if_icmp .gt 43, 3) := by decide +kernel
theorem dX11_fewestChanges_22 : decode cX11_fewestChanges 22 = .ok (.aload_n 0, 1) := by decide +kernel
theorem dX11_fewestChanges_23 : decode cX11_fewestChanges 23 = .ok (.getfield 77, 3) := by decide +kernel
theorem dX11_fewestChanges_26 : decode cX11_fewestChanges 26 = .ok (.iload_n 3, 1) := by decide +kernel
theorem dX11_fewestChanges_27 : decode cX11_fewestChanges 27 = .ok (.aaload, 1) := by decide +kernel
theorem dX11_fewestChanges_28 : decode cX11_fewestChanges 28 = .ok (.iload 4, 2) := by decide +kernel
theorem dX11_fewestChanges_30 : decode cX11_fewestChanges 30 = .ok (.iload_n 3, 1) := by decide +kernel
theorem dX11_fewestChanges_31 : decode cX11_fewestChanges 31 = .ok (.ifCond .eq 8, 3) := by decide +kernel
theorem dX11_fewestChanges_34 : decode cX11_fewestChanges 34 = .ok (.iload 4, 2) := by decide +kernel
theorem dX11_fewestChanges_36 : decode cX11_fewestChanges 36 = .ok (.ifCond .ne 10, 3) := by decide +kernel
theorem dX11_fewestChanges_39 : decode cX11_fewestChanges 39 = .ok (.iload_n 3, 1) := by decide +kernel
theorem dX11_fewestChanges_40 : decode cX11_fewestChanges 40 = .ok (.iload 4, 2) := by decide +kernel
theorem dX11_fewestChanges_42 : decode cX11_fewestChanges 42 = .ok (.iadd, 1) := by decide +kernel
theorem dX11_fewestChanges_43 : decode cX11_fewestChanges 43 = .ok (.goto 12, 3) := by decide +kernel
theorem dX11_fewestChanges_46 : decode cX11_fewestChanges 46 = .ok (.aload_n 0, 1) := by decide +kernel
theorem dX11_fewestChanges_47 : decode cX11_fewestChanges 47 = .ok (.aload_n 1, 1) := by decide +kernel
theorem dX11_fewestChanges_48 : decode cX11_fewestChanges 48 = .ok (.aload_n 2, 1) := by decide +kernel
theorem dX11_fewestChanges_49 : decode cX11_fewestChanges 49 = .ok (.iload_n 3, 1) := by decide +kernel
theorem dX11_fewestChanges_50 : decode cX11_fewestChanges 50 = .ok (.iload 4, 2) := by decide +kernel
theorem dX11_fewestChanges_52 : decode cX11_fewestChanges 52 = .ok (.invokevirtual 385, 3) := by decide +kernel
theorem dX11_fewestChanges_55 : decode cX11_fewestChanges 55 = .ok (.iastore, 1) := by decide +kernel
theorem dX11_fewestChanges_56 : decode cX11_fewestChanges 56 = .ok (.iinc 4 1, 3) := by decide +kernel
theorem dX11_fewestChanges_59 : decode cX11_fewestChanges 59 = .ok (.goto (-46), 3) := by decide +kernel
theorem dX11_fewestChanges_62 : decode cX11_fewestChanges 62 = .ok (.iinc 3 1, 3) := by decide +kernel
theorem dX11_fewestChanges_65 : decode cX11_fewestChanges 65 = .ok (.goto (-63), 3) := by decide +kernel
theorem dX11_fewestChanges_68 : decode cX11_fewestChanges 68 = .ok (.aload_n 0, 1) := by decide +kernel
theorem dX11_fewestChanges_69 : decode cX11_fewestChanges 69 = .ok (.getfield 77, 3) := by decide +kernel
theorem dX11_fewestChanges_72 : decode cX11_fewestChanges 72 = .ok (.aload_n 1, 1) := by decide +kernel
theorem dX11_fewestChanges_73 : decode cX11_fewestChanges 73 = .ok (.getfield 234, 3) := by decide +kernel
theorem dX11_fewestChanges_76 : decode cX11_fewestChanges 76 = .ok (.aaload, 1) := by decide +kernel
theorem dX11_fewestChanges_77 : decode cX11_fewestChanges 77 = .ok (.aload_n 2, 1) := by decide +kernel
theorem dX11_fewestChanges_78 : decode cX11_fewestChanges 78 = .ok (.getfield 234, 3) := by decide +kernel
theorem dX11_fewestChanges_81 : decode cX11_fewestChanges 81 = .ok (.iaload, 1) := by decide +kernel
theorem dX11_fewestChanges_82 : decode cX11_fewestChanges 82 = .ok (.ireturn, 1) := by decide +kernel
def J_X11_fewestChanges_55 (v1 v2 v3 v4 s0 s1 s2 : Int) (st : z_St) : Option ((Int × z_St) ⊕ z_St) :=
  z_g (0 ≤ s1 ∧ s1 < 5) <|
  z_let (z_up st s2 s1 s0) fun st2 =>
  some (.inl (v4 + 1, st2))
set_option maxRecDepth 100000 in
set_option maxHeartbeats 4000000 in
theorem w_X11_fewestChanges_55 {κ : zK} {a : Nat → Nat} {v1 v2 v3 v4 s0 s1 s2 : Int} {st : z_St} {mc9 ms9 : Nat} {o : (Int × z_St) ⊕ z_St} (hc : z_C κ RX11 cX11_fewestChanges 5 10 mc9 ms9) (hap : z_AP κ a z_N) (hv1 : z_isRW v1) (hv2 : z_isRW v2) (hs2 : z_isArr s2 0 0 5) (k1 : ∀ s9 : (Int × z_St), o = .inl s9 → z_V κ z_T z_N a 0 0 13 [(0, .ref (a 0)), (1, .ref (a v1.toNat)), (2, .ref (a v2.toNat)), (3, .int (zI v3)), (4, .int (zI s9.1))] [] s9.2) (k2 : ∀ x9 : z_St, o = .inr x9 → z_V κ z_T z_N a 0 0 62 [(0, .ref (a 0)), (1, .ref (a v1.toNat)), (2, .ref (a v2.toNat)), (3, .int (zI v3))] [] x9) (h : J_X11_fewestChanges_55 v1 v2 v3 v4 s0 s1 s2 st = some o) : z_V κ z_T z_N a 0 0 55 [(0, .ref (a 0)), (1, .ref (a v1.toNat)), (2, .ref (a v2.toNat)), (3, .int (zI v3)), (4, .int (zI v4))] [.int (zI s0), .int (zI s1), .ref (a s2.toNat)] st := by
  unfold J_X11_fewestChanges_55 at h
  refine z_iast (kI := s2) (nI9 := 5) hc hap hs2.2.2 hs2.2.1 (Int.toNat_of_nonneg hs2.1) rfl (by decide) dX11_fewestChanges_55 h (fun st2 h => ?_)
  refine z_iinc [(4, .int (zI (v4 + 1))), (0, .ref (a 0)), (1, .ref (a v1.toNat)), (2, .ref (a v2.toNat)), (3, .int (zI v3))] 4 hc dX11_fewestChanges_56 rfl (by decide) rfl ?_
  refine z_goto (tgt := 13) hc dX11_fewestChanges_59 (by decide) ?_
  refine z_sub [(0, .ref (a 0)), (1, .ref (a v1.toNat)), (2, .ref (a v2.toNat)), (3, .int (zI v3)), (4, .int (zI (v4 + 1)))] [1, 2, 3, 4, 0] rfl ?_
  exact k1 _ (Option.some.inj h).symm
def J_X11_fewestChanges_39 (v1 v2 v3 v4 s0 s1 : Int) (st : z_St) : Option ((Int × z_St) ⊕ z_St) :=
  J_X11_fewestChanges_55 v1 v2 v3 v4 (v3 + v4) s0 s1 st
set_option maxRecDepth 100000 in
set_option maxHeartbeats 4000000 in
theorem w_X11_fewestChanges_39 {κ : zK} {a : Nat → Nat} {v1 v2 v3 v4 s0 s1 : Int} {st : z_St} {mc9 ms9 : Nat} {o : (Int × z_St) ⊕ z_St} (hc : z_C κ RX11 cX11_fewestChanges 5 10 mc9 ms9) (hap : z_AP κ a z_N) (hv1 : z_isRW v1) (hv2 : z_isRW v2) (hs1 : z_isArr s1 0 0 5) (k1 : ∀ s9 : (Int × z_St), o = .inl s9 → z_V κ z_T z_N a 0 0 13 [(0, .ref (a 0)), (1, .ref (a v1.toNat)), (2, .ref (a v2.toNat)), (3, .int (zI v3)), (4, .int (zI s9.1))] [] s9.2) (k2 : ∀ x9 : z_St, o = .inr x9 → z_V κ z_T z_N a 0 0 62 [(0, .ref (a 0)), (1, .ref (a v1.toNat)), (2, .ref (a v2.toNat)), (3, .int (zI v3))] [] x9) (h : J_X11_fewestChanges_39 v1 v2 v3 v4 s0 s1 st = some o) : z_V κ z_T z_N a 0 0 39 [(0, .ref (a 0)), (1, .ref (a v1.toNat)), (2, .ref (a v2.toNat)), (3, .int (zI v3)), (4, .int (zI v4))] [.int (zI s0), .ref (a s1.toNat)] st := by
  unfold J_X11_fewestChanges_39 at h
  refine z_iload_n (i := 3) 3 hc dX11_fewestChanges_39 rfl rfl ?_
  refine z_iload 4 hc dX11_fewestChanges_40 rfl ?_
  refine z_iadd hc dX11_fewestChanges_42 ?_
  refine z_goto (tgt := 55) hc dX11_fewestChanges_43 (by decide) ?_
  refine z_sub [(0, .ref (a 0)), (1, .ref (a v1.toNat)), (2, .ref (a v2.toNat)), (3, .int (zI v3)), (4, .int (zI v4))] [0, 1, 2, 3, 4] rfl ?_
  exact w_X11_fewestChanges_55 hc hap hv1 hv2 hs1 k1 k2 h
def J_X11_fewestChanges_b13 (v1 v2 v3 v4 : Int) (st : z_St) : Option ((Int × z_St) ⊕ z_St) :=
  z_g (z32 v4 ∧ z32 (st v2 1)) (if st v2 1 < v4 then
    some (.inr st)
  else
    z_g (0 ≤ v3 ∧ v3 < 5) <|
    z_g (z32 v3) (if v3 = 0 then
      J_X11_fewestChanges_39 v1 v2 v3 v4 v4 (163 + v3) st
    else
      z_g (z32 v4) (if v4 = 0 then
        J_X11_fewestChanges_39 v1 v2 v3 v4 v4 (163 + v3) st
      else
        z_b (J_X11_changesHere v1 v2 v3 v4 st) fun r3 =>
        J_X11_fewestChanges_55 v1 v2 v3 v4 r3 v4 (163 + v3) st)))
set_option maxRecDepth 100000 in
set_option maxHeartbeats 4000000 in
theorem w_X11_fewestChanges_b13 {κ : zK} {a : Nat → Nat} {v1 v2 v3 v4 : Int} {st : z_St} {mc9 ms9 : Nat} {o : (Int × z_St) ⊕ z_St} (hc : z_C κ RX11 cX11_fewestChanges 5 10 mc9 ms9) (hap : z_AP κ a z_N) (hv1 : z_isRW v1) (hv2 : z_isRW v2) (k1 : ∀ s9 : (Int × z_St), o = .inl s9 → z_V κ z_T z_N a 0 0 13 [(0, .ref (a 0)), (1, .ref (a v1.toNat)), (2, .ref (a v2.toNat)), (3, .int (zI v3)), (4, .int (zI s9.1))] [] s9.2) (k2 : ∀ x9 : z_St, o = .inr x9 → z_V κ z_T z_N a 0 0 62 [(0, .ref (a 0)), (1, .ref (a v1.toNat)), (2, .ref (a v2.toNat)), (3, .int (zI v3))] [] x9) (h : J_X11_fewestChanges_b13 v1 v2 v3 v4 st = some o) : z_V κ z_T z_N a 0 0 13 [(0, .ref (a 0)), (1, .ref (a v1.toNat)), (2, .ref (a v2.toNat)), (3, .int (zI v3)), (4, .int (zI v4))] [] st := by
  unfold J_X11_fewestChanges_b13 at h
  refine z_iload 4 hc dX11_fewestChanges_13 rfl ?_
  refine z_aload_n (i := 2) 2 hc dX11_fewestChanges_15 rfl rfl ?_
  refine z_getI (kI := v2) (jI := 1) hc fl_RX11_234 (z_RW_T hv2) (z_RW_lt hv2) (z_RW_c hv2) rfl rfl dX11_fewestChanges_16 ?_
  refine z_icmp_gt (tgt := 62) hc dX11_fewestChanges_19 (by decide) h (fun c19 h => ?_) (fun c19 h => ?_)
  · refine z_sub [(0, .ref (a 0)), (1, .ref (a v1.toNat)), (2, .ref (a v2.toNat)), (3, .int (zI v3))] [0, 1, 2, 3] rfl ?_
    exact k2 st (Option.some.inj h).symm
  · refine z_aload_n (i := 0) 0 hc dX11_fewestChanges_22 rfl rfl ?_
    refine z_getA (k' := 162) hc fl_RX11_77 tT_0 (by decide) rfl rfl dX11_fewestChanges_23 ?_
    refine z_iload_n (i := 3) 3 hc dX11_fewestChanges_26 rfl rfl ?_
    refine z_aald (r := 163 + v3) (nI9 := 5) hc tT_162 (by decide) (by decide) rfl (by decide) (fun j9 hj9 => by omega) dX11_fewestChanges_27 h (fun g1 h => ?_)
    refine z_iload 4 hc dX11_fewestChanges_28 rfl ?_
    refine z_iload_n (i := 3) 3 hc dX11_fewestChanges_30 rfl rfl ?_
    refine z_if_eq (tgt := 39) hc dX11_fewestChanges_31 (by decide) h (fun c31 h => ?_) (fun c31 h => ?_)
    · refine z_sub [(0, .ref (a 0)), (1, .ref (a v1.toNat)), (2, .ref (a v2.toNat)), (3, .int (zI v3)), (4, .int (zI v4))] [0, 1, 2, 3, 4] rfl ?_
      exact w_X11_fewestChanges_39 hc hap hv1 hv2 (z_row_162 g1) k1 k2 h
    · refine z_iload 4 hc dX11_fewestChanges_34 rfl ?_
      refine z_if_ne (tgt := 46) hc dX11_fewestChanges_36 (by decide) h (fun c36 h => ?_) (fun c36 h => ?_)
      · refine z_sub [(0, .ref (a 0)), (1, .ref (a v1.toNat)), (2, .ref (a v2.toNat)), (3, .int (zI v3)), (4, .int (zI v4))] [0, 1, 2, 3, 4] rfl ?_
        exact w_X11_fewestChanges_39 hc hap hv1 hv2 (z_row_162 g1) k1 k2 h
      · refine z_aload_n (i := 0) 0 hc dX11_fewestChanges_46 rfl rfl ?_
        refine z_aload_n (i := 1) 1 hc dX11_fewestChanges_47 rfl rfl ?_
        refine z_aload_n (i := 2) 2 hc dX11_fewestChanges_48 rfl rfl ?_
        refine z_iload_n (i := 3) 3 hc dX11_fewestChanges_49 rfl rfl ?_
        refine z_iload 4 hc dX11_fewestChanges_50 rfl ?_
        obtain ⟨r3, hr3, h⟩ := z_b_some h
        refine z_callVI [.ref (a v1.toNat), .ref (a v2.toNat), .int (zI v3), .int (zI v4)] hc hap o_X11_changesHere ml_RX11_385 (fun l hl => c_X11_changesHere hl hv1 hv2 hr3) (by decide) tT_0 (by decide) ⟨_, rfl, rfl⟩ rfl rfl (Nat.le_of_ble_eq_true rfl) (Nat.zero_le _) (Nat.zero_le _) dX11_fewestChanges_52 ?_
        refine z_sub [(0, .ref (a 0)), (1, .ref (a v1.toNat)), (2, .ref (a v2.toNat)), (3, .int (zI v3)), (4, .int (zI v4))] [0, 1, 2, 3, 4] rfl ?_
        exact w_X11_fewestChanges_55 hc hap hv1 hv2 (z_row_162 g1) k1 k2 h
def J_X11_fewestChanges_b2 (v1 v2 v3 : Int) (st : z_St) : Option ((Int × z_St) ⊕ z_St) :=
  z_g (z32 v3 ∧ z32 (st v1 1)) (if st v1 1 < v3 then
    some (.inr st)
  else
    z_b (z_iter z_F (fun q9 : (Int × z_St) => J_X11_fewestChanges_b13 v1 v2 v3 q9.1 q9.2) (0, st)) fun lx5 =>
      some (.inl (v3 + 1, lx5)))
set_option maxRecDepth 100000 in
set_option maxHeartbeats 4000000 in
theorem w_X11_fewestChanges_b2 {κ : zK} {a : Nat → Nat} {v1 v2 v3 : Int} {st : z_St} {mc9 ms9 : Nat} {o : (Int × z_St) ⊕ z_St} (hc : z_C κ RX11 cX11_fewestChanges 5 10 mc9 ms9) (hap : z_AP κ a z_N) (hv1 : z_isRW v1) (hv2 : z_isRW v2) (k1 : ∀ s9 : (Int × z_St), o = .inl s9 → z_V κ z_T z_N a 0 0 2 [(0, .ref (a 0)), (1, .ref (a v1.toNat)), (2, .ref (a v2.toNat)), (3, .int (zI s9.1))] [] s9.2) (k2 : ∀ x9 : z_St, o = .inr x9 → z_V κ z_T z_N a 0 0 68 [(0, .ref (a 0)), (1, .ref (a v1.toNat)), (2, .ref (a v2.toNat))] [] x9) (h : J_X11_fewestChanges_b2 v1 v2 v3 st = some o) : z_V κ z_T z_N a 0 0 2 [(0, .ref (a 0)), (1, .ref (a v1.toNat)), (2, .ref (a v2.toNat)), (3, .int (zI v3))] [] st := by
  unfold J_X11_fewestChanges_b2 at h
  refine z_iload_n (i := 3) 3 hc dX11_fewestChanges_2 rfl rfl ?_
  refine z_aload_n (i := 1) 1 hc dX11_fewestChanges_3 rfl rfl ?_
  refine z_getI (kI := v1) (jI := 1) hc fl_RX11_234 (z_RW_T hv1) (z_RW_lt hv1) (z_RW_c hv1) rfl rfl dX11_fewestChanges_4 ?_
  refine z_icmp_gt (tgt := 68) hc dX11_fewestChanges_7 (by decide) h (fun c7 h => ?_) (fun c7 h => ?_)
  · refine z_sub [(0, .ref (a 0)), (1, .ref (a v1.toNat)), (2, .ref (a v2.toNat))] [0, 1, 2] rfl ?_
    exact k2 st (Option.some.inj h).symm
  · refine z_iconst hc dX11_fewestChanges_10 ?_
    refine z_istore [(4, .int (zI 0)), (0, .ref (a 0)), (1, .ref (a v1.toNat)), (2, .ref (a v2.toNat)), (3, .int (zI v3))] hc dX11_fewestChanges_11 (by decide) rfl ?_
    obtain ⟨lx5, hlx5, h⟩ := z_b_some h
    refine z_sub [(0, .ref (a 0)), (1, .ref (a v1.toNat)), (2, .ref (a v2.toNat)), (3, .int (zI v3)), (4, .int (zI 0))] [1, 2, 3, 4, 0] rfl ?_
    refine z_loop (fun q9 : (Int × z_St) => J_X11_fewestChanges_b13 v1 v2 v3 q9.1 q9.2) (fun q9 : (Int × z_St) => z_V κ z_T z_N a 0 0 13 [(0, .ref (a 0)), (1, .ref (a v1.toNat)), (2, .ref (a v2.toNat)), (3, .int (zI v3)), (4, .int (zI q9.1))] [] q9.2) (fun x9 : z_St => z_V κ z_T z_N a 0 0 62 [(0, .ref (a 0)), (1, .ref (a v1.toNat)), (2, .ref (a v2.toNat)), (3, .int (zI v3))] [] x9) (fun q9 o9 hb k1 k2 => ?_) _ _ _ hlx5 ?_
    · exact w_X11_fewestChanges_b13 hc hap hv1 hv2 k1 k2 hb
    · show z_V κ z_T z_N a 0 0 62 [(0, .ref (a 0)), (1, .ref (a v1.toNat)), (2, .ref (a v2.toNat)), (3, .int (zI v3))] [] lx5
      refine z_iinc [(3, .int (zI (v3 + 1))), (0, .ref (a 0)), (1, .ref (a v1.toNat)), (2, .ref (a v2.toNat))] 3 hc dX11_fewestChanges_62 rfl (by decide) rfl ?_
      refine z_goto (tgt := 2) hc dX11_fewestChanges_65 (by decide) ?_
      refine z_sub [(0, .ref (a 0)), (1, .ref (a v1.toNat)), (2, .ref (a v2.toNat)), (3, .int (zI (v3 + 1)))] [1, 2, 3, 0] rfl ?_
      exact k1 _ (Option.some.inj h).symm
def J_X11_fewestChanges (x1 x2 : Int) (st : z_St) : Option (Int × z_St) :=
  z_b (z_iter z_F (fun q9 : (Int × z_St) => J_X11_fewestChanges_b2 x1 x2 q9.1 q9.2) (0, st)) fun lx6 =>
    z_g (0 ≤ lx6 x1 1 ∧ lx6 x1 1 < 5) <|
    z_g (0 ≤ lx6 x2 1 ∧ lx6 x2 1 < 5) <|
    some (lx6 (163 + (lx6 x1 1)) (lx6 x2 1), lx6)
set_option maxRecDepth 100000 in
set_option maxHeartbeats 4000000 in
theorem w_X11_fewestChanges {κ : zK} {a : Nat → Nat} {x1 x2 : Int} {st : z_St} {o : Int × z_St} (hc : z_C κ RX11 cX11_fewestChanges 5 10 0 0) (hap : z_AP κ a z_N) (hx1 : z_isRW x1) (hx2 : z_isRW x2) (he : z_E 0 κ (some .int) z_T z_N a o.1 o.2) (h : J_X11_fewestChanges x1 x2 st = some o) : z_V κ z_T z_N a 0 0 0 [(0, .ref (a 0)), (1, .ref (a x1.toNat)), (2, .ref (a x2.toNat))] [] st := by
  unfold J_X11_fewestChanges at h
  refine z_iconst hc dX11_fewestChanges_0 ?_
  refine z_istore_n (i := 3) [(3, .int (zI 0)), (0, .ref (a 0)), (1, .ref (a x1.toNat)), (2, .ref (a x2.toNat))] hc dX11_fewestChanges_1 rfl (by decide) rfl ?_
  obtain ⟨lx6, hlx6, h⟩ := z_b_some h
  refine z_sub [(0, .ref (a 0)), (1, .ref (a x1.toNat)), (2, .ref (a x2.toNat)), (3, .int (zI 0))] [1, 2, 3, 0] rfl ?_
  refine z_loop (fun q9 : (Int × z_St) => J_X11_fewestChanges_b2 x1 x2 q9.1 q9.2) (fun q9 : (Int × z_St) => z_V κ z_T z_N a 0 0 2 [(0, .ref (a 0)), (1, .ref (a x1.toNat)), (2, .ref (a x2.toNat)), (3, .int (zI q9.1))] [] q9.2) (fun x9 : z_St => z_V κ z_T z_N a 0 0 68 [(0, .ref (a 0)), (1, .ref (a x1.toNat)), (2, .ref (a x2.toNat))] [] x9) (fun q9 o9 hb k1 k2 => ?_) _ _ _ hlx6 ?_
  · exact w_X11_fewestChanges_b2 hc hap hx1 hx2 k1 k2 hb
  · show z_V κ z_T z_N a 0 0 68 [(0, .ref (a 0)), (1, .ref (a x1.toNat)), (2, .ref (a x2.toNat))] [] lx6
    refine z_aload_n (i := 0) 0 hc dX11_fewestChanges_68 rfl rfl ?_
    refine z_getA (k' := 162) hc fl_RX11_77 tT_0 (by decide) rfl rfl dX11_fewestChanges_69 ?_
    refine z_aload_n (i := 1) 1 hc dX11_fewestChanges_72 rfl rfl ?_
    refine z_getI (kI := x1) (jI := 1) hc fl_RX11_234 (z_RW_T hx1) (z_RW_lt hx1) (z_RW_c hx1) rfl rfl dX11_fewestChanges_73 ?_
    refine z_aald (r := 163 + (lx6 x1 1)) (nI9 := 5) hc tT_162 (by decide) (by decide) rfl (by decide) (fun j9 hj9 => by omega) dX11_fewestChanges_76 h (fun g7 h => ?_)
    refine z_aload_n (i := 2) 2 hc dX11_fewestChanges_77 rfl rfl ?_
    refine z_getI (kI := x2) (jI := 1) hc fl_RX11_234 (z_RW_T hx2) (z_RW_lt hx2) (z_RW_c hx2) rfl rfl dX11_fewestChanges_78 ?_
    refine z_iald (kI := 163 + (lx6 x1 1)) (nI9 := 5) hc (z_row_162 g7).2.2 (z_row_162 g7).2.1 (Int.toNat_of_nonneg (z_row_162 g7).1) rfl (by decide) dX11_fewestChanges_81 h (fun g8 h => ?_)
    have h := Option.some.inj h
    subst h
    exact z_retI hc he dX11_fewestChanges_82
set_option maxRecDepth 100000 in
set_option maxHeartbeats 4000000 in
theorem c_X11_fewestChanges {l : Launch} (hl : l.stackTraces = false) {a : Nat → Nat} {x1 x2 : Int} {st : z_St} {o : Int × z_St} (hx1 : z_isRW x1) (hx2 : z_isRW x2) (h : J_X11_fewestChanges x1 x2 st = some o) : z_M 0 l yX11_fewestChanges cX11_fewestChanges 5 (some .int) 10 z_T z_N a [.ref (a 0), .ref (a x1.toNat), .ref (a x2.toNat)] st o.1 o.2 := z_of hl (by decide +kernel) (Nat.le_of_ble_eq_true rfl) (fun κ hc hap he => w_X11_fewestChanges hc hap hx1 hx2 he h)
theorem dX11_errors_0 : decode cX11_errors 0 = .ok (.aload_n 0, 1) := by decide +kernel
theorem dX11_errors_1 : decode cX11_errors 1 = .ok (.iload_n 1, 1) := by decide +kernel
theorem dX11_errors_2 : decode cX11_errors 2 = .ok (.invokevirtual 227, 3) := by decide +kernel
theorem dX11_errors_5 : decode cX11_errors 5 = .ok (.aload_n 0, 1) := by decide +kernel
theorem dX11_errors_6 : decode cX11_errors 6 = .ok (.invokevirtual 118, 3) := by decide +kernel
theorem dX11_errors_9 : decode cX11_errors 9 = .ok (.aload_n 0, 1) := by decide +kernel
theorem dX11_errors_10 : decode cX11_errors 10 = .ok (.getfield 72, 3) := by decide +kernel
theorem dX11_errors_13 : decode cX11_errors 13 = .ok (.aload_n 0, 1) := by decide +kernel
theorem dX11_errors_14 : decode cX11_errors 14 = .ok (.getfield 40, 3) := by decide +kernel
theorem dX11_errors_17 : decode cX11_errors 17 = .ok (.iconst 0, 1) := by decide +kernel
theorem dX11_errors_18 : decode cX11_errors 18 = .ok (.invokevirtual 270, 3) := by decide +kernel
theorem dX11_errors_21 : decode cX11_errors 21 = .ok (.invokevirtual 231, 3) := by decide +kernel
theorem dX11_errors_24 : decode cX11_errors 24 = .ok (.aload_n 0, 1) := by decide +kernel
theorem dX11_errors_25 : decode cX11_errors 25 = .ok (.getfield 68, 3) := by decide +kernel
theorem dX11_errors_28 : decode cX11_errors 28 = .ok (.iload_n 1, 1) := by decide +kernel
theorem dX11_errors_29 : decode cX11_errors 29 = .ok (.invokevirtual 231, 3) := by decide +kernel
theorem dX11_errors_32 : decode cX11_errors 32 = .ok (.aload_n 0, 1) := by decide +kernel
theorem dX11_errors_33 : decode cX11_errors 33 = .ok (.aload_n 0, 1) := by decide +kernel
theorem dX11_errors_34 : decode cX11_errors 34 = .ok (.getfield 72, 3) := by decide +kernel
theorem dX11_errors_37 : decode cX11_errors 37 = .ok (.aload_n 0, 1) := by decide +kernel
theorem dX11_errors_38 : decode cX11_errors 38 = .ok (.getfield 68, 3) := by decide +kernel
theorem dX11_errors_41 : decode cX11_errors 41 = .ok (.invokevirtual 312, 3) := by decide +kernel
theorem dX11_errors_44 : decode cX11_errors 44 = .ok (.ireturn, 1) := by decide +kernel
def J_X11_errors (x1 : Int) (st : z_St) : Option (z_R (Int × z_St)) :=
  z_x (J_X11_checkRow x1 st) fun _ =>
    z_x (J_X11_checkBest st) fun st4 =>
      z_b (J_X5_numberAt 0 st4) fun r5 =>
      z_b (J_X6_read 160 r5.1 r5.2) fun st8 =>
      z_b (J_X6_read 158 x1 st8) fun st10 =>
      z_b (J_X11_fewestChanges 160 158 st10) fun r11 =>
      some (.inl (r11.1, r11.2))
set_option maxRecDepth 100000 in
set_option maxHeartbeats 4000000 in
theorem w_X11_errors {κ : zK} {a : Nat → Nat} {x1 : Int} {st : z_St} {o : z_R (Int × z_St)} (hc : z_C κ RX11 cX11_errors 2 14 (z_mc o) (z_ms o)) (hap : z_AP κ a z_N) (he : z_EX 0 κ (some .int) z_T z_N a o) (h : J_X11_errors x1 st = some o) : z_V κ z_T z_N a 0 0 0 [(0, .ref (a 0)), (1, .int (zI x1))] [] st := by
  unfold J_X11_errors at h
  refine z_aload_n (i := 0) 0 hc dX11_errors_0 rfl rfl ?_
  refine z_iload_n (i := 1) 1 hc dX11_errors_1 rfl rfl ?_
  rcases z_x_cases h with ⟨u9, hr1, h⟩ | ⟨q9, hr1, h⟩
  · refine z_xcallVV [.int (zI x1)] hc hap o_X11_checkRow ml_RX11_227 (fun l hl => c_X11_checkRow_r hl  hr1) (by decide) tT_0 (by decide) ⟨_, rfl, rfl⟩ rfl rfl (Nat.le_of_ble_eq_true rfl) (Nat.zero_le _) (Nat.zero_le _) dX11_errors_2 ?_
    refine z_aload_n (i := 0) 0 hc dX11_errors_5 rfl rfl ?_
    rcases z_x_cases h with ⟨st4, hr3, h⟩ | ⟨q9, hr3, h⟩
    · refine z_xcallVV [] hc hap o_X11_checkBest ml_RX11_118 (fun l hl => c_X11_checkBest_r hl  hr3) (by decide) tT_0 (by decide) ⟨_, rfl, rfl⟩ rfl rfl (Nat.le_of_ble_eq_true rfl) (Nat.zero_le _) (Nat.zero_le _) dX11_errors_6 ?_
      refine z_aload_n (i := 0) 0 hc dX11_errors_9 rfl rfl ?_
      refine z_getA (k' := 160) hc fl_RX11_72 tT_0 (by decide) rfl rfl dX11_errors_10 ?_
      refine z_aload_n (i := 0) 0 hc dX11_errors_13 rfl rfl ?_
      refine z_getA (k' := 134) hc fl_RX11_40 tT_0 (by decide) rfl rfl dX11_errors_14 ?_
      refine z_iconst hc dX11_errors_17 ?_
      obtain ⟨r5, hr5, h⟩ := z_b_some h
      refine z_callVI [.int (zI 0)] hc hap o_X5_numberAt ml_RX11_270 (fun l hl => c_X5_numberAt hl  hr5) (by decide) tT_134 (by decide) ⟨_, rfl, rfl⟩ rfl rfl (Nat.le_of_ble_eq_true rfl) (Nat.zero_le _) (Nat.zero_le _) dX11_errors_18 ?_
      obtain ⟨st8, hr7, h⟩ := z_b_some h
      refine z_callVV [.int (zI r5.1)] hc hap o_X6_read ml_RX11_231 (fun l hl => c_X6_read hl (by decide) hr7) (by decide) tT_160 (by decide) ⟨_, rfl, rfl⟩ rfl rfl (Nat.le_of_ble_eq_true rfl) (Nat.zero_le _) (Nat.zero_le _) dX11_errors_21 ?_
      refine z_aload_n (i := 0) 0 hc dX11_errors_24 rfl rfl ?_
      refine z_getA (k' := 158) hc fl_RX11_68 tT_0 (by decide) rfl rfl dX11_errors_25 ?_
      refine z_iload_n (i := 1) 1 hc dX11_errors_28 rfl rfl ?_
      obtain ⟨st10, hr9, h⟩ := z_b_some h
      refine z_callVV [.int (zI x1)] hc hap o_X6_read ml_RX11_231 (fun l hl => c_X6_read hl (by decide) hr9) (by decide) tT_158 (by decide) ⟨_, rfl, rfl⟩ rfl rfl (Nat.le_of_ble_eq_true rfl) (Nat.zero_le _) (Nat.zero_le _) dX11_errors_29 ?_
      refine z_aload_n (i := 0) 0 hc dX11_errors_32 rfl rfl ?_
      refine z_aload_n (i := 0) 0 hc dX11_errors_33 rfl rfl ?_
      refine z_getA (k' := 160) hc fl_RX11_72 tT_0 (by decide) rfl rfl dX11_errors_34 ?_
      refine z_aload_n (i := 0) 0 hc dX11_errors_37 rfl rfl ?_
      refine z_getA (k' := 158) hc fl_RX11_68 tT_0 (by decide) rfl rfl dX11_errors_38 ?_
      obtain ⟨r11, hr11, h⟩ := z_b_some h
      refine z_callVI [.ref (a 160), .ref (a 158)] hc hap o_X11_fewestChanges ml_RX11_312 (fun l hl => c_X11_fewestChanges hl (by decide) (by decide) hr11) (by decide) tT_0 (by decide) ⟨_, rfl, rfl⟩ rfl rfl (Nat.le_of_ble_eq_true rfl) (Nat.zero_le _) (Nat.zero_le _) dX11_errors_41 ?_
      have h := Option.some.inj h
      subst h
      exact z_retXI hc he rfl dX11_errors_44
    · obtain ⟨e9, st9⟩ := q9
      subst h
      refine z_xthrV (kd := 2) [] hc hap o_X11_checkBest ml_RX11_118 (fun l hl => c_X11_checkBest_t hl  hr3) (by decide) tT_0 (by decide) ⟨_, rfl, rfl⟩ rfl rfl (Nat.le_of_ble_eq_true rfl) (Nat.le_refl 1) (Nat.le_refl 6) dX11_errors_6 (z_outX hc he rfl)
  · obtain ⟨e9, st9⟩ := q9
    subst h
    refine z_xthrV (kd := 2) [.int (zI x1)] hc hap o_X11_checkRow ml_RX11_227 (fun l hl => c_X11_checkRow_t hl  hr1) (by decide) tT_0 (by decide) ⟨_, rfl, rfl⟩ rfl rfl (Nat.le_of_ble_eq_true rfl) (Nat.le_refl 1) (Nat.le_refl 6) dX11_errors_2 (z_outX hc he rfl)
set_option maxRecDepth 100000 in
set_option maxHeartbeats 4000000 in
theorem c_X11_errors {l : Launch} (hl : l.stackTraces = false) {a : Nat → Nat} {x1 : Int} {st : z_St} {o : z_R (Int × z_St)} (h : J_X11_errors x1 st = some o) : z_MX 0 l yX11_errors cX11_errors 2 (some .int) 14 z_T z_N a [.ref (a 0), .int (zI x1)] st o := z_ofX hl (by decide +kernel) (Nat.le_of_ble_eq_true rfl) (fun κ hc hap he => w_X11_errors hc hap he h)
theorem c_X11_errors_r {l : Launch} (hl : l.stackTraces = false) {a : Nat → Nat} {x1 : Int} {st : z_St} {v9 : Int × z_St} (h : J_X11_errors x1 st = some (.inl v9)) : z_MX 0 l yX11_errors cX11_errors 2 (some .int) 14 z_T z_N a [.ref (a 0), .int (zI x1)] st (.inl v9) := by
  have h9 := c_X11_errors (a := a) (o := .inl v9) hl h
  exact h9
theorem c_X11_errors_t {l : Launch} (hl : l.stackTraces = false) {a : Nat → Nat} {x1 : Int} {st : z_St} {e9 : Nat} {st9 : z_St} (h : J_X11_errors x1 st = some (.inr (e9, st9))) : z_MX 0 l yX11_errors cX11_errors 2 (some .int) 14 z_T z_N a [.ref (a 0), .int (zI x1)] st (.inr (e9, st9)) := by
  have h9 := c_X11_errors (a := a) (o := .inr (e9, st9)) hl h
  exact h9
theorem dX11_sum_0 : decode cX11_sum 0 = .ok (.iload_n 1, 1) := by decide +kernel
theorem dX11_sum_1 : decode cX11_sum 1 = .ok (.iconst 0, 1) := by decide +kernel
theorem dX11_sum_2 : decode cX11_sum 2 = .ok (.bipush 8, 2) := by decide +kernel
theorem dX11_sum_4 : decode cX11_sum 4 = .ok (.invokestatic 112, 3) := by decide +kernel
theorem dX11_sum_7 : decode cX11_sum 7 = .ok (.iload_n 1, 1) := by decide +kernel
theorem dX11_sum_8 : decode cX11_sum 8 = .ok (.tableswitch 112 0 7 #[48, 56, 64, 72, 80, 88, 96, 104], 48) := by decide +kernel
theorem dX11_sum_56 : decode cX11_sum 56 = .ok (.aload_n 0, 1) := by decide +kernel
theorem dX11_sum_57 : decode cX11_sum 57 = .ok (.getfield 12, 3) := by decide +kernel
theorem dX11_sum_60 : decode cX11_sum 60 = .ok (.getfield 84, 3) := by decide +kernel
theorem dX11_sum_63 : decode cX11_sum 63 = .ok (.ireturn, 1) := by decide +kernel
theorem dX11_sum_64 : decode cX11_sum 64 = .ok (.aload_n 0, 1) := by decide +kernel
theorem dX11_sum_65 : decode cX11_sum 65 = .ok (.getfield 19, 3) := by decide +kernel
theorem dX11_sum_68 : decode cX11_sum 68 = .ok (.getfield 148, 3) := by decide +kernel
theorem dX11_sum_71 : decode cX11_sum 71 = .ok (.ireturn, 1) := by decide +kernel
theorem dX11_sum_72 : decode cX11_sum 72 = .ok (.aload_n 0, 1) := by decide +kernel
theorem dX11_sum_73 : decode cX11_sum 73 = .ok (.getfield 19, 3) := by decide +kernel
theorem dX11_sum_76 : decode cX11_sum 76 = .ok (.getfield 186, 3) := by decide +kernel
theorem dX11_sum_79 : decode cX11_sum 79 = .ok (.ireturn, 1) := by decide +kernel
theorem dX11_sum_80 : decode cX11_sum 80 = .ok (.aload_n 0, 1) := by decide +kernel
theorem dX11_sum_81 : decode cX11_sum 81 = .ok (.getfield 26, 3) := by decide +kernel
theorem dX11_sum_84 : decode cX11_sum 84 = .ok (.getfield 242, 3) := by decide +kernel
theorem dX11_sum_87 : decode cX11_sum 87 = .ok (.ireturn, 1) := by decide +kernel
theorem dX11_sum_88 : decode cX11_sum 88 = .ok (.aload_n 0, 1) := by decide +kernel
theorem dX11_sum_89 : decode cX11_sum 89 = .ok (.getfield 19, 3) := by decide +kernel
theorem dX11_sum_92 : decode cX11_sum 92 = .ok (.getfield 174, 3) := by decide +kernel
theorem dX11_sum_95 : decode cX11_sum 95 = .ok (.ireturn, 1) := by decide +kernel
theorem dX11_sum_96 : decode cX11_sum 96 = .ok (.aload_n 0, 1) := by decide +kernel
theorem dX11_sum_97 : decode cX11_sum 97 = .ok (.getfield 12, 3) := by decide +kernel
theorem dX11_sum_100 : decode cX11_sum 100 = .ok (.getfield 109, 3) := by decide +kernel
theorem dX11_sum_103 : decode cX11_sum 103 = .ok (.ireturn, 1) := by decide +kernel
theorem dX11_sum_104 : decode cX11_sum 104 = .ok (.aload_n 0, 1) := by decide +kernel
theorem dX11_sum_105 : decode cX11_sum 105 = .ok (.getfield 26, 3) := by decide +kernel
theorem dX11_sum_108 : decode cX11_sum 108 = .ok (.getfield 246, 3) := by decide +kernel
theorem dX11_sum_111 : decode cX11_sum 111 = .ok (.ireturn, 1) := by decide +kernel
theorem dX11_sum_112 : decode cX11_sum 112 = .ok (.aload_n 0, 1) := by decide +kernel
theorem dX11_sum_113 : decode cX11_sum 113 = .ok (.getfield 26, 3) := by decide +kernel
theorem dX11_sum_116 : decode cX11_sum 116 = .ok (.getfield 249, 3) := by decide +kernel
theorem dX11_sum_119 : decode cX11_sum 119 = .ok (.ireturn, 1) := by decide +kernel
theorem dX11_sum_120 : decode cX11_sum 120 = .ok (.aload_n 0, 1) := by decide +kernel
theorem dX11_sum_121 : decode cX11_sum 121 = .ok (.invokevirtual 141, 3) := by decide +kernel
theorem dX11_sum_124 : decode cX11_sum 124 = .ok (.aload_n 0, 1) := by decide +kernel
theorem dX11_sum_125 : decode cX11_sum 125 = .ok (.getfield 40, 3) := by decide +kernel
theorem dX11_sum_128 : decode cX11_sum 128 = .ok (.getfield 316, 3) := by decide +kernel
theorem dX11_sum_131 : decode cX11_sum 131 = .ok (.ireturn, 1) := by decide +kernel
def J_X11_sum (x1 : Int) (st : z_St) : Option (z_R (Int × z_St)) :=
  z_x (J_X11_checkRange x1 0 8 st) fun _ =>
    z_g (z32 x1) (
    if x1 = 0 then
      some (.inl (st 1 2, st))
    else
    if x1 = 1 then
      some (.inl (st 24 1, st))
    else
    if x1 = 2 then
      some (.inl (st 24 4, st))
    else
    if x1 = 3 then
      some (.inl (st 89 3, st))
    else
    if x1 = 4 then
      some (.inl (st 24 6, st))
    else
    if x1 = 5 then
      some (.inl (st 1 3, st))
    else
    if x1 = 6 then
      some (.inl (st 89 4, st))
    else
    if x1 = 7 then
      some (.inl (st 89 5, st))
    else
      z_b (J_X11_readyRows st) fun st4 =>
      some (.inl (st4 134 7, st4)))
set_option maxRecDepth 100000 in
set_option maxHeartbeats 4000000 in
theorem w_X11_sum {κ : zK} {a : Nat → Nat} {x1 : Int} {st : z_St} {o : z_R (Int × z_St)} (hc : z_C κ RX11 cX11_sum 2 13 (z_mc o) (z_ms o)) (hap : z_AP κ a z_N) (he : z_EX 0 κ (some .int) z_T z_N a o) (h : J_X11_sum x1 st = some o) : z_V κ z_T z_N a 0 0 0 [(0, .ref (a 0)), (1, .int (zI x1))] [] st := by
  unfold J_X11_sum at h
  refine z_iload_n (i := 1) 1 hc dX11_sum_0 rfl rfl ?_
  refine z_iconst hc dX11_sum_1 ?_
  refine z_bipush hc dX11_sum_2 rfl ?_
  rcases z_x_cases h with ⟨u9, hr1, h⟩ | ⟨q9, hr1, h⟩
  · refine z_xcallSV [.int (zI x1), .int (zI 0), .int (zI 8)] hc hap o_X11_checkRange ml_RX11_112 (fun l hl => c_X11_checkRange_r hl  hr1) (by decide) rfl rfl (Nat.le_of_ble_eq_true rfl) (Nat.zero_le _) (Nat.zero_le _) dX11_sum_4 ?_
    refine z_iload_n (i := 1) 1 hc dX11_sum_7 rfl rfl ?_
    obtain ⟨hsw, h⟩ := z_g_some h
    by_cases e0 : x1 = 0
    · rw [if_pos e0] at h
      refine z_swIn (tgt := 56) hc hsw dX11_sum_8 (by omega) (by omega) (by rw [e0]; rfl) (by decide) ?_
      refine z_aload_n (i := 0) 0 hc dX11_sum_56 rfl rfl ?_
      refine z_getA (k' := 1) hc fl_RX11_12 tT_0 (by decide) rfl rfl dX11_sum_57 ?_
      refine z_getI (kI := 1) (jI := 2) hc fl_RX11_84 tT_1 (by decide) rfl rfl rfl dX11_sum_60 ?_
      have h := Option.some.inj h
      subst h
      exact z_retXI hc he rfl dX11_sum_63
    rw [if_neg e0] at h
    by_cases e1 : x1 = 1
    · rw [if_pos e1] at h
      refine z_swIn (tgt := 64) hc hsw dX11_sum_8 (by omega) (by omega) (by rw [e1]; rfl) (by decide) ?_
      refine z_aload_n (i := 0) 0 hc dX11_sum_64 rfl rfl ?_
      refine z_getA (k' := 24) hc fl_RX11_19 tT_0 (by decide) rfl rfl dX11_sum_65 ?_
      refine z_getI (kI := 24) (jI := 1) hc fl_RX11_148 tT_24 (by decide) rfl rfl rfl dX11_sum_68 ?_
      have h := Option.some.inj h
      subst h
      exact z_retXI hc he rfl dX11_sum_71
    rw [if_neg e1] at h
    by_cases e2 : x1 = 2
    · rw [if_pos e2] at h
      refine z_swIn (tgt := 72) hc hsw dX11_sum_8 (by omega) (by omega) (by rw [e2]; rfl) (by decide) ?_
      refine z_aload_n (i := 0) 0 hc dX11_sum_72 rfl rfl ?_
      refine z_getA (k' := 24) hc fl_RX11_19 tT_0 (by decide) rfl rfl dX11_sum_73 ?_
      refine z_getI (kI := 24) (jI := 4) hc fl_RX11_186 tT_24 (by decide) rfl rfl rfl dX11_sum_76 ?_
      have h := Option.some.inj h
      subst h
      exact z_retXI hc he rfl dX11_sum_79
    rw [if_neg e2] at h
    by_cases e3 : x1 = 3
    · rw [if_pos e3] at h
      refine z_swIn (tgt := 80) hc hsw dX11_sum_8 (by omega) (by omega) (by rw [e3]; rfl) (by decide) ?_
      refine z_aload_n (i := 0) 0 hc dX11_sum_80 rfl rfl ?_
      refine z_getA (k' := 89) hc fl_RX11_26 tT_0 (by decide) rfl rfl dX11_sum_81 ?_
      refine z_getI (kI := 89) (jI := 3) hc fl_RX11_242 tT_89 (by decide) rfl rfl rfl dX11_sum_84 ?_
      have h := Option.some.inj h
      subst h
      exact z_retXI hc he rfl dX11_sum_87
    rw [if_neg e3] at h
    by_cases e4 : x1 = 4
    · rw [if_pos e4] at h
      refine z_swIn (tgt := 88) hc hsw dX11_sum_8 (by omega) (by omega) (by rw [e4]; rfl) (by decide) ?_
      refine z_aload_n (i := 0) 0 hc dX11_sum_88 rfl rfl ?_
      refine z_getA (k' := 24) hc fl_RX11_19 tT_0 (by decide) rfl rfl dX11_sum_89 ?_
      refine z_getI (kI := 24) (jI := 6) hc fl_RX11_174 tT_24 (by decide) rfl rfl rfl dX11_sum_92 ?_
      have h := Option.some.inj h
      subst h
      exact z_retXI hc he rfl dX11_sum_95
    rw [if_neg e4] at h
    by_cases e5 : x1 = 5
    · rw [if_pos e5] at h
      refine z_swIn (tgt := 96) hc hsw dX11_sum_8 (by omega) (by omega) (by rw [e5]; rfl) (by decide) ?_
      refine z_aload_n (i := 0) 0 hc dX11_sum_96 rfl rfl ?_
      refine z_getA (k' := 1) hc fl_RX11_12 tT_0 (by decide) rfl rfl dX11_sum_97 ?_
      refine z_getI (kI := 1) (jI := 3) hc fl_RX11_109 tT_1 (by decide) rfl rfl rfl dX11_sum_100 ?_
      have h := Option.some.inj h
      subst h
      exact z_retXI hc he rfl dX11_sum_103
    rw [if_neg e5] at h
    by_cases e6 : x1 = 6
    · rw [if_pos e6] at h
      refine z_swIn (tgt := 104) hc hsw dX11_sum_8 (by omega) (by omega) (by rw [e6]; rfl) (by decide) ?_
      refine z_aload_n (i := 0) 0 hc dX11_sum_104 rfl rfl ?_
      refine z_getA (k' := 89) hc fl_RX11_26 tT_0 (by decide) rfl rfl dX11_sum_105 ?_
      refine z_getI (kI := 89) (jI := 4) hc fl_RX11_246 tT_89 (by decide) rfl rfl rfl dX11_sum_108 ?_
      have h := Option.some.inj h
      subst h
      exact z_retXI hc he rfl dX11_sum_111
    rw [if_neg e6] at h
    by_cases e7 : x1 = 7
    · rw [if_pos e7] at h
      refine z_swIn (tgt := 112) hc hsw dX11_sum_8 (by omega) (by omega) (by rw [e7]; rfl) (by decide) ?_
      refine z_aload_n (i := 0) 0 hc dX11_sum_112 rfl rfl ?_
      refine z_getA (k' := 89) hc fl_RX11_26 tT_0 (by decide) rfl rfl dX11_sum_113 ?_
      refine z_getI (kI := 89) (jI := 5) hc fl_RX11_249 tT_89 (by decide) rfl rfl rfl dX11_sum_116 ?_
      have h := Option.some.inj h
      subst h
      exact z_retXI hc he rfl dX11_sum_119
    rw [if_neg e7] at h
    refine z_swOut (tgt := 120) hc hsw dX11_sum_8 (by omega) (by decide) ?_
    refine z_aload_n (i := 0) 0 hc dX11_sum_120 rfl rfl ?_
    obtain ⟨st4, hr3, h⟩ := z_b_some h
    refine z_callVV [] hc hap o_X11_readyRows ml_RX11_141 (fun l hl => c_X11_readyRows hl  hr3) (by decide) tT_0 (by decide) ⟨_, rfl, rfl⟩ rfl rfl (Nat.le_of_ble_eq_true rfl) (Nat.zero_le _) (Nat.zero_le _) dX11_sum_121 ?_
    refine z_aload_n (i := 0) 0 hc dX11_sum_124 rfl rfl ?_
    refine z_getA (k' := 134) hc fl_RX11_40 tT_0 (by decide) rfl rfl dX11_sum_125 ?_
    refine z_getI (kI := 134) (jI := 7) hc fl_RX11_316 tT_134 (by decide) rfl rfl rfl dX11_sum_128 ?_
    have h := Option.some.inj h
    subst h
    exact z_retXI hc he rfl dX11_sum_131
  · obtain ⟨e9, st9⟩ := q9
    subst h
    refine z_xthrS (kd := 2) [.int (zI x1), .int (zI 0), .int (zI 8)] hc hap o_X11_checkRange ml_RX11_112 (fun l hl => c_X11_checkRange_t hl  hr1) (by decide) rfl rfl (Nat.le_of_ble_eq_true rfl) (Nat.le_refl 1) (Nat.le_refl 6) dX11_sum_4 (z_outX hc he rfl)
set_option maxRecDepth 100000 in
set_option maxHeartbeats 4000000 in
theorem c_X11_sum {l : Launch} (hl : l.stackTraces = false) {a : Nat → Nat} {x1 : Int} {st : z_St} {o : z_R (Int × z_St)} (h : J_X11_sum x1 st = some o) : z_MX 0 l yX11_sum cX11_sum 2 (some .int) 13 z_T z_N a [.ref (a 0), .int (zI x1)] st o := z_ofX hl (by decide +kernel) (Nat.le_of_ble_eq_true rfl) (fun κ hc hap he => w_X11_sum hc hap he h)
theorem c_X11_sum_r {l : Launch} (hl : l.stackTraces = false) {a : Nat → Nat} {x1 : Int} {st : z_St} {v9 : Int × z_St} (h : J_X11_sum x1 st = some (.inl v9)) : z_MX 0 l yX11_sum cX11_sum 2 (some .int) 13 z_T z_N a [.ref (a 0), .int (zI x1)] st (.inl v9) := by
  have h9 := c_X11_sum (a := a) (o := .inl v9) hl h
  exact h9
theorem c_X11_sum_t {l : Launch} (hl : l.stackTraces = false) {a : Nat → Nat} {x1 : Int} {st : z_St} {e9 : Nat} {st9 : z_St} (h : J_X11_sum x1 st = some (.inr (e9, st9))) : z_MX 0 l yX11_sum cX11_sum 2 (some .int) 13 z_T z_N a [.ref (a 0), .int (zI x1)] st (.inr (e9, st9)) := by
  have h9 := c_X11_sum (a := a) (o := .inr (e9, st9)) hl h
  exact h9
