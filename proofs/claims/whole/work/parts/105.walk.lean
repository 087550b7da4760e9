theorem dX11_sure_0 : decode cX11_sure 0 = .ok (.iload_n 3, 1) := by decide +kernel
theorem dX11_sure_1 : decode cX11_sure 1 = .ok (.aload_n 0, 1) := by decide +kernel
theorem dX11_sure_2 : decode cX11_sure 2 = .ok (.getfield 12, 3) := by decide +kernel
theorem dX11_sure_5 : decode cX11_sure 5 = .ok (.getfield 84, 3) := by decide +kernel
theorem dX11_sure_8 : decode cX11_sure 8 = .ok (.invokestatic 105, 3) := by decide +kernel
theorem dX11_sure_11 : decode cX11_sure 11 = .ok (.lload_n 1, 1) := by decide +kernel
theorem dX11_sure_12 : decode cX11_sure 12 = .ok (.lconst 0, 1) := by decide +kernel
theorem dX11_sure_13 : decode cX11_sure 13 = .ok (.invokestatic 266, 3) := by decide +kernel
theorem dX11_sure_16 : decode cX11_sure 16 = .ok (.aload_n 0, 1) := by decide +kernel
theorem dX11_sure_17 : decode cX11_sure 17 = .ok (.invokevirtual 118, 3) := by decide +kernel
theorem dX11_sure_20 : decode cX11_sure 20 = .ok (.aload_n 0, 1) := by decide +kernel
theorem dX11_sure_21 : decode cX11_sure 21 = .ok (.invokevirtual 121, 3) := by decide +kernel
theorem dX11_sure_24 : decode cX11_sure 24 = .ok (.aload_n 0, 1) := by decide +kernel
theorem dX11_sure_25 : decode cX11_sure 25 = .ok (.invokevirtual 287, 3) := by decide +kernel
theorem dX11_sure_28 : decode cX11_sure 28 = .ok (.aload_n 0, 1) := by decide +kernel
theorem dX11_sure_29 : decode cX11_sure 29 = .ok (.getfield 54, 3) := by decide +kernel
theorem dX11_sure_32 : decode cX11_sure 32 = .ok (.lload_n 1, 1) := by decide +kernel
theorem dX11_sure_33 : decode cX11_sure 33 = .ok (.iload_n 3, 1) := by decide +kernel
theorem dX11_sure_34 : decode cX11_sure 34 = .ok (.aload_n 0, 1) := by decide +kernel
theorem dX11_sure_35 : decode cX11_sure 35 = .ok (.getfield 61, 3) := by decide +kernel
theorem dX11_sure_38 : decode cX11_sure 38 = .ok (.getfield 301, 3) := by decide +kernel
theorem dX11_sure_41 : decode cX11_sure 41 = .ok (.iconst 1, 1) := by decide +kernel
theorem dX11_sure_42 : decode cX11_sure 42 = .ok (.aaload, 1) := by decide +kernel
theorem dX11_sure_43 : decode cX11_sure 43 = .ok (.iload_n 3, 1) := by decide +kernel
theorem dX11_sure_44 : decode cX11_sure 44 = .ok (.iaload, 1) := by decide +kernel
theorem dX11_sure_45 : decode cX11_sure 45 = .ok (.invokevirtual 304, 3) := by decide +kernel
theorem dX11_sure_48 : decode cX11_sure 48 = .ok (.istore 4, 2) := by decide +kernel
theorem dX11_sure_50 : decode cX11_sure 50 = .ok (.iload 4, 2) := by decide +kernel
theorem dX11_sure_52 : decode cX11_sure 52 = .ok (.aload_n 0, 1) := by decide +kernel
theorem dX11_sure_53 : decode cX11_sure 53 = .ok (.getfield 54, 3) := by decide +kernel
theorem dX11_sure_56 : decode cX11_sure 56 = .ok (.lload_n 1, 1) := by decide +kernel
theorem dX11_sure_57 : decode cX11_sure 57 = .ok (.iload_n 3, 1) := by decide +kernel
theorem dX11_sure_58 : decode cX11_sure 58 = .ok (.iconst (-1), 1) := by decide +kernel
theorem dX11_sure_59 : decode cX11_sure 59 = .ok (.invokevirtual 304, 3) := by decide +kernel
theorem dX11_sure_62 : decode cX11_sure 62 = .ok (.invokestatic 308, 3) := by decide +kernel
theorem dX11_sure_65 : decode cX11_sure 65 = .ok (.ireturn, 1) := by decide +kernel
def J_X11_sure (x1 x3 : Int) (st : z_St) : Option (z_R (Int × z_St)) :=
  z_x (J_X11_checkIndex x3 (st 1 2) st) fun _ =>
    z_x (J_X11_checkAtLeast x1 0 st) fun _ =>
      z_x (J_X11_checkBest st) fun st6 =>
        z_b (J_X11_readyTrack st6) fun st8 =>
        z_b (J_X11_readyLattice st8) fun st10 =>
        z_g (0 ≤ 1 ∧ 1 < 6) <|
        z_g (0 ≤ x3 ∧ x3 < 16) <|
        z_b (J_X3_countAround x1 x3 (st10 (150 + 1) x3) st10) fun r13 =>
        z_b (J_X3_countAround x1 x3 (-1) st10) fun r15 =>
        z_b (J_X11_partBits r13 r15 st10) fun r17 =>
        some (.inl (r17, st10))
set_option maxRecDepth 100000 in
set_option maxHeartbeats 4000000 in
theorem w_X11_sure {κ : zK} {a : Nat → Nat} {x1 x3 : Int} {st : z_St} {o : z_R (Int × z_St)} (hc : z_C κ RX11 cX11_sure 5 14 (z_mc o) (z_ms o)) (hap : z_AP κ a z_N) (he : z_EX 0 κ (some .int) z_T z_N a o) (h : J_X11_sure x1 x3 st = some o) : z_V κ z_T z_N a 0 0 0 [(0, .ref (a 0)), (1, .long (zJ x1)), (3, .int (zI x3))] [] st := by
  unfold J_X11_sure at h
  refine z_iload_n (i := 3) 2 hc dX11_sure_0 rfl rfl ?_
  refine z_aload_n (i := 0) 0 hc dX11_sure_1 rfl rfl ?_
  refine z_getA (k' := 1) hc fl_RX11_12 tT_0 (by decide) rfl rfl dX11_sure_2 ?_
  refine z_getI (kI := 1) (jI := 2) hc fl_RX11_84 tT_1 (by decide) rfl rfl rfl dX11_sure_5 ?_
  rcases z_x_cases h with ⟨u9, hr1, h⟩ | ⟨q9, hr1, h⟩
  · refine z_xcallSV [.int (zI x3), .int (zI (st 1 2))] hc hap o_X11_checkIndex ml_RX11_105 (fun l hl => c_X11_checkIndex_r hl  hr1) (by decide) rfl rfl (Nat.le_of_ble_eq_true rfl) (Nat.zero_le _) (Nat.zero_le _) dX11_sure_8 ?_
    refine z_lload_n (i := 1) 1 hc dX11_sure_11 rfl rfl ?_
    refine z_lconst 0 hc dX11_sure_12 rfl ?_
    rcases z_x_cases h with ⟨u9, hr3, h⟩ | ⟨q9, hr3, h⟩
    · refine z_xcallSV [.long (zJ x1), .long (zJ 0)] hc hap o_X11_checkAtLeast ml_RX11_266 (fun l hl => c_X11_checkAtLeast_r hl  hr3) (by decide) rfl rfl (Nat.le_of_ble_eq_true rfl) (Nat.zero_le _) (Nat.zero_le _) dX11_sure_13 ?_
      refine z_aload_n (i := 0) 0 hc dX11_sure_16 rfl rfl ?_
      rcases z_x_cases h with ⟨st6, hr5, h⟩ | ⟨q9, hr5, h⟩
      · refine z_xcallVV [] hc hap o_X11_checkBest ml_RX11_118 (fun l hl => c_X11_checkBest_r hl  hr5) (by decide) tT_0 (by decide) ⟨_, rfl, rfl⟩ rfl rfl (Nat.le_of_ble_eq_true rfl) (Nat.zero_le _) (Nat.zero_le _) dX11_sure_17 ?_
        refine z_aload_n (i := 0) 0 hc dX11_sure_20 rfl rfl ?_
        obtain ⟨st8, hr7, h⟩ := z_b_some h
        refine z_callVV [] hc hap o_X11_readyTrack ml_RX11_121 (fun l hl => c_X11_readyTrack hl  hr7) (by decide) tT_0 (by decide) ⟨_, rfl, rfl⟩ rfl rfl (Nat.le_of_ble_eq_true rfl) (Nat.zero_le _) (Nat.zero_le _) dX11_sure_21 ?_
        refine z_aload_n (i := 0) 0 hc dX11_sure_24 rfl rfl ?_
        obtain ⟨st10, hr9, h⟩ := z_b_some h
        refine z_callVV [] hc hap o_X11_readyLattice ml_RX11_287 (fun l hl => c_X11_readyLattice hl  hr9) (by decide) tT_0 (by decide) ⟨_, rfl, rfl⟩ rfl rfl (Nat.le_of_ble_eq_true rfl) (Nat.zero_le _) (Nat.zero_le _) dX11_sure_25 ?_
        refine z_aload_n (i := 0) 0 hc dX11_sure_28 rfl rfl ?_
        refine z_getA (k' := 144) hc fl_RX11_54 tT_0 (by decide) rfl rfl dX11_sure_29 ?_
        refine z_lload_n (i := 1) 1 hc dX11_sure_32 rfl rfl ?_
        refine z_iload_n (i := 3) 2 hc dX11_sure_33 rfl rfl ?_
        refine z_aload_n (i := 0) 0 hc dX11_sure_34 rfl rfl ?_
        refine z_getA (k' := 148) hc fl_RX11_61 tT_0 (by decide) rfl rfl dX11_sure_35 ?_
        refine z_getA (k' := 149) hc fl_RX11_301 tT_148 (by decide) rfl rfl dX11_sure_38 ?_
        refine z_iconst hc dX11_sure_41 ?_
        refine z_aald (r := 150 + 1) (nI9 := 6) hc tT_149 (by decide) (by decide) rfl (by decide) (fun j9 hj9 => by omega) dX11_sure_42 h (fun g11 h => ?_)
        refine z_iload_n (i := 3) 2 hc dX11_sure_43 rfl rfl ?_
        refine z_iald (kI := 150 + 1) (nI9 := 16) hc (z_row_149 g11).2.2 (z_row_149 g11).2.1 (Int.toNat_of_nonneg (z_row_149 g11).1) rfl (by decide) dX11_sure_44 h (fun g12 h => ?_)
        obtain ⟨r13, hr13, h⟩ := z_b_some h
        refine z_callVI [.long (zJ x1), .int (zI x3), .int (zI (st10 (150 + 1) x3))] hc hap o_X3_countAround ml_RX11_304 (fun l hl => c_X3_countAround hl  hr13) (by decide) tT_144 (by decide) ⟨_, rfl, rfl⟩ rfl rfl (Nat.le_of_ble_eq_true rfl) (Nat.zero_le _) (Nat.zero_le _) dX11_sure_45 ?_
        refine z_istore [(4, .int (zI r13)), (0, .ref (a 0)), (1, .long (zJ x1)), (3, .int (zI x3))] hc dX11_sure_48 (by decide) rfl ?_
        refine z_iload 0 hc dX11_sure_50 rfl ?_
        refine z_aload_n (i := 0) 1 hc dX11_sure_52 rfl rfl ?_
        refine z_getA (k' := 144) hc fl_RX11_54 tT_0 (by decide) rfl rfl dX11_sure_53 ?_
        refine z_lload_n (i := 1) 2 hc dX11_sure_56 rfl rfl ?_
        refine z_iload_n (i := 3) 3 hc dX11_sure_57 rfl rfl ?_
        refine z_iconst hc dX11_sure_58 ?_
        obtain ⟨r15, hr15, h⟩ := z_b_some h
        refine z_callVI [.long (zJ x1), .int (zI x3), .int (zI (-1))] hc hap o_X3_countAround ml_RX11_304 (fun l hl => c_X3_countAround hl  hr15) (by decide) tT_144 (by decide) ⟨_, rfl, rfl⟩ rfl rfl (Nat.le_of_ble_eq_true rfl) (Nat.zero_le _) (Nat.zero_le _) dX11_sure_59 ?_
        obtain ⟨r17, hr17, h⟩ := z_b_some h
        refine z_callSI [.int (zI r13), .int (zI r15)] hc hap o_X11_partBits ml_RX11_308 (fun l hl => c_X11_partBits hl  hr17) (by decide) rfl rfl (Nat.le_of_ble_eq_true rfl) (Nat.zero_le _) (Nat.zero_le _) dX11_sure_62 ?_
        have h := Option.some.inj h
        subst h
        exact z_retXI hc he rfl dX11_sure_65
      · obtain ⟨e9, st9⟩ := q9
        subst h
        refine z_xthrV (kd := 2) [] hc hap o_X11_checkBest ml_RX11_118 (fun l hl => c_X11_checkBest_t hl  hr5) (by decide) tT_0 (by decide) ⟨_, rfl, rfl⟩ rfl rfl (Nat.le_of_ble_eq_true rfl) (Nat.le_refl 1) (Nat.le_refl 6) dX11_sure_17 (z_outX hc he rfl)
    · obtain ⟨e9, st9⟩ := q9
      subst h
      refine z_xthrS (kd := 2) [.long (zJ x1), .long (zJ 0)] hc hap o_X11_checkAtLeast ml_RX11_266 (fun l hl => c_X11_checkAtLeast_t hl  hr3) (by decide) rfl rfl (Nat.le_of_ble_eq_true rfl) (Nat.le_refl 1) (Nat.le_refl 6) dX11_sure_13 (z_outX hc he rfl)
  · obtain ⟨e9, st9⟩ := q9
    subst h
    refine z_xthrS (kd := 2) [.int (zI x3), .int (zI (st 1 2))] hc hap o_X11_checkIndex ml_RX11_105 (fun l hl => c_X11_checkIndex_t hl  hr1) (by decide) rfl rfl (Nat.le_of_ble_eq_true rfl) (Nat.le_refl 1) (Nat.le_refl 6) dX11_sure_8 (z_outX hc he rfl)
set_option maxRecDepth 100000 in
set_option maxHeartbeats 4000000 in
theorem c_X11_sure {l : Launch} (hl : l.stackTraces = false) {a : Nat → Nat} {x1 x3 : Int} {st : z_St} {o : z_R (Int × z_St)} (h : J_X11_sure x1 x3 st = some o) : z_MX 0 l yX11_sure cX11_sure 5 (some .int) 14 z_T z_N a [.ref (a 0), .long (zJ x1), .int (zI x3)] st o := z_ofX hl (by decide +kernel) (Nat.le_of_ble_eq_true rfl) (fun κ hc hap he => w_X11_sure hc hap he h)
theorem c_X11_sure_r {l : Launch} (hl : l.stackTraces = false) {a : Nat → Nat} {x1 x3 : Int} {st : z_St} {v9 : Int × z_St} (h : J_X11_sure x1 x3 st = some (.inl v9)) : z_MX 0 l yX11_sure cX11_sure 5 (some .int) 14 z_T z_N a [.ref (a 0), .long (zJ x1), .int (zI x3)] st (.inl v9) := by
  have h9 := c_X11_sure (a := a) (o := .inl v9) hl h
  exact h9
theorem c_X11_sure_t {l : Launch} (hl : l.stackTraces = false) {a : Nat → Nat} {x1 x3 : Int} {st : z_St} {e9 : Nat} {st9 : z_St} (h : J_X11_sure x1 x3 st = some (.inr (e9, st9))) : z_MX 0 l yX11_sure cX11_sure 5 (some .int) 14 z_T z_N a [.ref (a 0), .long (zJ x1), .int (zI x3)] st (.inr (e9, st9)) := by
  have h9 := c_X11_sure (a := a) (o := .inr (e9, st9)) hl h
  exact h9
theorem dX11_path_0 : decode cX11_path 0 = .ok (.iload_n 1, 1) := by decide +kernel
theorem dX11_path_1 : decode cX11_path 1 = .ok (.aload_n 0, 1) := by decide +kernel
theorem dX11_path_2 : decode cX11_path 2 = .ok (.getfield 12, 3) := by decide +kernel
theorem dX11_path_5 : decode cX11_path 5 = .ok (.getfield 84, 3) := by decide +kernel
theorem dX11_path_8 : decode cX11_path 8 = .ok (.invokestatic 105, 3) := by decide +kernel
theorem dX11_path_11 : decode cX11_path 11 = .ok (.iload_n 2, 1) := by decide +kernel
theorem dX11_path_12 : decode cX11_path 12 = .ok (.iconst 0, 1) := by decide +kernel
theorem dX11_path_13 : decode cX11_path 13 = .ok (.iconst 5, 1) := by decide +kernel
theorem dX11_path_14 : decode cX11_path 14 = .ok (.invokestatic 112, 3) := by decide +kernel
theorem dX11_path_17 : decode cX11_path 17 = .ok (.aload_n 0, 1) := by decide +kernel
theorem dX11_path_18 : decode cX11_path 18 = .ok (.invokevirtual 118, 3) := by decide +kernel
theorem dX11_path_21 : decode cX11_path 21 = .ok (.aload_n 0, 1) := by decide +kernel
theorem dX11_path_22 : decode cX11_path 22 = .ok (.invokevirtual 121, 3) := by decide +kernel
theorem dX11_path_25 : decode cX11_path 25 = .ok (.aload_n 0, 1) := by decide +kernel
theorem dX11_path_26 : decode cX11_path 26 = .ok (.getfield 61, 3) := by decide +kernel
theorem dX11_path_29 : decode cX11_path 29 = .ok (.getfield 301, 3) := by decide +kernel
theorem dX11_path_32 : decode cX11_path 32 = .ok (.iload_n 2, 1) := by decide +kernel
theorem dX11_path_33 : decode cX11_path 33 = .ok (.aaload, 1) := by decide +kernel
theorem dX11_path_34 : decode cX11_path 34 = .ok (.iload_n 1, 1) := by decide +kernel
theorem dX11_path_35 : decode cX11_path 35 = .ok (.iaload, 1) := by decide +kernel
theorem dX11_path_36 : decode cX11_path 36 = .ok (.ireturn, 1) := by decide +kernel
def J_X11_path (x1 x2 : Int) (st : z_St) : Option (z_R (Int × z_St)) :=
  z_x (J_X11_checkIndex x1 (st 1 2) st) fun _ =>
    z_x (J_X11_checkRange x2 0 5 st) fun _ =>
      z_x (J_X11_checkBest st) fun st6 =>
        z_b (J_X11_readyTrack st6) fun st8 =>
        z_g (0 ≤ x2 ∧ x2 < 6) <|
        z_g (0 ≤ x1 ∧ x1 < 16) <|
        some (.inl (st8 (150 + x2) x1, st8))
set_option maxRecDepth 100000 in
set_option maxHeartbeats 4000000 in
theorem w_X11_path {κ : zK} {a : Nat → Nat} {x1 x2 : Int} {st : z_St} {o : z_R (Int × z_St)} (hc : z_C κ RX11 cX11_path 3 14 (z_mc o) (z_ms o)) (hap : z_AP κ a z_N) (he : z_EX 0 κ (some .int) z_T z_N a o) (h : J_X11_path x1 x2 st = some o) : z_V κ z_T z_N a 0 0 0 [(0, .ref (a 0)), (1, .int (zI x1)), (2, .int (zI x2))] [] st := by
  unfold J_X11_path at h
  refine z_iload_n (i := 1) 1 hc dX11_path_0 rfl rfl ?_
  refine z_aload_n (i := 0) 0 hc dX11_path_1 rfl rfl ?_
  refine z_getA (k' := 1) hc fl_RX11_12 tT_0 (by decide) rfl rfl dX11_path_2 ?_
  refine z_getI (kI := 1) (jI := 2) hc fl_RX11_84 tT_1 (by decide) rfl rfl rfl dX11_path_5 ?_
  rcases z_x_cases h with ⟨u9, hr1, h⟩ | ⟨q9, hr1, h⟩
  · refine z_xcallSV [.int (zI x1), .int (zI (st 1 2))] hc hap o_X11_checkIndex ml_RX11_105 (fun l hl => c_X11_checkIndex_r hl  hr1) (by decide) rfl rfl (Nat.le_of_ble_eq_true rfl) (Nat.zero_le _) (Nat.zero_le _) dX11_path_8 ?_
    refine z_iload_n (i := 2) 2 hc dX11_path_11 rfl rfl ?_
    refine z_iconst hc dX11_path_12 ?_
    refine z_iconst hc dX11_path_13 ?_
    rcases z_x_cases h with ⟨u9, hr3, h⟩ | ⟨q9, hr3, h⟩
    · refine z_xcallSV [.int (zI x2), .int (zI 0), .int (zI 5)] hc hap o_X11_checkRange ml_RX11_112 (fun l hl => c_X11_checkRange_r hl  hr3) (by decide) rfl rfl (Nat.le_of_ble_eq_true rfl) (Nat.zero_le _) (Nat.zero_le _) dX11_path_14 ?_
      refine z_aload_n (i := 0) 0 hc dX11_path_17 rfl rfl ?_
      rcases z_x_cases h with ⟨st6, hr5, h⟩ | ⟨q9, hr5, h⟩
      · refine z_xcallVV [] hc hap o_X11_checkBest ml_RX11_118 (fun l hl => c_X11_checkBest_r hl  hr5) (by decide) tT_0 (by decide) ⟨_, rfl, rfl⟩ rfl rfl (Nat.le_of_ble_eq_true rfl) (Nat.zero_le _) (Nat.zero_le _) dX11_path_18 ?_
        refine z_aload_n (i := 0) 0 hc dX11_path_21 rfl rfl ?_
        obtain ⟨st8, hr7, h⟩ := z_b_some h
        refine z_callVV [] hc hap o_X11_readyTrack ml_RX11_121 (fun l hl => c_X11_readyTrack hl  hr7) (by decide) tT_0 (by decide) ⟨_, rfl, rfl⟩ rfl rfl (Nat.le_of_ble_eq_true rfl) (Nat.zero_le _) (Nat.zero_le _) dX11_path_22 ?_
        refine z_aload_n (i := 0) 0 hc dX11_path_25 rfl rfl ?_
        refine z_getA (k' := 148) hc fl_RX11_61 tT_0 (by decide) rfl rfl dX11_path_26 ?_
        refine z_getA (k' := 149) hc fl_RX11_301 tT_148 (by decide) rfl rfl dX11_path_29 ?_
        refine z_iload_n (i := 2) 2 hc dX11_path_32 rfl rfl ?_
        refine z_aald (r := 150 + x2) (nI9 := 6) hc tT_149 (by decide) (by decide) rfl (by decide) (fun j9 hj9 => by omega) dX11_path_33 h (fun g9 h => ?_)
        refine z_iload_n (i := 1) 1 hc dX11_path_34 rfl rfl ?_
        refine z_iald (kI := 150 + x2) (nI9 := 16) hc (z_row_149 g9).2.2 (z_row_149 g9).2.1 (Int.toNat_of_nonneg (z_row_149 g9).1) rfl (by decide) dX11_path_35 h (fun g10 h => ?_)
        have h := Option.some.inj h
        subst h
        exact z_retXI hc he rfl dX11_path_36
      · obtain ⟨e9, st9⟩ := q9
        subst h
        refine z_xthrV (kd := 2) [] hc hap o_X11_checkBest ml_RX11_118 (fun l hl => c_X11_checkBest_t hl  hr5) (by decide) tT_0 (by decide) ⟨_, rfl, rfl⟩ rfl rfl (Nat.le_of_ble_eq_true rfl) (Nat.le_refl 1) (Nat.le_refl 6) dX11_path_18 (z_outX hc he rfl)
    · obtain ⟨e9, st9⟩ := q9
      subst h
      refine z_xthrS (kd := 2) [.int (zI x2), .int (zI 0), .int (zI 5)] hc hap o_X11_checkRange ml_RX11_112 (fun l hl => c_X11_checkRange_t hl  hr3) (by decide) rfl rfl (Nat.le_of_ble_eq_true rfl) (Nat.le_refl 1) (Nat.le_refl 6) dX11_path_14 (z_outX hc he rfl)
  · obtain ⟨e9, st9⟩ := q9
    subst h
    refine z_xthrS (kd := 2) [.int (zI x1), .int (zI (st 1 2))] hc hap o_X11_checkIndex ml_RX11_105 (fun l hl => c_X11_checkIndex_t hl  hr1) (by decide) rfl rfl (Nat.le_of_ble_eq_true rfl) (Nat.le_refl 1) (Nat.le_refl 6) dX11_path_8 (z_outX hc he rfl)
set_option maxRecDepth 100000 in
set_option maxHeartbeats 4000000 in
theorem c_X11_path {l : Launch} (hl : l.stackTraces = false) {a : Nat → Nat} {x1 x2 : Int} {st : z_St} {o : z_R (Int × z_St)} (h : J_X11_path x1 x2 st = some o) : z_MX 0 l yX11_path cX11_path 3 (some .int) 14 z_T z_N a [.ref (a 0), .int (zI x1), .int (zI x2)] st o := z_ofX hl (by decide +kernel) (Nat.le_of_ble_eq_true rfl) (fun κ hc hap he => w_X11_path hc hap he h)
theorem c_X11_path_r {l : Launch} (hl : l.stackTraces = false) {a : Nat → Nat} {x1 x2 : Int} {st : z_St} {v9 : Int × z_St} (h : J_X11_path x1 x2 st = some (.inl v9)) : z_MX 0 l yX11_path cX11_path 3 (some .int) 14 z_T z_N a [.ref (a 0), .int (zI x1), .int (zI x2)] st (.inl v9) := by
  have h9 := c_X11_path (a := a) (o := .inl v9) hl h
  exact h9
theorem c_X11_path_t {l : Launch} (hl : l.stackTraces = false) {a : Nat → Nat} {x1 x2 : Int} {st : z_St} {e9 : Nat} {st9 : z_St} (h : J_X11_path x1 x2 st = some (.inr (e9, st9))) : z_MX 0 l yX11_path cX11_path 3 (some .int) 14 z_T z_N a [.ref (a 0), .int (zI x1), .int (zI x2)] st (.inr (e9, st9)) := by
  have h9 := c_X11_path (a := a) (o := .inr (e9, st9)) hl h
  exact h9
theorem dX11_changesHere_0 : decode cX11_changesHere 0 = .ok (.aload_n 1, 1) := by decide +kernel
theorem dX11_changesHere_1 : decode cX11_changesHere 1 = .ok (.iload_n 3, 1) := by decide +kernel
theorem dX11_changesHere_2 : decode cX11_changesHere 2 = .ok (.iconst 1, 1) := by decide +kernel
theorem dX11_changesHere_3 : decode cX11_changesHere 3 = .ok (.isub, 1) := by decide +kernel
theorem dX11_changesHere_4 : decode cX11_changesHere 4 = .ok (.invokevirtual 235, 3) := by decide +kernel
theorem dX11_changesHere_7 : decode cX11_changesHere 7 = .ok (.aload_n 2, 1) := by decide +kernel
theorem dX11_changesHere_8 : decode cX11_changesHere 8 = .ok (.iload 4, 2) := by decide +kernel
theorem dX11_changesHere_10 : decode cX11_changesHere 10 = .ok (.iconst 1, 1) := by decide +kernel
theorem dX11_changesHere_11 : decode cX11_changesHere 11 = .ok (.isub, 1) := by decide +kernel
theorem dX11_changesHere_12 : decode cX11_changesHere 12 = .ok (.invokevirtual 235, 3) := by decide +kernel
theorem dX11_changesHere_15 : decode cX11_changesHere 15 = .ok (.if_icmp .ne 7, 3) := by decide +kernel
theorem dX11_changesHere_18 : decode cX11_changesHere 18 = .ok (.iconst 0, 1) := by decide +kernel
theorem dX11_changesHere_19 : decode cX11_changesHere 19 = .ok (.goto 4, 3) := by decide +kernel
theorem dX11_changesHere_22 : decode cX11_changesHere 22 = .ok (.iconst 1, 1) := by decide +kernel
theorem dX11_changesHere_23 : decode cX11_changesHere 23 = .ok (.istore 5, 2) := by decide +kernel
theorem dX11_changesHere_25 : decode cX11_changesHere 25 = .ok (.iconst 1, 1) := by decide +kernel
theorem dX11_changesHere_26 : decode cX11_changesHere 26 = .ok (.aload_n 0, 1) := by decide +kernel
theorem dX11_changesHere_27 : decode cX11_changesHere 27 = .ok (.getfield 77, 3) := by decide +kernel
theorem dX11_changesHere_30 : decode cX11_changesHere 30 = .ok (.iload_n 3, 1) := by decide +kernel
theorem dX11_changesHere_31 : decode cX11_changesHere 31 = .ok (.iconst 1, 1) := by decide +kernel
theorem dX11_changesHere_32 : decode cX11_changesHere 32 = .ok (.isub, 1) := by decide +kernel
theorem dX11_changesHere_33 : decode cX11_changesHere 33 = .ok (.aaload, 1) := by decide +kernel
theorem dX11_changesHere_34 : decode cX11_changesHere 34 = .ok (.iload 4, 2) := by decide +kernel
theorem dX11_changesHere_36 : decode cX11_changesHere 36 = .ok (.iaload, 1) := by decide +kernel
theorem dX11_changesHere_37 : decode cX11_changesHere 37 = .ok (.aload_n 0, 1) := by decide +kernel
theorem dX11_changesHere_38 : decode cX11_changesHere 38 = .ok (.getfield 77, 3) := by decide +kernel
theorem dX11_changesHere_41 : decode cX11_changesHere 41 = .ok (.iload_n 3, 1) := by decide +kernel
theorem dX11_changesHere_42 : decode cX11_changesHere 42 = .ok (.aaload, 1) := by decide +kernel
theorem dX11_changesHere_43 : decode cX11_changesHere 43 = .ok (.iload 4, 2) := by decide +kernel
theorem dX11_changesHere_45 : decode cX11_changesHere 45 = .ok (.iconst 1, 1) := by decide +kernel
theorem dX11_changesHere_46 : decode cX11_changesHere 46 = .ok (.isub, 1) := by decide +kernel
theorem dX11_changesHere_47 : decode cX11_changesHere 47 = .ok (.iaload, 1) := by decide +kernel
theorem dX11_changesHere_48 : decode cX11_changesHere 48 = .ok (.invokestatic 389, 3) := by decide +kernel
theorem dX11_changesHere_51 : decode cX11_changesHere 51 = .ok (.iadd, 1) := by decide +kernel
theorem dX11_changesHere_52 : decode cX11_changesHere 52 = .ok (.istore 6, 2) := by decide +kernel
theorem dX11_changesHere_54 : decode cX11_changesHere 54 = .ok (.iload 6, 2) := by decide +kernel
theorem dX11_changesHere_56 : decode cX11_changesHere 56 = .ok (.aload_n 0, 1) := by decide +kernel
theorem dX11_changesHere_57 : decode cX11_changesHere 57 = .ok (.getfield 77, 3) := by decide +kernel
theorem dX11_changesHere_60 : decode cX11_changesHere 60 = .ok (.iload_n 3, 1) := by decide +kernel
theorem dX11_changesHere_61 : decode cX11_changesHere 61 = .ok (.iconst 1, 1) := by decide +kernel
theorem dX11_changesHere_62 : decode cX11_changesHere 62 = .ok (.isub, 1) := by decide +kernel
theorem dX11_changesHere_63 : decode cX11_changesHere 63 = .ok (.aaload, 1) := by decide +kernel
theorem dX11_changesHere_64 : decode cX11_changesHere 64 = .ok (.iload 4, 2) := by decide +kernel
theorem dX11_changesHere_66 : decode cX11_changesHere 66 = .ok (.iconst 1, 1) := by decide +kernel
theorem dX11_changesHere_67 : decode cX11_changesHere 67 = .ok (.isub, 1) := by decide +kernel
theorem dX11_changesHere_68 : decode cX11_changesHere 68 = .ok (.iaload, 1) := by decide +kernel
theorem dX11_changesHere_69 : decode cX11_changesHere 69 = .ok (.iload 5, 2) := by decide +kernel
theorem dX11_changesHere_71 : decode cX11_changesHere 71 = .ok (.iadd, 1) := by decide +kernel
theorem dX11_changesHere_72 : decode cX11_changesHere 72 = .ok (.invokestatic 389, 3) := by decide +kernel
theorem dX11_changesHere_75 : decode cX11_changesHere 75 = .ok (.ireturn, 1) := by decide +kernel
def J_X11_changesHere_23 (v3 v4 s0 : Int) (st : z_St) : Option (Int) :=
  z_g (0 ≤ v3 - 1 ∧ v3 - 1 < 5) <|
  z_g (0 ≤ v4 ∧ v4 < 5) <|
  z_g (0 ≤ v3 ∧ v3 < 5) <|
  z_g (0 ≤ v4 - 1 ∧ v4 - 1 < 5) <|
  z_g (z32 (st (163 + (v3 - 1)) v4) ∧ z32 (st (163 + v3) (v4 - 1))) <|
  z_g (0 ≤ v3 - 1 ∧ v3 - 1 < 5) <|
  z_g (0 ≤ v4 - 1 ∧ v4 - 1 < 5) <|
  z_g (z32 (1 + (min (st (163 + (v3 - 1)) v4) (st (163 + v3) (v4 - 1)))) ∧ z32 ((st (163 + (v3 - 1)) (v4 - 1)) + s0)) <|
  some (min (1 + (min (st (163 + (v3 - 1)) v4) (st (163 + v3) (v4 - 1)))) ((st (163 + (v3 - 1)) (v4 - 1)) + s0))
set_option maxRecDepth 100000 in
set_option maxHeartbeats 4000000 in
theorem w_X11_changesHere_23 {κ : zK} {a : Nat → Nat} {v3 v4 s0 : Int} {st : z_St} {o : Int} (hc : z_C κ RX11 cX11_changesHere 7 9 0 0) (hap : z_AP κ a z_N) (he : z_E 0 κ (some .int) z_T z_N a o st) (h : J_X11_changesHere_23 v3 v4 s0 st = some o) : z_V κ z_T z_N a 0 0 23 [(0, .ref (a 0)), (3, .int (zI v3)), (4, .int (zI v4))] [.int (zI s0)] st := by
  unfold J_X11_changesHere_23 at h
  refine z_istore [(5, .int (zI s0)), (0, .ref (a 0)), (3, .int (zI v3)), (4, .int (zI v4))] hc dX11_changesHere_23 (by decide) rfl ?_
  refine z_iconst hc dX11_changesHere_25 ?_
  refine z_aload_n (i := 0) 1 hc dX11_changesHere_26 rfl rfl ?_
  refine z_getA (k' := 162) hc fl_RX11_77 tT_0 (by decide) rfl rfl dX11_changesHere_27 ?_
  refine z_iload_n (i := 3) 2 hc dX11_changesHere_30 rfl rfl ?_
  refine z_iconst hc dX11_changesHere_31 ?_
  refine z_isub hc dX11_changesHere_32 ?_
  refine z_aald (r := 163 + (v3 - 1)) (nI9 := 5) hc tT_162 (by decide) (by decide) rfl (by decide) (fun j9 hj9 => by omega) dX11_changesHere_33 h (fun g5 h => ?_)
  refine z_iload 3 hc dX11_changesHere_34 rfl ?_
  refine z_iald (kI := 163 + (v3 - 1)) (nI9 := 5) hc (z_row_162 g5).2.2 (z_row_162 g5).2.1 (Int.toNat_of_nonneg (z_row_162 g5).1) rfl (by decide) dX11_changesHere_36 h (fun g6 h => ?_)
  refine z_aload_n (i := 0) 1 hc dX11_changesHere_37 rfl rfl ?_
  refine z_getA (k' := 162) hc fl_RX11_77 tT_0 (by decide) rfl rfl dX11_changesHere_38 ?_
  refine z_iload_n (i := 3) 2 hc dX11_changesHere_41 rfl rfl ?_
  refine z_aald (r := 163 + v3) (nI9 := 5) hc tT_162 (by decide) (by decide) rfl (by decide) (fun j9 hj9 => by omega) dX11_changesHere_42 h (fun g7 h => ?_)
  refine z_iload 3 hc dX11_changesHere_43 rfl ?_
  refine z_iconst hc dX11_changesHere_45 ?_
  refine z_isub hc dX11_changesHere_46 ?_
  refine z_iald (kI := 163 + v3) (nI9 := 5) hc (z_row_162 g7).2.2 (z_row_162 g7).2.1 (Int.toNat_of_nonneg (z_row_162 g7).1) rfl (by decide) dX11_changesHere_47 h (fun g8 h => ?_)
  refine z_minI hc ml_RX11_389 h ⟨rfl, rfl, Nat.le_of_ble_eq_true rfl, by omega⟩ dX11_changesHere_48 (fun h => ?_)
  refine z_iadd hc dX11_changesHere_51 ?_
  refine z_istore [(6, .int (zI (1 + (min (st (163 + (v3 - 1)) v4) (st (163 + v3) (v4 - 1)))))), (5, .int (zI s0)), (0, .ref (a 0)), (3, .int (zI v3)), (4, .int (zI v4))] hc dX11_changesHere_52 (by decide) rfl ?_
  refine z_iload 0 hc dX11_changesHere_54 rfl ?_
  refine z_aload_n (i := 0) 2 hc dX11_changesHere_56 rfl rfl ?_
  refine z_getA (k' := 162) hc fl_RX11_77 tT_0 (by decide) rfl rfl dX11_changesHere_57 ?_
  refine z_iload_n (i := 3) 3 hc dX11_changesHere_60 rfl rfl ?_
  refine z_iconst hc dX11_changesHere_61 ?_
  refine z_isub hc dX11_changesHere_62 ?_
  refine z_aald (r := 163 + (v3 - 1)) (nI9 := 5) hc tT_162 (by decide) (by decide) rfl (by decide) (fun j9 hj9 => by omega) dX11_changesHere_63 h (fun g9 h => ?_)
  refine z_iload 4 hc dX11_changesHere_64 rfl ?_
  refine z_iconst hc dX11_changesHere_66 ?_
  refine z_isub hc dX11_changesHere_67 ?_
  refine z_iald (kI := 163 + (v3 - 1)) (nI9 := 5) hc (z_row_162 g9).2.2 (z_row_162 g9).2.1 (Int.toNat_of_nonneg (z_row_162 g9).1) rfl (by decide) dX11_changesHere_68 h (fun g10 h => ?_)
  refine z_iload 1 hc dX11_changesHere_69 rfl ?_
  refine z_iadd hc dX11_changesHere_71 ?_
  refine z_minI hc ml_RX11_389 h ⟨rfl, rfl, Nat.le_of_ble_eq_true rfl, by omega⟩ dX11_changesHere_72 (fun h => ?_)
  have h := Option.some.inj h
  subst h
  exact z_retI hc he dX11_changesHere_75
def J_X11_changesHere (x1 x2 x3 x4 : Int) (st : z_St) : Option (Int) :=
  z_b (J_X6_wordAt x1 (x3 - 1) st) fun r1 =>
  z_b (J_X6_wordAt x2 (x4 - 1) st) fun r3 =>
  z_g (z32 r1 ∧ z32 r3) (if r1 = r3 then
    J_X11_changesHere_23 x3 x4 0 st
  else
    J_X11_changesHere_23 x3 x4 1 st)
set_option maxRecDepth 100000 in
set_option maxHeartbeats 4000000 in
theorem w_X11_changesHere {κ : zK} {a : Nat → Nat} {x1 x2 x3 x4 : Int} {st : z_St} {o : Int} (hc : z_C κ RX11 cX11_changesHere 7 9 0 0) (hap : z_AP κ a z_N) (hx1 : z_isRW x1) (hx2 : z_isRW x2) (he : z_E 0 κ (some .int) z_T z_N a o st) (h : J_X11_changesHere x1 x2 x3 x4 st = some o) : z_V κ z_T z_N a 0 0 0 [(0, .ref (a 0)), (1, .ref (a x1.toNat)), (2, .ref (a x2.toNat)), (3, .int (zI x3)), (4, .int (zI x4))] [] st := by
  unfold J_X11_changesHere at h
  refine z_aload_n (i := 1) 1 hc dX11_changesHere_0 rfl rfl ?_
  refine z_iload_n (i := 3) 3 hc dX11_changesHere_1 rfl rfl ?_
  refine z_iconst hc dX11_changesHere_2 ?_
  refine z_isub hc dX11_changesHere_3 ?_
  obtain ⟨r1, hr1, h⟩ := z_b_some h
  refine z_callVI [.int (zI (x3 - 1))] hc hap o_X6_wordAt ml_RX11_235 (fun l hl => c_X6_wordAt hl hx1 hr1) (by decide) (z_RW_T hx1) (z_RW_lt hx1) ⟨_, rfl, rfl⟩ rfl rfl (Nat.le_of_ble_eq_true rfl) (Nat.zero_le _) (Nat.zero_le _) dX11_changesHere_4 ?_
  refine z_aload_n (i := 2) 2 hc dX11_changesHere_7 rfl rfl ?_
  refine z_iload 4 hc dX11_changesHere_8 rfl ?_
  refine z_iconst hc dX11_changesHere_10 ?_
  refine z_isub hc dX11_changesHere_11 ?_
  obtain ⟨r3, hr3, h⟩ := z_b_some h
  refine z_callVI [.int (zI (x4 - 1))] hc hap o_X6_wordAt ml_RX11_235 (fun l hl => c_X6_wordAt hl hx2 hr3) (by decide) (z_RW_T hx2) (z_RW_lt hx2) ⟨_, rfl, rfl⟩ rfl rfl (Nat.le_of_ble_eq_true rfl) (Nat.zero_le _) (Nat.zero_le _) dX11_changesHere_12 ?_
  refine z_icmp_ne (tgt := 22) hc dX11_changesHere_15 (by decide) h (fun c15 h => ?_) (fun c15 h => ?_)
  · refine z_iconst hc dX11_changesHere_18 ?_
    refine z_goto (tgt := 23) hc dX11_changesHere_19 (by decide) ?_
    refine z_sub [(0, .ref (a 0)), (3, .int (zI x3)), (4, .int (zI x4))] [0, 3, 4] rfl ?_
    exact w_X11_changesHere_23 hc hap he h
  · refine z_iconst hc dX11_changesHere_22 ?_
    refine z_sub [(0, .ref (a 0)), (3, .int (zI x3)), (4, .int (zI x4))] [0, 3, 4] rfl ?_
    exact w_X11_changesHere_23 hc hap he h
set_option maxRecDepth 100000 in
set_option maxHeartbeats 4000000 in
theorem c_X11_changesHere {l : Launch} (hl : l.stackTraces = false) {a : Nat → Nat} {x1 x2 x3 x4 : Int} {st : z_St} {o : Int} (hx1 : z_isRW x1) (hx2 : z_isRW x2) (h : J_X11_changesHere x1 x2 x3 x4 st = some o) : z_M 0 l yX11_changesHere cX11_changesHere 7 (some .int) 9 z_T z_N a [.ref (a 0), .ref (a x1.toNat), .ref (a x2.toNat), .int (zI x3), .int (zI x4)] st o st := z_of hl (by decide +kernel) (Nat.le_of_ble_eq_true rfl) (fun κ hc hap he => w_X11_changesHere hc hap hx1 hx2 he h)
theorem dX11_fewestChanges_0 : decode cX11_fewestChanges 0 = .ok (.iconst 0, 1) := by decide +kernel
theorem dX11_fewestChanges_1 : decode cX11_fewestChanges 1 = .ok (.istore_n 3, 1) := by decide +kernel
theorem dX11_fewestChanges_2 : decode cX11_fewestChanges 2 = .ok (.iload_n 3, 1) := by decide +kernel
theorem dX11_fewestChanges_3 : decode cX11_fewestChanges 3 = .ok (.aload_n 1, 1) := by decide +kernel
theorem dX11_fewestChanges_4 : decode cX11_fewestChanges 4 = .ok (.getfield 234, 3) := by decide +kernel
theorem dX11_fewestChanges_7 : decode cX11_fewestChanges 7 = .ok (.if_icmp .gt 61, 3) := by decide +kernel
theorem dX11_fewestChanges_10 : decode cX11_fewestChanges 10 = .ok (.iconst 0, 1) := by decide +kernel
theorem dX11_fewestChanges_11 : decode cX11_fewestChanges 11 = .ok (.istore 4, 2) := by decide +kernel
theorem dX11_fewestChanges_13 : decode cX11_fewestChanges 13 = .ok (.iload 4, 2) := by decide +kernel
theorem dX11_fewestChanges_15 : decode cX11_fewestChanges 15 = .ok (.aload_n 2, 1) := by decide +kernel
theorem dX11_fewestChanges_16 : decode cX11_fewestChanges 16 = .ok (.getfield 234, 3) := by decide +kernel
theorem dX11_fewestChanges_19 : decode cX11_fewestChanges 19 = .ok (.if_icmp .gt 43, 3) := by decide +kernel
theorem dX11_fewestChanges_22 : decode cX11_fewestChanges 22 = .ok (.aload_n 0, 1) := by decide +kernel
theorem dX11_fewestChanges_23 : decode cX11_fewestChanges 23 = .ok (.getfield 77, 3) := by decide +kernel
theorem dX11_fewestChanges_26 : decode cX11_fewestChanges 26 = .ok (.iload_n 3, 1) := by decide +kernel
theorem dX11_fewestChanges_27 : decode cX11_fewestChanges 27 = .ok (.aaload, 1) := by decide +kernel
theorem dX11_fewestChanges_28 : decode cX11_fewestChanges 28 = .ok (.iload 4, 2) := by decide +kernel
theorem dX11_fewestChanges_30 : decode cX11_fewestChanges 30 = .ok (.iload_n 3, 1) := by decide +kernel
theorem dX11_fewestChanges_31 : decode cX11_fewestChanges 31 = .ok (.ifCond .eq 8, 3) := by decide +kernel
theorem dX11_fewestChanges_34 : decode cX11_fewestChanges 34 = .ok (.iload 4, 2) := by decide +kernel
theorem dX11_fewestChanges_36 : decode cX11_fewestChanges 36 = .ok (.ifCond .ne 10, 3) := by decide +kernel
theorem dX11_fewestChanges_39 : decode cX11_fewestChanges 39 = .ok (.iload_n 3, 1) := by decide +kernel
theorem dX11_fewestChanges_40 : decode cX11_fewestChanges 40 = .ok (.iload 4, 2) := by decide +kernel
theorem dX11_fewestChanges_42 : decode cX11_fewestChanges 42 = .ok (.iadd, 1) := by decide +kernel
theorem dX11_fewestChanges_43 : decode cX11_fewestChanges 43 = .ok (.goto 12, 3) := by decide +kernel
theorem dX11_fewestChanges_46 : decode cX11_fewestChanges 46 = .ok (.aload_n 0, 1) := by decide +kernel
theorem dX11_fewestChanges_47 : decode cX11_fewestChanges 47 = .ok (.aload_n 1, 1) := by decide +kernel
theorem dX11_fewestChanges_48 : decode cX11_fewestChanges 48 = .ok (.aload_n 2, 1) := by decide +kernel
theorem dX11_fewestChanges_49 : decode cX11_fewestChanges 49 = .ok (.iload_n 3, 1) := by decide +kernel
theorem dX11_fewestChanges_50 : decode cX11_fewestChanges 50 = .ok (.iload 4, 2) := by decide +kernel
theorem dX11_fewestChanges_52 : decode cX11_fewestChanges 52 = .ok (.invokevirtual 385, 3) := by decide +kernel
theorem dX11_fewestChanges_55 : decode cX11_fewestChanges 55 = .ok (.iastore, 1) := by decide +kernel
theorem dX11_fewestChanges_56 : decode cX11_fewestChanges 56 = .ok (.iinc 4 1, 3) := by decide +kernel
theorem dX11_fewestChanges_59 : decode cX11_fewestChanges 59 = .ok (.goto (-46), 3) := by decide +kernel
theorem dX11_fewestChanges_62 : decode cX11_fewestChanges 62 = .ok (.iinc 3 1, 3) := by decide +kernel
theorem dX11_fewestChanges_65 : decode cX11_fewestChanges 65 = .ok (.goto (-63), 3) := by decide +kernel
theorem dX11_fewestChanges_68 : decode cX11_fewestChanges 68 = .ok (.aload_n 0, 1) := by decide +kernel
theorem dX11_fewestChanges_69 : decode cX11_fewestChanges 69 = .ok (.getfield 77, 3) := by decide +kernel
theorem dX11_fewestChanges_72 : decode cX11_fewestChanges 72 = .ok (.aload_n 1, 1) := by decide +kernel
theorem dX11_fewestChanges_73 : decode cX11_fewestChanges 73 = .ok (.getfield 234, 3) := by decide +kernel
theorem dX11_fewestChanges_76 : decode cX11_fewestChanges 76 = .ok (.aaload, 1) := by decide +kernel
theorem dX11_fewestChanges_77 : decode cX11_fewestChanges 77 = .ok (.aload_n 2, 1) := by decide +kernel
theorem dX11_fewestChanges_78 : decode cX11_fewestChanges 78 = .ok (.getfield 234, 3) := by decide +kernel
theorem dX11_fewestChanges_81 : decode cX11_fewestChanges 81 = .ok (.iaload, 1) := by decide +kernel
theorem dX11_fewestChanges_82 : decode cX11_fewestChanges 82 = .ok (.ireturn, 1) := by decide +kernel
def J_X11_fewestChanges_55 (v1 v2 v3 v4 s0 s1 s2 : Int) (st : z_St) : Option ((Int × z_St) ⊕ z_St) :=
  z_g (0 ≤ s1 ∧ s1 < 5) <|
  z_let (z_up st s2 s1 s0) fun st2 =>
  some (.inl (v4 + 1, st2))
set_option maxRecDepth 100000 in
set_option maxHeartbeats 4000000 in
theorem w_X11_fewestChanges_55 {κ : zK} {a : Nat → Nat} {v1 v2 v3 v4 s0 s1 s2 : Int} {st : z_St} {mc9 ms9 : Nat} {o : (Int × z_St) ⊕ z_St} (hc : z_C κ RX11 cX11_fewestChanges 5 10 mc9 ms9) (hap : z_AP κ a z_N) (hv1 : z_isRW v1) (hv2 : z_isRW v2) (hs2 : z_isArr s2 0 0 5) (k1 : ∀ s9 : (Int × z_St), o = .inl s9 → z_V κ z_T z_N a 0 0 13 [(0, .ref (a 0)), (1, .ref (a v1.toNat)), (2, .ref (a v2.toNat)), (3, .int (zI v3)), (4, .int (zI s9.1))] [] s9.2) (k2 : ∀ x9 : z_St, o = .inr x9 → z_V κ z_T z_N a 0 0 62 [(0, .ref (a 0)), (1, .ref (a v1.toNat)), (2, .ref (a v2.toNat)), (3, .int (zI v3))] [] x9) (h : J_X11_fewestChanges_55 v1 v2 v3 v4 s0 s1 s2 st = some o) : z_V κ z_T z_N a 0 0 55 [(0, .ref (a 0)), (1, .ref (a v1.toNat)), (2, .ref (a v2.toNat)), (3, .int (zI v3)), (4, .int (zI v4))] [.int (zI s0), .int (zI s1), .ref (a s2.toNat)] st := by
  unfold J_X11_fewestChanges_55 at h
  refine z_iast (kI := s2) (nI9 := 5) hc hap hs2.2.2 hs2.2.1 (Int.toNat_of_nonneg hs2.1) rfl (by decide) dX11_fewestChanges_55 h (fun st2 h => ?_)
  refine z_iinc [(4, .int (zI (v4 + 1))), (0, .ref (a 0)), (1, .ref (a v1.toNat)), (2, .ref (a v2.toNat)), (3, .int (zI v3))] 4 hc dX11_fewestChanges_56 rfl (by decide) rfl ?_
  refine z_goto (tgt := 13) hc dX11_fewestChanges_59 (by decide) ?_
  refine z_sub [(0, .ref (a 0)), (1, .ref (a v1.toNat)), (2, .ref (a v2.toNat)), (3, .int (zI v3)), (4, .int (zI (v4 + 1)))] [1, 2, 3, 4, 0] rfl ?_
  exact k1 _ (Option.some.inj h).symm
def J_X11_fewestChanges_39 (v1 v2 v3 v4 s0 s1 : Int) (st : z_St) : Option ((Int × z_St) ⊕ z_St) :=
  J_X11_fewestChanges_55 v1 v2 v3 v4 (v3 + v4) s0 s1 st
set_option maxRecDepth 100000 in
set_option maxHeartbeats 4000000 in
theorem w_X11_fewestChanges_39 {κ : zK} {a : Nat → Nat} {v1 v2 v3 v4 s0 s1 : Int} {st : z_St} {mc9 ms9 : Nat} {o : (Int × z_St) ⊕ z_St} (hc : z_C κ RX11 cX11_fewestChanges 5 10 mc9 ms9) (hap : z_AP κ a z_N) (hv1 : z_isRW v1) (hv2 : z_isRW v2) (hs1 : z_isArr s1 0 0 5) (k1 : ∀ s9 : (Int × z_St), o = .inl s9 → z_V κ z_T z_N a 0 0 13 [(0, .ref (a 0)), (1, .ref (a v1.toNat)), (2, .ref (a v2.toNat)), (3, .int (zI v3)), (4, .int (zI s9.1))] [] s9.2) (k2 : ∀ x9 : z_St, o = .inr x9 → z_V κ z_T z_N a 0 0 62 [(0, .ref (a 0)), (1, .ref (a v1.toNat)), (2, .ref (a v2.toNat)), (3, .int (zI v3))] [] x9) (h : J_X11_fewestChanges_39 v1 v2 v3 v4 s0 s1 st = some o) : z_V κ z_T z_N a 0 0 39 [(0, .ref (a 0)), (1, .ref (a v1.toNat)), (2, .ref (a v2.toNat)), (3, .int (zI v3)), (4, .int (zI v4))] [.int (zI s0), .ref (a s1.toNat)] st := by
  unfold J_X11_fewestChanges_39 at h
  refine z_iload_n (i := 3) 3 hc dX11_fewestChanges_39 rfl rfl ?_
  refine z_iload 4 hc dX11_fewestChanges_40 rfl ?_
  refine z_iadd hc dX11_fewestChanges_42 ?_
  refine z_goto (tgt := 55) hc dX11_fewestChanges_43 (by decide) ?_
  refine z_sub [(0, .ref (a 0)), (1, .ref (a v1.toNat)), (2, .ref (a v2.toNat)), (3, .int (zI v3)), (4, .int (zI v4))] [0, 1, 2, 3, 4] rfl ?_
  exact w_X11_fewestChanges_55 hc hap hv1 hv2 hs1 k1 k2 h
def J_X11_fewestChanges_b13 (v1 v2 v3 v4 : Int) (st : z_St) : Option ((Int × z_St) ⊕ z_St) :=
  z_g (z32 v4 ∧ z32 (st v2 1)) (if st v2 1 < v4 then
    some (.inr st)
  else
    z_g (0 ≤ v3 ∧ v3 < 5) <|
    z_g (z32 v3) (if v3 = 0 then
      J_X11_fewestChanges_39 v1 v2 v3 v4 v4 (163 + v3) st
    else
      z_g (z32 v4) (if v4 = 0 then
        J_X11_fewestChanges_39 v1 v2 v3 v4 v4 (163 + v3) st
      else
        z_b (J_X11_changesHere v1 v2 v3 v4 st) fun r3 =>
        J_X11_fewestChanges_55 v1 v2 v3 v4 r3 v4 (163 + v3) st)))
set_option maxRecDepth 100000 in
set_option maxHeartbeats 4000000 in
theorem w_X11_fewestChanges_b13 {κ : zK} {a : Nat → Nat} {v1 v2 v3 v4 : Int} {st : z_St} {mc9 ms9 : Nat} {o : (Int × z_St) ⊕ z_St} (hc : z_C κ RX11 cX11_fewestChanges 5 10 mc9 ms9) (hap : z_AP κ a z_N) (hv1 : z_isRW v1) (hv2 : z_isRW v2) (k1 : ∀ s9 : (Int × z_St), o = .inl s9 → z_V κ z_T z_N a 0 0 13 [(0, .ref (a 0)), (1, .ref (a v1.toNat)), (2, .ref (a v2.toNat)), (3, .int (zI v3)), (4, .int (zI s9.1))] [] s9.2) (k2 : ∀ x9 : z_St, o = .inr x9 → z_V κ z_T z_N a 0 0 62 [(0, .ref (a 0)), (1, .ref (a v1.toNat)), (2, .ref (a v2.toNat)), (3, .int (zI v3))] [] x9) (h : J_X11_fewestChanges_b13 v1 v2 v3 v4 st = some o) : z_V κ z_T z_N a 0 0 13 [(0, .ref (a 0)), (1, .ref (a v1.toNat)), (2, .ref (a v2.toNat)), (3, .int (zI v3)), (4, .int (zI v4))] [] st := by
  unfold J_X11_fewestChanges_b13 at h
  refine z_iload 4 hc dX11_fewestChanges_13 rfl ?_
  refine z_aload_n (i := 2) 2 hc dX11_fewestChanges_15 rfl rfl ?_
  refine z_getI (kI := v2) (jI := 1) hc fl_RX11_234 (z_RW_T hv2) (z_RW_lt hv2) (z_RW_c hv2) rfl rfl dX11_fewestChanges_16 ?_
  refine z_icmp_gt (tgt := 62) hc dX11_fewestChanges_19 (by decide) h (fun c19 h => ?_) (fun c19 h => ?_)
  · refine z_sub [(0, .ref (a 0)), (1, .ref (a v1.toNat)), (2, .ref (a v2.toNat)), (3, .int (zI v3))] [0, 1, 2, 3] rfl ?_
    exact k2 st (Option.some.inj h).symm
  · refine z_aload_n (i := 0) 0 hc dX11_fewestChanges_22 rfl rfl ?_
    refine z_getA (k' := 162) hc fl_RX11_77 tT_0 (by decide) rfl rfl dX11_fewestChanges_23 ?_
    refine z_iload_n (i := 3) 3 hc dX11_fewestChanges_26 rfl rfl ?_
    refine z_aald (r := 163 + v3) (nI9 := 5) hc tT_162 (by decide) (by decide) rfl (by decide) (fun j9 hj9 => by omega) dX11_fewestChanges_27 h (fun g1 h => ?_)
    refine z_iload 4 hc dX11_fewestChanges_28 rfl ?_
    refine z_iload_n (i := 3) 3 hc dX11_fewestChanges_30 rfl rfl ?_
    refine z_if_eq (tgt := 39) hc dX11_fewestChanges_31 (by decide) h (fun c31 h => ?_) (fun c31 h => ?_)
    · refine z_sub [(0, .ref (a 0)), (1, .ref (a v1.toNat)), (2, .ref (a v2.toNat)), (3, .int (zI v3)), (4, .int (zI v4))] [0, 1, 2, 3, 4] rfl ?_
      exact w_X11_fewestChanges_39 hc hap hv1 hv2 (z_row_162 g1) k1 k2 h
    · refine z_iload 4 hc dX11_fewestChanges_34 rfl ?_
      refine z_if_ne (tgt := 46) hc dX11_fewestChanges_36 (by decide) h (fun c36 h => ?_) (fun c36 h => ?_)
      · refine z_sub [(0, .ref (a 0)), (1, .ref (a v1.toNat)), (2, .ref (a v2.toNat)), (3, .int (zI v3)), (4, .int (zI v4))] [0, 1, 2, 3, 4] rfl ?_
        exact w_X11_fewestChanges_39 hc hap hv1 hv2 (z_row_162 g1) k1 k2 h
      · refine z_aload_n (i := 0) 0 hc dX11_fewestChanges_46 rfl rfl ?_
        refine z_aload_n (i := 1) 1 hc dX11_fewestChanges_47 rfl rfl ?_
        refine z_aload_n (i := 2) 2 hc dX11_fewestChanges_48 rfl rfl ?_
        refine z_iload_n (i := 3) 3 hc dX11_fewestChanges_49 rfl rfl ?_
        refine z_iload 4 hc dX11_fewestChanges_50 rfl ?_
        obtain ⟨r3, hr3, h⟩ := z_b_some h
        refine z_callVI [.ref (a v1.toNat), .ref (a v2.toNat), .int (zI v3), .int (zI v4)] hc hap o_X11_changesHere ml_RX11_385 (fun l hl => c_X11_changesHere hl hv1 hv2 hr3) (by decide) tT_0 (by decide) ⟨_, rfl, rfl⟩ rfl rfl (Nat.le_of_ble_eq_true rfl) (Nat.zero_le _) (Nat.zero_le _) dX11_fewestChanges_52 ?_
        refine z_sub [(0, .ref (a 0)), (1, .ref (a v1.toNat)), (2, .ref (a v2.toNat)), (3, .int (zI v3)), (4, .int (zI v4))] [0, 1, 2, 3, 4] rfl ?_
        exact w_X11_fewestChanges_55 hc hap hv1 hv2 (z_row_162 g1) k1 k2 h
def J_X11_fewestChanges_b2 (v1 v2 v3 : Int) (st : z_St) : Option ((Int × z_St) ⊕ z_St) :=
  z_g (z32 v3 ∧ z32 (st v1 1)) (if st v1 1 < v3 then
    some (.inr st)
  else
    z_b (z_iter z_F (fun q9 : (Int × z_St) => J_X11_fewestChanges_b13 v1 v2 v3 q9.1 q9.2) (0, st)) fun lx5 =>
      some (.inl (v3 + 1, lx5)))
set_option maxRecDepth 100000 in
set_option maxHeartbeats 4000000 in
theorem w_X11_fewestChanges_b2 {κ : zK} {a : Nat → Nat} {v1 v2 v3 : Int} {st : z_St} {mc9 ms9 : Nat} {o : (Int × z_St) ⊕ z_St} (hc : z_C κ RX11 cX11_fewestChanges 5 10 mc9 ms9) (hap : z_AP κ a z_N) (hv1 : z_isRW v1) (hv2 : z_isRW v2) (k1 : ∀ s9 : (Int × z_St), o = .inl s9 → z_V κ z_T z_N a 0 0 2 [(0, .ref (a 0)), (1, .ref (a v1.toNat)), (2, .ref (a v2.toNat)), (3, .int (zI s9.1))] [] s9.2) (k2 : ∀ x9 : z_St, o = .inr x9 → z_V κ z_T z_N a 0 0 68 [(0, .ref (a 0)), (1, .ref (a v1.toNat)), (2, .ref (a v2.toNat))] [] x9) (h : J_X11_fewestChanges_b2 v1 v2 v3 st = some o) : z_V κ z_T z_N a 0 0 2 [(0, .ref (a 0)), (1, .ref (a v1.toNat)), (2, .ref (a v2.toNat)), (3, .int (zI v3))] [] st := by
  unfold J_X11_fewestChanges_b2 at h
  refine z_iload_n (i := 3) 3 hc dX11_fewestChanges_2 rfl rfl ?_
  refine z_aload_n (i := 1) 1 hc dX11_fewestChanges_3 rfl rfl ?_
  refine z_getI (kI := v1) (jI := 1) hc fl_RX11_234 (z_RW_T hv1) (z_RW_lt hv1) (z_RW_c hv1) rfl rfl dX11_fewestChanges_4 ?_
  refine z_icmp_gt (tgt := 68) hc dX11_fewestChanges_7 (by decide) h (fun c7 h => ?_) (fun c7 h => ?_)
  · refine z_sub [(0, .ref (a 0)), (1, .ref (a v1.toNat)), (2, .ref (a v2.toNat))] [0, 1, 2] rfl ?_
    exact k2 st (Option.some.inj h).symm
  · refine z_iconst hc dX11_fewestChanges_10 ?_
    refine z_istore [(4, .int (zI 0)), (0, .ref (a 0)), (1, .ref (a v1.toNat)), (2, .ref (a v2.toNat)), (3, .int (zI v3))] hc dX11_fewestChanges_11 (by decide) rfl ?_
    obtain ⟨lx5, hlx5, h⟩ := z_b_some h
    refine z_sub [(0, .ref (a 0)), (1, .ref (a v1.toNat)), (2, .ref (a v2.toNat)), (3, .int (zI v3)), (4, .int (zI 0))] [1, 2, 3, 4, 0] rfl ?_
    refine z_loop (fun q9 : (Int × z_St) => J_X11_fewestChanges_b13 v1 v2 v3 q9.1 q9.2) (fun q9 : (Int × z_St) => z_V κ z_T z_N a 0 0 13 [(0, .ref (a 0)), (1, .ref (a v1.toNat)), (2, .ref (a v2.toNat)), (3, .int (zI v3)), (4, .int (zI q9.1))] [] q9.2) (fun x9 : z_St => z_V κ z_T z_N a 0 0 62 [(0, .ref (a 0)), (1, .ref (a v1.toNat)), (2, .ref (a v2.toNat)), (3, .int (zI v3))] [] x9) (fun q9 o9 hb k1 k2 => ?_) _ _ _ hlx5 ?_
    · exact w_X11_fewestChanges_b13 hc hap hv1 hv2 k1 k2 hb
    · show z_V κ z_T z_N a 0 0 62 [(0, .ref (a 0)), (1, .ref (a v1.toNat)), (2, .ref (a v2.toNat)), (3, .int (zI v3))] [] lx5
      refine z_iinc [(3, .int (zI (v3 + 1))), (0, .ref (a 0)), (1, .ref (a v1.toNat)), (2, .ref (a v2.toNat))] 3 hc dX11_fewestChanges_62 rfl (by decide) rfl ?_
      refine z_goto (tgt := 2) hc dX11_fewestChanges_65 (by decide) ?_
      refine z_sub [(0, .ref (a 0)), (1, .ref (a v1.toNat)), (2, .ref (a v2.toNat)), (3, .int (zI (v3 + 1)))] [1, 2, 3, 0] rfl ?_
      exact k1 _ (Option.some.inj h).symm
def J_X11_fewestChanges (x1 x2 : Int) (st : z_St) : Option (Int × z_St) :=
  z_b (z_iter z_F (fun q9 : (Int × z_St) => J_X11_fewestChanges_b2 x1 x2 q9.1 q9.2) (0, st)) fun lx6 =>
    z_g (0 ≤ lx6 x1 1 ∧ lx6 x1 1 < 5) <|
    z_g (0 ≤ lx6 x2 1 ∧ lx6 x2 1 < 5) <|
    some (lx6 (163 + (lx6 x1 1)) (lx6 x2 1), lx6)
set_option maxRecDepth 100000 in
set_option maxHeartbeats 4000000 in
theorem w_X11_fewestChanges {κ : zK} {a : Nat → Nat} {x1 x2 : Int} {st : z_St} {o : Int × z_St} (hc : z_C κ RX11 cX11_fewestChanges 5 10 0 0) (hap : z_AP κ a z_N) (hx1 : z_isRW x1) (hx2 : z_isRW x2) (he : z_E 0 κ (some .int) z_T z_N a o.1 o.2) (h : J_X11_fewestChanges x1 x2 st = some o) : z_V κ z_T z_N a 0 0 0 [(0, .ref (a 0)), (1, .ref (a x1.toNat)), (2, .ref (a x2.toNat))] [] st := by
  unfold J_X11_fewestChanges at h
  refine z_iconst hc dX11_fewestChanges_0 ?_
  refine z_istore_n (i := 3) [(3, .int (zI 0)), (0, .ref (a 0)), (1, .ref (a x1.toNat)), (2, .ref (a x2.toNat))] hc dX11_fewestChanges_1 rfl (by decide) rfl ?_
  obtain ⟨lx6, hlx6, h⟩ := z_b_some h
  refine z_sub [(0, .ref (a 0)), (1, .ref (a x1.toNat)), (2, .ref (a x2.toNat)), (3, .int (zI 0))] [1, 2, 3, 0] rfl ?_
  refine z_loop (fun q9 : (Int × z_St) => J_X11_fewestChanges_b2 x1 x2 q9.1 q9.2) (fun q9 : (Int × z_St) => z_V κ z_T z_N a 0 0 2 [(0, .ref (a 0)), (1, .ref (a x1.toNat)), (2, .ref (a x2.toNat)), (3, .int (zI q9.1))] [] q9.2) (fun x9 : z_St => z_V κ z_T z_N a 0 0 68 [(0, .ref (a 0)), (1, .ref (a x1.toNat)), (2, .ref (a x2.toNat))] [] x9) (fun q9 o9 hb k1 k2 => ?_) _ _ _ hlx6 ?_
  · exact w_X11_fewestChanges_b2 hc hap hx1 hx2 k1 k2 hb
  · show z_V κ z_T z_N a 0 0 68 [(0, .ref (a 0)), (1, .ref (a x1.toNat)), (2, .ref (a x2.toNat))] [] lx6
    refine z_aload_n (i := 0) 0 hc dX11_fewestChanges_68 rfl rfl ?_
    refine z_getA (k' := 162) hc fl_RX11_77 tT_0 (by decide) rfl rfl dX11_fewestChanges_69 ?_
    refine z_aload_n (i := 1) 1 hc dX11_fewestChanges_72 rfl rfl ?_
    refine z_getI (kI := x1) (jI := 1) hc fl_RX11_234 (z_RW_T hx1) (z_RW_lt hx1) (z_RW_c hx1) rfl rfl dX11_fewestChanges_73 ?_
    refine z_aald (r := 163 + (lx6 x1 1)) (nI9 := 5) hc tT_162 (by decide) (by decide) rfl (by decide) (fun j9 hj9 => by omega) dX11_fewestChanges_76 h (fun g7 h => ?_)
    refine z_aload_n (i := 2) 2 hc dX11_fewestChanges_77 rfl rfl ?_
    refine z_getI (kI := x2) (jI := 1) hc fl_RX11_234 (z_RW_T hx2) (z_RW_lt hx2) (z_RW_c hx2) rfl rfl dX11_fewestChanges_78 ?_
    refine z_iald (kI := 163 + (lx6 x1 1)) (nI9 := 5) hc (z_row_162 g7).2.2 (z_row_162 g7).2.1 (Int.toNat_of_nonneg (z_row_162 g7).1) rfl (by decide) dX11_fewestChanges_81 h (fun g8 h => ?_)
    have h := Option.some.inj h
    subst h
    exact z_retI hc he dX11_fewestChanges_82
set_option maxRecDepth 100000 in
set_option maxHeartbeats 4000000 in
theorem c_X11_fewestChanges {l : Launch} (hl : l.stackTraces = false) {a : Nat → Nat} {x1 x2 : Int} {st : z_St} {o : Int × z_St} (hx1 : z_isRW x1) (hx2 : z_isRW x2) (h : J_X11_fewestChanges x1 x2 st = some o) : z_M 0 l yX11_fewestChanges cX11_fewestChanges 5 (some .int) 10 z_T z_N a [.ref (a 0), .ref (a x1.toNat), .ref (a x2.toNat)] st o.1 o.2 := z_of hl (by decide +kernel) (Nat.le_of_ble_eq_true rfl) (fun κ hc hap he => w_X11_fewestChanges hc hap hx1 hx2 he h)
theorem dX11_errors_0 : decode cX11_errors 0 = .ok (.aload_n 0, 1) := by decide +kernel
theorem dX11_errors_1 : decode cX11_errors 1 = .ok (.iload_n 1, 1) := by decide +kernel
theorem dX11_errors_2 : decode cX11_errors 2 = .ok (.invokevirtual 227, 3) := by decide +kernel
theorem dX11_errors_5 : decode cX11_errors 5 = .ok (.aload_n 0, 1) := by decide +kernel
theorem dX11_errors_6 : decode cX11_errors 6 = .ok (.invokevirtual 118, 3) := by decide +kernel
theorem dX11_errors_9 : decode cX11_errors 9 = .ok (.aload_n 0, 1) := by decide +kernel
theorem dX11_errors_10 : decode cX11_errors 10 = .ok (.getfield 72, 3) := by decide +kernel
theorem dX11_errors_13 : decode cX11_errors 13 = .ok (.aload_n 0, 1) := by decide +kernel
theorem dX11_errors_14 : decode cX11_errors 14 = .ok (.getfield 40, 3) := by decide +kernel
theorem dX11_errors_17 : decode cX11_errors 17 = .ok (.iconst 0, 1) := by decide +kernel
theorem dX11_errors_18 : decode cX11_errors 18 = .ok (.invokevirtual 270, 3) := by decide +kernel
theorem dX11_errors_21 : decode cX11_errors 21 = .ok (.invokevirtual 231, 3) := by decide +kernel
theorem dX11_errors_24 : decode cX11_errors 24 = .ok (.aload_n 0, 1) := by decide +kernel
theorem dX11_errors_25 : decode cX11_errors 25 = .ok (.getfield 68, 3) := by decide +kernel
theorem dX11_errors_28 : decode cX11_errors 28 = .ok (.iload_n 1, 1) := by decide +kernel
theorem dX11_errors_29 : decode cX11_errors 29 = .ok (.invokevirtual 231, 3) := by decide +kernel
theorem dX11_errors_32 : decode cX11_errors 32 = .ok (.aload_n 0, 1) := by decide +kernel
theorem dX11_errors_33 : decode cX11_errors 33 = .ok (.aload_n 0, 1) := by decide +kernel
theorem dX11_errors_34 : decode cX11_errors 34 = .ok (.getfield 72, 3) := by decide +kernel
theorem dX11_errors_37 : decode cX11_errors 37 = .ok (.aload_n 0, 1) := by decide +kernel
theorem dX11_errors_38 : decode cX11_errors 38 = .ok (.getfield 68, 3) := by decide +kernel
theorem dX11_errors_41 : decode cX11_errors 41 = .ok (.invokevirtual 312, 3) := by decide +kernel
theorem dX11_errors_44 : decode cX11_errors 44 = .ok (.ireturn, 1) := by decide +kernel
def J_X11_errors (x1 : Int) (st : z_St) : Option (z_R (Int × z_St)) :=
  z_x (J_X11_checkRow x1 st) fun _ =>
    z_x (J_X11_checkBest st) fun st4 =>
      z_b (J_X5_numberAt 0 st4) fun r5 =>
      z_b (J_X6_read 160 r5.1 r5.2) fun st8 =>
      z_b (J_X6_read 158 x1 st8) fun st10 =>
      z_b (J_X11_fewestChanges 160 158 st10) fun r11 =>
      some (.inl (r11.1, r11.2))
set_option maxRecDepth 100000 in
set_option maxHeartbeats 4000000 in
theorem w_X11_errors {κ : zK} {a : Nat → Nat} {x1 : Int} {st : z_St} {o : z_R (Int × z_St)} (hc : z_C κ RX11 cX11_errors 2 14 (z_mc o) (z_ms o)) (hap : z_AP κ a z_N) (he : z_EX 0 κ (some .int) z_T z_N a o) (h : J_X11_errors x1 st = some o) : z_V κ z_T z_N a 0 0 0 [(0, .ref (a 0)), (1, .int (zI x1))] [] st := by
  unfold J_X11_errors at h
  refine z_aload_n (i := 0) 0 hc dX11_errors_0 rfl rfl ?_
  refine z_iload_n (i := 1) 1 hc dX11_errors_1 rfl rfl ?_
  rcases z_x_cases h with ⟨u9, hr1, h⟩ | ⟨q9, hr1, h⟩
  · refine z_xcallVV [.int (zI x1)] hc hap o_X11_checkRow ml_RX11_227 (fun l hl => c_X11_checkRow_r hl  hr1) (by decide) tT_0 (by decide) ⟨_, rfl, rfl⟩ rfl rfl (Nat.le_of_ble_eq_true rfl) (Nat.zero_le _) (Nat.zero_le _) dX11_errors_2 ?_
    refine z_aload_n (i := 0) 0 hc dX11_errors_5 rfl rfl ?_
    rcases z_x_cases h with ⟨st4, hr3, h⟩ | ⟨q9, hr3, h⟩
    · refine z_xcallVV [] hc hap o_X11_checkBest ml_RX11_118 (fun l hl => c_X11_checkBest_r hl  hr3) (by decide) tT_0 (by decide) ⟨_, rfl, rfl⟩ rfl rfl (Nat.le_of_ble_eq_true rfl) (Nat.zero_le _) (Nat.zero_le _) dX11_errors_6 ?_
      refine z_aload_n (i := 0) 0 hc dX11_errors_9 rfl rfl ?_
      refine z_getA (k' := 160) hc fl_RX11_72 tT_0 (by decide) rfl rfl dX11_errors_10 ?_
      refine z_aload_n (i := 0) 0 hc dX11_errors_13 rfl rfl ?_
      refine z_getA (k' := 134) hc fl_RX11_40 tT_0 (by decide) rfl rfl dX11_errors_14 ?_
      refine z_iconst hc dX11_errors_17 ?_
      obtain ⟨r5, hr5, h⟩ := z_b_some h
      refine z_callVI [.int (zI 0)] hc hap o_X5_numberAt ml_RX11_270 (fun l hl => c_X5_numberAt hl  hr5) (by decide) tT_134 (by decide) ⟨_, rfl, rfl⟩ rfl rfl (Nat.le_of_ble_eq_true rfl) (Nat.zero_le _) (Nat.zero_le _) dX11_errors_18 ?_
      obtain ⟨st8, hr7, h⟩ := z_b_some h
      refine z_callVV [.int (zI r5.1)] hc hap o_X6_read ml_RX11_231 (fun l hl => c_X6_read hl (by decide) hr7) (by decide) tT_160 (by decide) ⟨_, rfl, rfl⟩ rfl rfl (Nat.le_of_ble_eq_true rfl) (Nat.zero_le _) (Nat.zero_le _) dX11_errors_21 ?_
      refine z_aload_n (i := 0) 0 hc dX11_errors_24 rfl rfl ?_
      refine z_getA (k' := 158) hc fl_RX11_68 tT_0 (by decide) rfl rfl dX11_errors_25 ?_
      refine z_iload_n (i := 1) 1 hc dX11_errors_28 rfl rfl ?_
      obtain ⟨st10, hr9, h⟩ := z_b_some h
      refine z_callVV [.int (zI x1)] hc hap o_X6_read ml_RX11_231 (fun l hl => c_X6_read hl (by decide) hr9) (by decide) tT_158 (by decide) ⟨_, rfl, rfl⟩ rfl rfl (Nat.le_of_ble_eq_true rfl) (Nat.zero_le _) (Nat.zero_le _) dX11_errors_29 ?_
      refine z_aload_n (i := 0) 0 hc dX11_errors_32 rfl rfl ?_
      refine z_aload_n (i := 0) 0 hc dX11_errors_33 rfl rfl ?_
      refine z_getA (k' := 160) hc fl_RX11_72 tT_0 (by decide) rfl rfl dX11_errors_34 ?_
      refine z_aload_n (i := 0) 0 hc dX11_errors_37 rfl rfl ?_
      refine z_getA (k' := 158) hc fl_RX11_68 tT_0 (by decide) rfl rfl dX11_errors_38 ?_
      obtain ⟨r11, hr11, h⟩ := z_b_some h
      refine z_callVI [.ref (a 160), .ref (a 158)] hc hap o_X11_fewestChanges ml_RX11_312 (fun l hl => c_X11_fewestChanges hl (by decide) (by decide) hr11) (by decide) tT_0 (by decide) ⟨_, rfl, rfl⟩ rfl rfl (Nat.le_of_ble_eq_true rfl) (Nat.zero_le _) (Nat.zero_le _) dX11_errors_41 ?_
      have h := Option.some.inj h
      subst h
      exact z_retXI hc he rfl dX11_errors_44
    · obtain ⟨e9, st9⟩ := q9
      subst h
      refine z_xthrV (kd := 2) [] hc hap o_X11_checkBest ml_RX11_118 (fun l hl => c_X11_checkBest_t hl  hr3) (by decide) tT_0 (by decide) ⟨_, rfl, rfl⟩ rfl rfl (Nat.le_of_ble_eq_true rfl) (Nat.le_refl 1) (Nat.le_refl 6) dX11_errors_6 (z_outX hc he rfl)
  · obtain ⟨e9, st9⟩ := q9
    subst h
    refine z_xthrV (kd := 2) [.int (zI x1)] hc hap o_X11_checkRow ml_RX11_227 (fun l hl => c_X11_checkRow_t hl  hr1) (by decide) tT_0 (by decide) ⟨_, rfl, rfl⟩ rfl rfl (Nat.le_of_ble_eq_true rfl) (Nat.le_refl 1) (Nat.le_refl 6) dX11_errors_2 (z_outX hc he rfl)
set_option maxRecDepth 100000 in
set_option maxHeartbeats 4000000 in
theorem c_X11_errors {l : Launch} (hl : l.stackTraces = false) {a : Nat → Nat} {x1 : Int} {st : z_St} {o : z_R (Int × z_St)} (h : J_X11_errors x1 st = some o) : z_MX 0 l yX11_errors cX11_errors 2 (some .int) 14 z_T z_N a [.ref (a 0), .int (zI x1)] st o := z_ofX hl (by decide +kernel) (Nat.le_of_ble_eq_true rfl) (fun κ hc hap he => w_X11_errors hc hap he h)
theorem c_X11_errors_r {l : Launch} (hl : l.stackTraces = false) {a : Nat → Nat} {x1 : Int} {st : z_St} {v9 : Int × z_St} (h : J_X11_errors x1 st = some (.inl v9)) : z_MX 0 l yX11_errors cX11_errors 2 (some .int) 14 z_T z_N a [.ref (a 0), .int (zI x1)] st (.inl v9) := by
  have h9 := c_X11_errors (a := a) (o := .inl v9) hl h
  exact h9
theorem c_X11_errors_t {l : Launch} (hl : l.stackTraces = false) {a : Nat → Nat} {x1 : Int} {st : z_St} {e9 : Nat} {st9 : z_St} (h : J_X11_errors x1 st = some (.inr (e9, st9))) : z_MX 0 l yX11_errors cX11_errors 2 (some .int) 14 z_T z_N a [.ref (a 0), .int (zI x1)] st (.inr (e9, st9)) := by
  have h9 := c_X11_errors (a := a) (o := .inr (e9, st9)) hl h
  exact h9
theorem dX11_sum_0 : decode cX11_sum 0 = .ok (.iload_n 1, 1) := by decide +kernel
theorem dX11_sum_1 : decode cX11_sum 1 = .ok (.iconst 0, 1) := by decide +kernel
theorem dX11_sum_2 : decode cX11_sum 2 = .ok (.bipush 8, 2) := by decide +kernel
theorem dX11_sum_4 : decode cX11_sum 4 = .ok (.invokestatic 112, 3) := by decide +kernel
theorem dX11_sum_7 : decode cX11_sum 7 = .ok (.iload_n 1, 1) := by decide +kernel
theorem dX11_sum_8 : decode cX11_sum 8 = .ok (.tableswitch 112 0 7 #[48, 56, 64, 72, 80, 88, 96, 104], 48) := by decide +kernel
theorem dX11_sum_56 : decode cX11_sum 56 = .ok (.aload_n 0, 1) := by decide +kernel
theorem dX11_sum_57 : decode cX11_sum 57 = .ok (.getfield 12, 3) := by decide +kernel
theorem dX11_sum_60 : decode cX11_sum 60 = .ok (.getfield 84, 3) := by decide +kernel
theorem dX11_sum_63 : decode cX11_sum 63 = .ok (.ireturn, 1) := by decide +kernel
theorem dX11_sum_64 : decode cX11_sum 64 = .ok (.aload_n 0, 1) := by decide +kernel
theorem dX11_sum_65 : decode cX11_sum 65 = .ok (.getfield 19, 3) := by decide +kernel
theorem dX11_sum_68 : decode cX11_sum 68 = .ok (.getfield 148, 3) := by decide +kernel
theorem dX11_sum_71 : decode cX11_sum 71 = .ok (.ireturn, 1) := by decide +kernel
theorem dX11_sum_72 : decode cX11_sum 72 = .ok (.aload_n 0, 1) := by decide +kernel
theorem dX11_sum_73 : decode cX11_sum 73 = .ok (.getfield 19, 3) := by decide +kernel
theorem dX11_sum_76 : decode cX11_sum 76 = .ok (.getfield 186, 3) := by decide +kernel
theorem dX11_sum_79 : decode cX11_sum 79 = .ok (.ireturn, 1) := by decide +kernel
theorem dX11_sum_80 : decode cX11_sum 80 = .ok (.aload_n 0, 1) := by decide +kernel
theorem dX11_sum_81 : decode cX11_sum 81 = .ok (.getfield 26, 3) := by decide +kernel
theorem dX11_sum_84 : decode cX11_sum 84 = .ok (.getfield 242, 3) := by decide +kernel
theorem dX11_sum_87 : decode cX11_sum 87 = .ok (.ireturn, 1) := by decide +kernel
theorem dX11_sum_88 : decode cX11_sum 88 = .ok (.aload_n 0, 1) := by decide +kernel
theorem dX11_sum_89 : decode cX11_sum 89 = .ok (.getfield 19, 3) := by decide +kernel
theorem dX11_sum_92 : decode cX11_sum 92 = .ok (.getfield 174, 3) := by decide +kernel
theorem dX11_sum_95 : decode cX11_sum 95 = .ok (.ireturn, 1) := by decide +kernel
theorem dX11_sum_96 : decode cX11_sum 96 = .ok (.aload_n 0, 1) := by decide +kernel
theorem dX11_sum_97 : decode cX11_sum 97 = .ok (.getfield 12, 3) := by decide +kernel
theorem dX11_sum_100 : decode cX11_sum 100 = .ok (.getfield 109, 3) := by decide +kernel
theorem dX11_sum_103 : decode cX11_sum 103 = .ok (.ireturn, 1) := by decide +kernel
theorem dX11_sum_104 : decode cX11_sum 104 = .ok (.aload_n 0, 1) := by decide +kernel
theorem dX11_sum_105 : decode cX11_sum 105 = .ok (.getfield 26, 3) := by decide +kernel
theorem dX11_sum_108 : decode cX11_sum 108 = .ok (.getfield 246, 3) := by decide +kernel
theorem dX11_sum_111 : decode cX11_sum 111 = .ok (.ireturn, 1) := by decide +kernel
theorem dX11_sum_112 : decode cX11_sum 112 = .ok (.aload_n 0, 1) := by decide +kernel
theorem dX11_sum_113 : decode cX11_sum 113 = .ok (.getfield 26, 3) := by decide +kernel
theorem dX11_sum_116 : decode cX11_sum 116 = .ok (.getfield 249, 3) := by decide +kernel
theorem dX11_sum_119 : decode cX11_sum 119 = .ok (.ireturn, 1) := by decide +kernel
theorem dX11_sum_120 : decode cX11_sum 120 = .ok (.aload_n 0, 1) := by decide +kernel
theorem dX11_sum_121 : decode cX11_sum 121 = .ok (.invokevirtual 141, 3) := by decide +kernel
theorem dX11_sum_124 : decode cX11_sum 124 = .ok (.aload_n 0, 1) := by decide +kernel
theorem dX11_sum_125 : decode cX11_sum 125 = .ok (.getfield 40, 3) := by decide +kernel
theorem dX11_sum_128 : decode cX11_sum 128 = .ok (.getfield 316, 3) := by decide +kernel
theorem dX11_sum_131 : decode cX11_sum 131 = .ok (.ireturn, 1) := by decide +kernel
def J_X11_sum (x1 : Int) (st : z_St) : Option (z_R (Int × z_St)) :=
  z_x (J_X11_checkRange x1 0 8 st) fun _ =>
    z_g (z32 x1) (
    if x1 = 0 then
      some (.inl (st 1 2, st))
    else
    if x1 = 1 then
      some (.inl (st 24 1, st))
    else
    if x1 = 2 then
      some (.inl (st 24 4, st))
    else
    if x1 = 3 then
      some (.inl (st 89 3, st))
    else
    if x1 = 4 then
      some (.inl (st 24 6, st))
    else
    if x1 = 5 then
      some (.inl (st 1 3, st))
    else
    if x1 = 6 then
      some (.inl (st 89 4, st))
    else
    if x1 = 7 then
      some (.inl (st 89 5, st))
    else
      z_b (J_X11_readyRows st) fun st4 =>
      some (.inl (st4 134 7, st4)))
set_option maxRecDepth 100000 in
set_option maxHeartbeats 4000000 in
theorem w_X11_sum {κ : zK} {a : Nat → Nat} {x1 : Int} {st : z_St} {o : z_R (Int × z_St)} (hc : z_C κ RX11 cX11_sum 2 13 (z_mc o) (z_ms o)) (hap : z_AP κ a z_N) (he : z_EX 0 κ (some .int) z_T z_N a o) (h : J_X11_sum x1 st = some o) : z_V κ z_T z_N a 0 0 0 [(0, .ref (a 0)), (1, .int (zI x1))] [] st := by
  unfold J_X11_sum at h
  refine z_iload_n (i := 1) 1 hc dX11_sum_0 rfl rfl ?_
  refine z_iconst hc dX11_sum_1 ?_
  refine z_bipush hc dX11_sum_2 rfl ?_
  rcases z_x_cases h with ⟨u9, hr1, h⟩ | ⟨q9, hr1, h⟩
  · refine z_xcallSV [.int (zI x1), .int (zI 0), .int (zI 8)] hc hap o_X11_checkRange ml_RX11_112 (fun l hl => c_X11_checkRange_r hl  hr1) (by decide) rfl rfl (Nat.le_of_ble_eq_true rfl) (Nat.zero_le _) (Nat.zero_le _) dX11_sum_4 ?_
    refine z_iload_n (i := 1) 1 hc dX11_sum_7 rfl rfl ?_
    obtain ⟨hsw, h⟩ := z_g_some h
    by_cases e0 : x1 = 0
    · rw [if_pos e0] at h
      refine z_swIn (tgt := 56) hc hsw dX11_sum_8 (by omega) (by omega) (by rw [e0]; rfl) (by decide) ?_
      refine z_aload_n (i := 0) 0 hc dX11_sum_56 rfl rfl ?_
      refine z_getA (k' := 1) hc fl_RX11_12 tT_0 (by decide) rfl rfl dX11_sum_57 ?_
      refine z_getI (kI := 1) (jI := 2) hc fl_RX11_84 tT_1 (by decide) rfl rfl rfl dX11_sum_60 ?_
      have h := Option.some.inj h
      subst h
      exact z_retXI hc he rfl dX11_sum_63
    rw [if_neg e0] at h
    by_cases e1 : x1 = 1
    · rw [if_pos e1] at h
      refine z_swIn (tgt := 64) hc hsw dX11_sum_8 (by omega) (by omega) (by rw [e1]; rfl) (by decide) ?_
      refine z_aload_n (i := 0) 0 hc dX11_sum_64 rfl rfl ?_
      refine z_getA (k' := 24) hc fl_RX11_19 tT_0 (by decide) rfl rfl dX11_sum_65 ?_
      refine z_getI (kI := 24) (jI := 1) hc fl_RX11_148 tT_24 (by decide) rfl rfl rfl dX11_sum_68 ?_
      have h := Option.some.inj h
      subst h
      exact z_retXI hc he rfl dX11_sum_71
    rw [if_neg e1] at h
    by_cases e2 : x1 = 2
    · rw [if_pos e2] at h
      refine z_swIn (tgt := 72) hc hsw dX11_sum_8 (by omega) (by omega) (by rw [e2]; rfl) (by decide) ?_
      refine z_aload_n (i := 0) 0 hc dX11_sum_72 rfl rfl ?_
      refine z_getA (k' := 24) hc fl_RX11_19 tT_0 (by decide) rfl rfl dX11_sum_73 ?_
      refine z_getI (kI := 24) (jI := 4) hc fl_RX11_186 tT_24 (by decide) rfl rfl rfl dX11_sum_76 ?_
      have h := Option.some.inj h
      subst h
      exact z_retXI hc he rfl dX11_sum_79
    rw [if_neg e2] at h
    by_cases e3 : x1 = 3
    · rw [if_pos e3] at h
      refine z_swIn (tgt := 80) hc hsw dX11_sum_8 (by omega) (by omega) (by rw [e3]; rfl) (by decide) ?_
      refine z_aload_n (i := 0) 0 hc dX11_sum_80 rfl rfl ?_
      refine z_getA (k' := 89) hc fl_RX11_26 tT_0 (by decide) rfl rfl dX11_sum_81 ?_
      refine z_getI (kI := 89) (jI := 3) hc fl_RX11_242 tT_89 (by decide) rfl rfl rfl dX11_sum_84 ?_
      have h := Option.some.inj h
      subst h
      exact z_retXI hc he rfl dX11_sum_87
    rw [if_neg e3] at h
    by_cases e4 : x1 = 4
    · rw [if_pos e4] at h
      refine z_swIn (tgt := 88) hc hsw dX11_sum_8 (by omega) (by omega) (by rw [e4]; rfl) (by decide) ?_
      refine z_aload_n (i := 0) 0 hc dX11_sum_88 rfl rfl ?_
      refine z_getA (k' := 24) hc fl_RX11_19 tT_0 (by decide) rfl rfl dX11_sum_89 ?_
      refine z_getI (kI := 24) (jI := 6) hc fl_RX11_174 tT_24 (by decide) rfl rfl rfl dX11_sum_92 ?_
      have h := Option.some.inj h
      subst h
      exact z_retXI hc he rfl dX11_sum_95
    rw [if_neg e4] at h
    by_cases e5 : x1 = 5
    · rw [if_pos e5] at h
      refine z_swIn (tgt := 96) hc hsw dX11_sum_8 (by omega) (by omega) (by rw [e5]; rfl) (by decide) ?_
      refine z_aload_n (i := 0) 0 hc dX11_sum_96 rfl rfl ?_
      refine z_getA (k' := 1) hc fl_RX11_12 tT_0 (by decide) rfl rfl dX11_sum_97 ?_
      refine z_getI (kI := 1) (jI := 3) hc fl_RX11_109 tT_1 (by decide) rfl rfl rfl dX11_sum_100 ?_
      have h := Option.some.inj h
      subst h
      exact z_retXI hc he rfl dX11_sum_103
    rw [if_neg e5] at h
    by_cases e6 : x1 = 6
    · rw [if_pos e6] at h
      refine z_swIn (tgt := 104) hc hsw dX11_sum_8 (by omega) (by omega) (by rw [e6]; rfl) (by decide) ?_
      refine z_aload_n (i := 0) 0 hc dX11_sum_104 rfl rfl ?_
      refine z_getA (k' := 89) hc fl_RX11_26 tT_0 (by decide) rfl rfl dX11_sum_105 ?_
      refine z_getI (kI := 89) (jI := 4) hc fl_RX11_246 tT_89 (by decide) rfl rfl rfl dX11_sum_108 ?_
      have h := Option.some.inj h
      subst h
      exact z_retXI hc he rfl dX11_sum_111
    rw [if_neg e6] at h
    by_cases e7 : x1 = 7
    · rw [if_pos e7] at h
      refine z_swIn (tgt := 112) hc hsw dX11_sum_8 (by omega) (by omega) (by rw [e7]; rfl) (by decide) ?_
      refine z_aload_n (i := 0) 0 hc dX11_sum_112 rfl rfl ?_
      refine z_getA (k' := 89) hc fl_RX11_26 tT_0 (by decide) rfl rfl dX11_sum_113 ?_
      refine z_getI (kI := 89) (jI := 5) hc fl_RX11_249 tT_89 (by decide) rfl rfl rfl dX11_sum_116 ?_
      have h := Option.some.inj h
      subst h
      exact z_retXI hc he rfl dX11_sum_119
    rw [if_neg e7] at h
    refine z_swOut (tgt := 120) hc hsw dX11_sum_8 (by omega) (by decide) ?_
    refine z_aload_n (i := 0) 0 hc dX11_sum_120 rfl rfl ?_
    obtain ⟨st4, hr3, h⟩ := z_b_some h
    refine z_callVV [] hc hap o_X11_readyRows ml_RX11_141 (fun l hl => c_X11_readyRows hl  hr3) (by decide) tT_0 (by decide) ⟨_, rfl, rfl⟩ rfl rfl (Nat.le_of_ble_eq_true rfl) (Nat.zero_le _) (Nat.zero_le _) dX11_sum_121 ?_
    refine z_aload_n (i := 0) 0 hc dX11_sum_124 rfl rfl ?_
    refine z_getA (k' := 134) hc fl_RX11_40 tT_0 (by decide) rfl rfl dX11_sum_125 ?_
    refine z_getI (kI := 134) (jI := 7) hc fl_RX11_316 tT_134 (by decide) rfl rfl rfl dX11_sum_128 ?_
    have h := Option.some.inj h
    subst h
    exact z_retXI hc he rfl dX11_sum_131
  · obtain ⟨e9, st9⟩ := q9
    subst h
    refine z_xthrS (kd := 2) [.int (zI x1), .int (zI 0), .int (zI 8)] hc hap o_X11_checkRange ml_RX11_112 (fun l hl => c_X11_checkRange_t hl  hr1) (by decide) rfl rfl (Nat.le_of_ble_eq_true rfl) (Nat.le_refl 1) (Nat.le_refl 6) dX11_sum_4 (z_outX hc he rfl)
set_option maxRecDepth 100000 in
set_option maxHeartbeats 4000000 in
theorem c_X11_sum {l : Launch} (hl : l.stackTraces = false) {a : Nat → Nat} {x1 : Int} {st : z_St} {o : z_R (Int × z_St)} (h : J_X11_sum x1 st = some o) : z_MX 0 l yX11_sum cX11_sum 2 (some .int) 13 z_T z_N a [.ref (a 0), .int (zI x1)] st o := z_ofX hl (by decide +kernel) (Nat.le_of_ble_eq_true rfl) (fun κ hc hap he => w_X11_sum hc hap he h)
theorem c_X11_sum_r {l : Launch} (hl : l.stackTraces = false) {a : Nat → Nat} {x1 : Int} {st : z_St} {v9 : Int × z_St} (h : J_X11_sum x1 st = some (.inl v9)) : z_MX 0 l yX11_sum cX11_sum 2 (some .int) 13 z_T z_N a [.ref (a 0), .int (zI x1)] st (.inl v9) := by
  have h9 := c_X11_sum (a := a) (o := .inl v9) hl h
  exact h9
theorem c_X11_sum_t {l : Launch} (hl : l.stackTraces = false) {a : Nat → Nat} {x1 : Int} {st : z_St} {e9 : Nat} {st9 : z_St} (h : J_X11_sum x1 st = some (.inr (e9, st9))) : z_MX 0 l yX11_sum cX11_sum 2 (some .int) 13 z_T z_N a [.ref (a 0), .int (zI x1)] st (.inr (e9, st9)) := by
  have h9 := c_X11_sum (a := a) (o := .inr (e9, st9)) hl h
  exact h9
theorem dX12_thrown_0 : decode cX12_thrown 0 = .ok (.aload_n 0, 1) := by decide +kernel
theorem dX12_thrown_1 : decode cX12_thrown 1 = .ok (.getfield 109, 3) := by decide +kernel
theorem dX12_thrown_4 : decode cX12_thrown 4 = .ok (.ireturn, 1) := by decide +kernel
def J_X12_thrown (st : z_St) : Option (Int) :=
  some (st 168 0)
set_option maxRecDepth 100000 in
set_option maxHeartbeats 4000000 in
theorem w_X12_thrown {κ : zK} {a : Nat → Nat} {st : z_St} {o : Int} (hc : z_C κ RX12 cX12_thrown 1 8 0 0) (hap : z_AP κ a z_N) (he : z_E 0 κ (some .int) z_T z_N a o st) (h : J_X12_thrown st = some o) : z_V κ z_T z_N a 0 0 0 [(0, .ref (a 168))] [] st := by
  unfold J_X12_thrown at h
  refine z_aload_n (i := 0) 0 hc dX12_thrown_0 rfl rfl ?_
  refine z_getI (kI := 168) (jI := 0) hc fl_RX12_109 tT_168 (by decide) rfl rfl rfl dX12_thrown_1 ?_
  have h := Option.some.inj h
  subst h
  exact z_retI hc he dX12_thrown_4
set_option maxRecDepth 100000 in
set_option maxHeartbeats 4000000 in
theorem c_X12_thrown {l : Launch} (hl : l.stackTraces = false) {a : Nat → Nat} {st : z_St} {o : Int} (h : J_X12_thrown st = some o) : z_M 0 l yX12_thrown cX12_thrown 1 (some .int) 8 z_T z_N a [.ref (a 168)] st o st := z_of hl (by decide +kernel) (Nat.le_of_ble_eq_true rfl) (fun κ hc hap he => w_X12_thrown hc hap he h)
theorem dX12_holds_0 : decode cX12_holds 0 = .ok (.aload_n 0, 1) := by decide +kernel
theorem dX12_holds_1 : decode cX12_holds 1 = .ok (.iload_n 1, 1) := by decide +kernel
theorem dX12_holds_2 : decode cX12_holds 2 = .ok (.putfield 109, 3) := by decide +kernel
theorem dX12_holds_5 : decode cX12_holds 5 = .ok (.iload_n 1, 1) := by decide +kernel
theorem dX12_holds_6 : decode cX12_holds 6 = .ok (.ifCond .le 7, 3) := by decide +kernel
theorem dX12_holds_9 : decode cX12_holds 9 = .ok (.iconst 1, 1) := by decide +kernel
theorem dX12_holds_10 : decode cX12_holds 10 = .ok (.goto 4, 3) := by decide +kernel
theorem dX12_holds_13 : decode cX12_holds 13 = .ok (.iconst 0, 1) := by decide +kernel
theorem dX12_holds_14 : decode cX12_holds 14 = .ok (.ireturn, 1) := by decide +kernel
def J_X12_holds_14 (s0 : Int) (st : z_St) : Option (Int × z_St) :=
  z_g (s0 = 0 ∨ s0 = 1) <|
  some (s0, st)
set_option maxRecDepth 100000 in
set_option maxHeartbeats 4000000 in
theorem w_X12_holds_14 {κ : zK} {a : Nat → Nat} {s0 : Int} {st : z_St} {o : Int × z_St} (hc : z_C κ RX12 cX12_holds 2 8 0 0) (hap : z_AP κ a z_N) (he : z_E 0 κ (some .boolean) z_T z_N a o.1 o.2) (h : J_X12_holds_14 s0 st = some o) : z_V κ z_T z_N a 0 0 14 [] [.int (zI s0)] st := by
  unfold J_X12_holds_14 at h
  obtain ⟨hz, h⟩ := z_g_some h
  have h := Option.some.inj h
  subst h
  exact z_retZ hc he hz dX12_holds_14
def J_X12_holds (x1 : Int) (st : z_St) : Option (Int × z_St) :=
  z_let (z_up st 168 0 x1) fun st1 =>
  z_g (z32 x1) (if 0 < x1 then
    J_X12_holds_14 1 st1
  else
    J_X12_holds_14 0 st1)
set_option maxRecDepth 100000 in
set_option maxHeartbeats 4000000 in
theorem w_X12_holds {κ : zK} {a : Nat → Nat} {x1 : Int} {st : z_St} {o : Int × z_St} (hc : z_C κ RX12 cX12_holds 2 8 0 0) (hap : z_AP κ a z_N) (he : z_E 0 κ (some .boolean) z_T z_N a o.1 o.2) (h : J_X12_holds x1 st = some o) : z_V κ z_T z_N a 0 0 0 [(0, .ref (a 168)), (1, .int (zI x1))] [] st := by
  unfold J_X12_holds at h
  refine z_aload_n (i := 0) 0 hc dX12_holds_0 rfl rfl ?_
  refine z_iload_n (i := 1) 1 hc dX12_holds_1 rfl rfl ?_
  refine z_putI (kI := 168) (jI := 0) hc hap fp_RX12_109 tT_168 (by decide) rfl rfl rfl dX12_holds_2 h (fun st1 h => ?_)
  refine z_iload_n (i := 1) 1 hc dX12_holds_5 rfl rfl ?_
  refine z_if_le (tgt := 13) hc dX12_holds_6 (by decide) h (fun c6 h => ?_) (fun c6 h => ?_)
  · refine z_iconst hc dX12_holds_9 ?_
    refine z_goto (tgt := 14) hc dX12_holds_10 (by decide) ?_
    refine z_sub [] [] rfl ?_
    exact w_X12_holds_14 hc hap he h
  · refine z_iconst hc dX12_holds_13 ?_
    refine z_sub [] [] rfl ?_
    exact w_X12_holds_14 hc hap he h
set_option maxRecDepth 100000 in
set_option maxHeartbeats 4000000 in
theorem c_X12_holds {l : Launch} (hl : l.stackTraces = false) {a : Nat → Nat} {x1 : Int} {st : z_St} {o : Int × z_St} (h : J_X12_holds x1 st = some o) : z_M 0 l yX12_holds cX12_holds 2 (some .boolean) 8 z_T z_N a [.ref (a 168), .int (zI x1)] st o.1 o.2 := z_of hl (by decide +kernel) (Nat.le_of_ble_eq_true rfl) (fun κ hc hap he => w_X12_holds hc hap he h)
theorem dX12_in_0 : decode cX12_in 0 = .ok (.lload_n 1, 1) := by decide +kernel
theorem dX12_in_1 : decode cX12_in 1 = .ok (.lload_n 3, 1) := by decide +kernel
theorem dX12_in_2 : decode cX12_in 2 = .ok (.lcmp, 1) := by decide +kernel
theorem dX12_in_3 : decode cX12_in 3 = .ok (.ifCond .lt 14, 3) := by decide +kernel
theorem dX12_in_6 : decode cX12_in 6 = .ok (.lload_n 1, 1) := by decide +kernel
theorem dX12_in_7 : decode cX12_in 7 = .ok (.lload 5, 2) := by decide +kernel
theorem dX12_in_9 : decode cX12_in 9 = .ok (.lcmp, 1) := by decide +kernel
theorem dX12_in_10 : decode cX12_in 10 = .ok (.ifCond .gt 7, 3) := by decide +kernel
theorem dX12_in_13 : decode cX12_in 13 = .ok (.iconst 1, 1) := by decide +kernel
theorem dX12_in_14 : decode cX12_in 14 = .ok (.goto 4, 3) := by decide +kernel
theorem dX12_in_17 : decode cX12_in 17 = .ok (.iconst 0, 1) := by decide +kernel
theorem dX12_in_18 : decode cX12_in 18 = .ok (.ireturn, 1) := by decide +kernel
def J_X12_in_18 (s0 : Int) (st : z_St) : Option (Int) :=
  z_g (s0 = 0 ∨ s0 = 1) <|
  some s0
set_option maxRecDepth 100000 in
set_option maxHeartbeats 4000000 in
theorem w_X12_in_18 {κ : zK} {a : Nat → Nat} {s0 : Int} {st : z_St} {o : Int} (hc : z_C κ RX12 cX12_in 7 8 0 0) (hap : z_AP κ a z_N) (he : z_E 0 κ (some .boolean) z_T z_N a o st) (h : J_X12_in_18 s0 st = some o) : z_V κ z_T z_N a 0 0 18 [] [.int (zI s0)] st := by
  unfold J_X12_in_18 at h
  obtain ⟨hz, h⟩ := z_g_some h
  have h := Option.some.inj h
  subst h
  exact z_retZ hc he hz dX12_in_18
def J_X12_in_17 (st : z_St) : Option (Int) :=
  J_X12_in_18 0 st
set_option maxRecDepth 100000 in
set_option maxHeartbeats 4000000 in
theorem w_X12_in_17 {κ : zK} {a : Nat → Nat} {st : z_St} {o : Int} (hc : z_C κ RX12 cX12_in 7 8 0 0) (hap : z_AP κ a z_N) (he : z_E 0 κ (some .boolean) z_T z_N a o st) (h : J_X12_in_17 st = some o) : z_V κ z_T z_N a 0 0 17 [] [] st := by
  unfold J_X12_in_17 at h
  refine z_iconst hc dX12_in_17 ?_
  refine z_sub [] [] rfl ?_
  exact w_X12_in_18 hc hap he h
def J_X12_in (x1 x3 x5 : Int) (st : z_St) : Option (Int) :=
  z_g (z64 x1 ∧ z64 x3) (if x1 < x3 then
    J_X12_in_17 st
  else
    z_g (z64 x1 ∧ z64 x5) (if x5 < x1 then
      J_X12_in_17 st
    else
      J_X12_in_18 1 st))
set_option maxRecDepth 100000 in
set_option maxHeartbeats 4000000 in
theorem w_X12_in {κ : zK} {a : Nat → Nat} {x1 x3 x5 : Int} {st : z_St} {o : Int} (hc : z_C κ RX12 cX12_in 7 8 0 0) (hap : z_AP κ a z_N) (he : z_E 0 κ (some .boolean) z_T z_N a o st) (h : J_X12_in x1 x3 x5 st = some o) : z_V κ z_T z_N a 0 0 0 [(0, .ref (a 168)), (1, .long (zJ x1)), (3, .long (zJ x3)), (5, .long (zJ x5))] [] st := by
  unfold J_X12_in at h
  refine z_lload_n (i := 1) 1 hc dX12_in_0 rfl rfl ?_
  refine z_lload_n (i := 3) 2 hc dX12_in_1 rfl rfl ?_
  refine z_lcmp_lt (tgt := 17) hc dX12_in_2 dX12_in_3 (by decide) h (fun c2 h => ?_) (fun c2 h => ?_)
  · refine z_sub [] [] rfl ?_
    exact w_X12_in_17 hc hap he h
  · refine z_lload_n (i := 1) 1 hc dX12_in_6 rfl rfl ?_
    refine z_lload 3 hc dX12_in_7 rfl ?_
    refine z_lcmp_gt (tgt := 17) hc dX12_in_9 dX12_in_10 (by decide) h (fun c9 h => ?_) (fun c9 h => ?_)
    · refine z_sub [] [] rfl ?_
      exact w_X12_in_17 hc hap he h
    · refine z_iconst hc dX12_in_13 ?_
      refine z_goto (tgt := 18) hc dX12_in_14 (by decide) ?_
      refine z_sub [] [] rfl ?_
      exact w_X12_in_18 hc hap he h
set_option maxRecDepth 100000 in
set_option maxHeartbeats 4000000 in
theorem c_X12_in {l : Launch} (hl : l.stackTraces = false) {a : Nat → Nat} {x1 x3 x5 : Int} {st : z_St} {o : Int} (h : J_X12_in x1 x3 x5 st = some o) : z_M 0 l yX12_in cX12_in 7 (some .boolean) 8 z_T z_N a [.ref (a 168), .long (zJ x1), .long (zJ x3), .long (zJ x5)] st o st := z_of hl (by decide +kernel) (Nat.le_of_ble_eq_true rfl) (fun κ hc hap he => w_X12_in hc hap he h)
theorem dX12_isNumber_0 : decode cX12_isNumber 0 = .ok (.aload_n 0, 1) := by decide +kernel
theorem dX12_isNumber_1 : decode cX12_isNumber 1 = .ok (.iload_n 1, 1) := by decide +kernel
theorem dX12_isNumber_2 : decode cX12_isNumber 2 = .ok (.i2l, 1) := by decide +kernel
theorem dX12_isNumber_3 : decode cX12_isNumber 3 = .ok (.ldc2_w 112, 3) := by decide +kernel
theorem dX12_isNumber_6 : decode cX12_isNumber 6 = .ok (.ldc2_w 114, 3) := by decide +kernel
theorem dX12_isNumber_9 : decode cX12_isNumber 9 = .ok (.invokevirtual 116, 3) := by decide +kernel
theorem dX12_isNumber_12 : decode cX12_isNumber 12 = .ok (.ireturn, 1) := by decide +kernel
def J_X12_isNumber (x1 : Int) (st : z_St) : Option (Int) :=
  z_g (z32 x1) <|
  z_b (J_X12_in x1 (-30000) 30000 st) fun r1 =>
  z_g (r1 = 0 ∨ r1 = 1) <|
  some r1
set_option maxRecDepth 100000 in
set_option maxHeartbeats 4000000 in
theorem w_X12_isNumber {κ : zK} {a : Nat → Nat} {x1 : Int} {st : z_St} {o : Int} (hc : z_C κ RX12 cX12_isNumber 2 9 0 0) (hap : z_AP κ a z_N) (he : z_E 0 κ (some .boolean) z_T z_N a o st) (h : J_X12_isNumber x1 st = some o) : z_V κ z_T z_N a 0 0 0 [(0, .ref (a 168)), (1, .int (zI x1))] [] st := by
  unfold J_X12_isNumber at h
  refine z_aload_n (i := 0) 0 hc dX12_isNumber_0 rfl rfl ?_
  refine z_iload_n (i := 1) 1 hc dX12_isNumber_1 rfl rfl ?_
  refine z_i2l hc dX12_isNumber_2 h (fun h => ?_)
  refine z_ldc2 (-30000) hc kc_RX12_112 dX12_isNumber_3 rfl ?_
  refine z_ldc2 30000 hc kc_RX12_114 dX12_isNumber_6 rfl ?_
  obtain ⟨r1, hr1, h⟩ := z_b_some h
  refine z_callVI [.long (zJ x1), .long (zJ (-30000)), .long (zJ 30000)] hc hap o_X12_in ml_RX12_116 (fun l hl => c_X12_in hl  hr1) (by decide) tT_168 (by decide) ⟨_, rfl, rfl⟩ rfl rfl (Nat.le_of_ble_eq_true rfl) (Nat.zero_le _) (Nat.zero_le _) dX12_isNumber_9 ?_
  obtain ⟨hz, h⟩ := z_g_some h
  have h := Option.some.inj h
  subst h
  exact z_retZ hc he hz dX12_isNumber_12
set_option maxRecDepth 100000 in
set_option maxHeartbeats 4000000 in
theorem c_X12_isNumber {l : Launch} (hl : l.stackTraces = false) {a : Nat → Nat} {x1 : Int} {st : z_St} {o : Int} (h : J_X12_isNumber x1 st = some o) : z_M 0 l yX12_isNumber cX12_isNumber 2 (some .boolean) 9 z_T z_N a [.ref (a 168), .int (zI x1)] st o st := z_of hl (by decide +kernel) (Nat.le_of_ble_eq_true rfl) (fun κ hc hap he => w_X12_isNumber hc hap he h)
theorem dX12_areNumbers_0 : decode cX12_areNumbers 0 = .ok (.aload_n 0, 1) := by decide +kernel
theorem dX12_areNumbers_1 : decode cX12_areNumbers 1 = .ok (.iload_n 1, 1) := by decide +kernel
theorem dX12_areNumbers_2 : decode cX12_areNumbers 2 = .ok (.invokevirtual 120, 3) := by decide +kernel
theorem dX12_areNumbers_5 : decode cX12_areNumbers 5 = .ok (.ifCond .eq 23, 3) := by decide +kernel
theorem dX12_areNumbers_8 : decode cX12_areNumbers 8 = .ok (.aload_n 0, 1) := by decide +kernel
theorem dX12_areNumbers_9 : decode cX12_areNumbers 9 = .ok (.iload_n 2, 1) := by decide +kernel
theorem dX12_areNumbers_10 : decode cX12_areNumbers 10 = .ok (.invokevirtual 120, 3) := by decide +kernel
theorem dX12_areNumbers_13 : decode cX12_areNumbers 13 = .ok (.ifCond .eq 15, 3) := by decide +kernel
theorem dX12_areNumbers_16 : decode cX12_areNumbers 16 = .ok (.aload_n 0, 1) := by decide +kernel
theorem dX12_areNumbers_17 : decode cX12_areNumbers 17 = .ok (.iload_n 3, 1) := by decide +kernel
theorem dX12_areNumbers_18 : decode cX12_areNumbers 18 = .ok (.invokevirtual 120, 3) := by decide +kernel
theorem dX12_areNumbers_21 : decode cX12_areNumbers 21 = .ok (.ifCond .eq 7, 3) := by decide +kernel
theorem dX12_areNumbers_24 : decode cX12_areNumbers 24 = .ok (.iconst 1, 1) := by decide +kernel
theorem dX12_areNumbers_25 : decode cX12_areNumbers 25 = .ok (.goto 4, 3) := by decide +kernel
theorem dX12_areNumbers_28 : decode cX12_areNumbers 28 = .ok (.iconst 0, 1) := by decide +kernel
theorem dX12_areNumbers_29 : decode cX12_areNumbers 29 = .ok (.ireturn, 1) := by decide +kernel
def J_X12_areNumbers_29 (s0 : Int) (st : z_St) : Option (Int) :=
  z_g (s0 = 0 ∨ s0 = 1) <|
  some s0
set_option maxRecDepth 100000 in
set_option maxHeartbeats 4000000 in
theorem w_X12_areNumbers_29 {κ : zK} {a : Nat → Nat} {s0 : Int} {st : z_St} {o : Int} (hc : z_C κ RX12 cX12_areNumbers 4 10 0 0) (hap : z_AP κ a z_N) (he : z_E 0 κ (some .boolean) z_T z_N a o st) (h : J_X12_areNumbers_29 s0 st = some o) : z_V κ z_T z_N a 0 0 29 [] [.int (zI s0)] st := by
  unfold J_X12_areNumbers_29 at h
  obtain ⟨hz, h⟩ := z_g_some h
  have h := Option.some.inj h
  subst h
  exact z_retZ hc he hz dX12_areNumbers_29
def J_X12_areNumbers_28 (st : z_St) : Option (Int) :=
  J_X12_areNumbers_29 0 st
set_option maxRecDepth 100000 in
set_option maxHeartbeats 4000000 in
theorem w_X12_areNumbers_28 {κ : zK} {a : Nat → Nat} {st : z_St} {o : Int} (hc : z_C κ RX12 cX12_areNumbers 4 10 0 0) (hap : z_AP κ a z_N) (he : z_E 0 κ (some .boolean) z_T z_N a o st) (h : J_X12_areNumbers_28 st = some o) : z_V κ z_T z_N a 0 0 28 [] [] st := by
  unfold J_X12_areNumbers_28 at h
  refine z_iconst hc dX12_areNumbers_28 ?_
  refine z_sub [] [] rfl ?_
  exact w_X12_areNumbers_29 hc hap he h
def J_X12_areNumbers (x1 x2 x3 : Int) (st : z_St) : Option (Int) :=
  z_b (J_X12_isNumber x1 st) fun r1 =>
  z_g (z32 r1) (if r1 = 0 then
    J_X12_areNumbers_28 st
  else
    z_b (J_X12_isNumber x2 st) fun r3 =>
    z_g (z32 r3) (if r3 = 0 then
      J_X12_areNumbers_28 st
    else
      z_b (J_X12_isNumber x3 st) fun r5 =>
      z_g (z32 r5) (if r5 = 0 then
        J_X12_areNumbers_28 st
      else
        J_X12_areNumbers_29 1 st)))
set_option maxRecDepth 100000 in
set_option maxHeartbeats 4000000 in
theorem w_X12_areNumbers {κ : zK} {a : Nat → Nat} {x1 x2 x3 : Int} {st : z_St} {o : Int} (hc : z_C κ RX12 cX12_areNumbers 4 10 0 0) (hap : z_AP κ a z_N) (he : z_E 0 κ (some .boolean) z_T z_N a o st) (h : J_X12_areNumbers x1 x2 x3 st = some o) : z_V κ z_T z_N a 0 0 0 [(0, .ref (a 168)), (1, .int (zI x1)), (2, .int (zI x2)), (3, .int (zI x3))] [] st := by
  unfold J_X12_areNumbers at h
  refine z_aload_n (i := 0) 0 hc dX12_areNumbers_0 rfl rfl ?_
  refine z_iload_n (i := 1) 1 hc dX12_areNumbers_1 rfl rfl ?_
  obtain ⟨r1, hr1, h⟩ := z_b_some h
  refine z_callVI [.int (zI x1)] hc hap o_X12_isNumber ml_RX12_120 (fun l hl => c_X12_isNumber hl  hr1) (by decide) tT_168 (by decide) ⟨_, rfl, rfl⟩ rfl rfl (Nat.le_of_ble_eq_true rfl) (Nat.zero_le _) (Nat.zero_le _) dX12_areNumbers_2 ?_
  refine z_if_eq (tgt := 28) hc dX12_areNumbers_5 (by decide) h (fun c5 h => ?_) (fun c5 h => ?_)
  · refine z_sub [] [] rfl ?_
    exact w_X12_areNumbers_28 hc hap he h
  · refine z_aload_n (i := 0) 0 hc dX12_areNumbers_8 rfl rfl ?_
    refine z_iload_n (i := 2) 2 hc dX12_areNumbers_9 rfl rfl ?_
    obtain ⟨r3, hr3, h⟩ := z_b_some h
    refine z_callVI [.int (zI x2)] hc hap o_X12_isNumber ml_RX12_120 (fun l hl => c_X12_isNumber hl  hr3) (by decide) tT_168 (by decide) ⟨_, rfl, rfl⟩ rfl rfl (Nat.le_of_ble_eq_true rfl) (Nat.zero_le _) (Nat.zero_le _) dX12_areNumbers_10 ?_
    refine z_if_eq (tgt := 28) hc dX12_areNumbers_13 (by decide) h (fun c13 h => ?_) (fun c13 h => ?_)
    · refine z_sub [] [] rfl ?_
      exact w_X12_areNumbers_28 hc hap he h
    · refine z_aload_n (i := 0) 0 hc dX12_areNumbers_16 rfl rfl ?_
      refine z_iload_n (i := 3) 3 hc dX12_areNumbers_17 rfl rfl ?_
      obtain ⟨r5, hr5, h⟩ := z_b_some h
      refine z_callVI [.int (zI x3)] hc hap o_X12_isNumber ml_RX12_120 (fun l hl => c_X12_isNumber hl  hr5) (by decide) tT_168 (by decide) ⟨_, rfl, rfl⟩ rfl rfl (Nat.le_of_ble_eq_true rfl) (Nat.zero_le _) (Nat.zero_le _) dX12_areNumbers_18 ?_
      refine z_if_eq (tgt := 28) hc dX12_areNumbers_21 (by decide) h (fun c21 h => ?_) (fun c21 h => ?_)
      · refine z_sub [] [] rfl ?_
        exact w_X12_areNumbers_28 hc hap he h
      · refine z_iconst hc dX12_areNumbers_24 ?_
        refine z_goto (tgt := 29) hc dX12_areNumbers_25 (by decide) ?_
        refine z_sub [] [] rfl ?_
        exact w_X12_areNumbers_29 hc hap he h
set_option maxRecDepth 100000 in
set_option maxHeartbeats 4000000 in
theorem c_X12_areNumbers {l : Launch} (hl : l.stackTraces = false) {a : Nat → Nat} {x1 x2 x3 : Int} {st : z_St} {o : Int} (h : J_X12_areNumbers x1 x2 x3 st = some o) : z_M 0 l yX12_areNumbers cX12_areNumbers 4 (some .boolean) 10 z_T z_N a [.ref (a 168), .int (zI x1), .int (zI x2), .int (zI x3)] st o st := z_of hl (by decide +kernel) (Nat.le_of_ble_eq_true rfl) (fun κ hc hap he => w_X12_areNumbers hc hap he h)
theorem dX12_least_0 : decode cX12_least 0 = .ok (.lload_n 1, 1) := by decide +kernel
theorem dX12_least_1 : decode cX12_least 1 = .ok (.lload_n 3, 1) := by decide +kernel
theorem dX12_least_2 : decode cX12_least 2 = .ok (.lcmp, 1) := by decide +kernel
theorem dX12_least_3 : decode cX12_least 3 = .ok (.ifCond .ge 7, 3) := by decide +kernel
theorem dX12_least_6 : decode cX12_least 6 = .ok (.lload_n 1, 1) := by decide +kernel
theorem dX12_least_7 : decode cX12_least 7 = .ok (.goto 4, 3) := by decide +kernel
theorem dX12_least_10 : decode cX12_least 10 = .ok (.lload_n 3, 1) := by decide +kernel
theorem dX12_least_11 : decode cX12_least 11 = .ok (.lreturn, 1) := by decide +kernel
def J_X12_least_11 (s0 : Int) (st : z_St) : Option (Int) :=
  some s0
set_option maxRecDepth 100000 in
set_option maxHeartbeats 4000000 in
theorem w_X12_least_11 {κ : zK} {a : Nat → Nat} {s0 : Int} {st : z_St} {o : Int} (hc : z_C κ RX12 cX12_least 5 8 0 0) (hap : z_AP κ a z_N) (he : z_E 1 κ (some .long) z_T z_N a o st) (h : J_X12_least_11 s0 st = some o) : z_V κ z_T z_N a 0 0 11 [] [.long (zJ s0)] st := by
  unfold J_X12_least_11 at h
  have h := Option.some.inj h
  subst h
  exact z_retJ hc he dX12_least_11
def J_X12_least (x1 x3 : Int) (st : z_St) : Option (Int) :=
  z_g (z64 x1 ∧ z64 x3) (if x1 < x3 then
    J_X12_least_11 x1 st
  else
    J_X12_least_11 x3 st)
set_option maxRecDepth 100000 in
set_option maxHeartbeats 4000000 in
theorem w_X12_least {κ : zK} {a : Nat → Nat} {x1 x3 : Int} {st : z_St} {o : Int} (hc : z_C κ RX12 cX12_least 5 8 0 0) (hap : z_AP κ a z_N) (he : z_E 1 κ (some .long) z_T z_N a o st) (h : J_X12_least x1 x3 st = some o) : z_V κ z_T z_N a 0 0 0 [(0, .ref (a 168)), (1, .long (zJ x1)), (3, .long (zJ x3))] [] st := by
  unfold J_X12_least at h
  refine z_lload_n (i := 1) 1 hc dX12_least_0 rfl rfl ?_
  refine z_lload_n (i := 3) 2 hc dX12_least_1 rfl rfl ?_
  refine z_lcmp_ge (tgt := 10) hc dX12_least_2 dX12_least_3 (by decide) h (fun c2 h => ?_) (fun c2 h => ?_)
  · refine z_lload_n (i := 1) 1 hc dX12_least_6 rfl rfl ?_
    refine z_goto (tgt := 11) hc dX12_least_7 (by decide) ?_
    refine z_sub [] [] rfl ?_
    exact w_X12_least_11 hc hap he h
  · refine z_lload_n (i := 3) 2 hc dX12_least_10 rfl rfl ?_
    refine z_sub [] [] rfl ?_
    exact w_X12_least_11 hc hap he h
set_option maxRecDepth 100000 in
set_option maxHeartbeats 4000000 in
theorem c_X12_least {l : Launch} (hl : l.stackTraces = false) {a : Nat → Nat} {x1 x3 : Int} {st : z_St} {o : Int} (h : J_X12_least x1 x3 st = some o) : z_M 1 l yX12_least cX12_least 5 (some .long) 8 z_T z_N a [.ref (a 168), .long (zJ x1), .long (zJ x3)] st o st := z_of hl (by decide +kernel) (Nat.le_of_ble_eq_true rfl) (fun κ hc hap he => w_X12_least hc hap he h)
theorem dX12_frame_0 : decode cX12_frame 0 = .ok (.aload_n 0, 1) := by decide +kernel
theorem dX12_frame_1 : decode cX12_frame 1 = .ok (.aload_n 0, 1) := by decide +kernel
theorem dX12_frame_2 : decode cX12_frame 2 = .ok (.iload_n 1, 1) := by decide +kernel
theorem dX12_frame_3 : decode cX12_frame 3 = .ok (.iload_n 2, 1) := by decide +kernel
theorem dX12_frame_4 : decode cX12_frame 4 = .ok (.iload_n 3, 1) := by decide +kernel
theorem dX12_frame_5 : decode cX12_frame 5 = .ok (.invokevirtual 124, 3) := by decide +kernel
theorem dX12_frame_8 : decode cX12_frame 8 = .ok (.ifCond .ne 7, 3) := by decide +kernel
theorem dX12_frame_11 : decode cX12_frame 11 = .ok (.iconst 1, 1) := by decide +kernel
theorem dX12_frame_12 : decode cX12_frame 12 = .ok (.goto 17, 3) := by decide +kernel
theorem dX12_frame_15 : decode cX12_frame 15 = .ok (.aload_n 0, 1) := by decide +kernel
theorem dX12_frame_16 : decode cX12_frame 16 = .ok (.getfield 128, 3) := by decide +kernel
theorem dX12_frame_19 : decode cX12_frame 19 = .ok (.bipush 16, 2) := by decide +kernel
theorem dX12_frame_21 : decode cX12_frame 21 = .ok (.if_icmp .ne 7, 3) := by decide +kernel
theorem dX12_frame_24 : decode cX12_frame 24 = .ok (.iconst 2, 1) := by decide +kernel
theorem dX12_frame_25 : decode cX12_frame 25 = .ok (.goto 4, 3) := by decide +kernel
theorem dX12_frame_28 : decode cX12_frame 28 = .ok (.iconst 0, 1) := by decide +kernel
theorem dX12_frame_29 : decode cX12_frame 29 = .ok (.invokevirtual 131, 3) := by decide +kernel
theorem dX12_frame_32 : decode cX12_frame 32 = .ok (.ifCond .eq 5, 3) := by decide +kernel
theorem dX12_frame_35 : decode cX12_frame 35 = .ok (.iconst (-1), 1) := by decide +kernel
theorem dX12_frame_36 : decode cX12_frame 36 = .ok (.ireturn, 1) := by decide +kernel
theorem dX12_frame_37 : decode cX12_frame 37 = .ok (.aload_n 0, 1) := by decide +kernel
theorem dX12_frame_38 : decode cX12_frame 38 = .ok (.getfield 7, 3) := by decide +kernel
theorem dX12_frame_41 : decode cX12_frame 41 = .ok (.iconst 3, 1) := by decide +kernel
theorem dX12_frame_42 : decode cX12_frame 42 = .ok (.aload_n 0, 1) := by decide +kernel
theorem dX12_frame_43 : decode cX12_frame 43 = .ok (.getfield 128, 3) := by decide +kernel
theorem dX12_frame_46 : decode cX12_frame 46 = .ok (.imul, 1) := by decide +kernel
theorem dX12_frame_47 : decode cX12_frame 47 = .ok (.iload_n 1, 1) := by decide +kernel
theorem dX12_frame_48 : decode cX12_frame 48 = .ok (.iastore, 1) := by decide +kernel
theorem dX12_frame_49 : decode cX12_frame 49 = .ok (.aload_n 0, 1) := by decide +kernel
theorem dX12_frame_50 : decode cX12_frame 50 = .ok (.getfield 7, 3) := by decide +kernel
theorem dX12_frame_53 : decode cX12_frame 53 = .ok (.iconst 3, 1) := by decide +kernel
theorem dX12_frame_54 : decode cX12_frame 54 = .ok (.aload_n 0, 1) := by decide +kernel
theorem dX12_frame_55 : decode cX12_frame 55 = .ok (.getfield 128, 3) := by decide +kernel
theorem dX12_frame_58 : decode cX12_frame 58 = .ok (.imul, 1) := by decide +kernel
theorem dX12_frame_59 : decode cX12_frame 59 = .ok (.iconst 1, 1) := by decide +kernel
theorem dX12_frame_60 : decode cX12_frame 60 = .ok (.iadd, 1) := by decide +kernel
theorem dX12_frame_61 : decode cX12_frame 61 = .ok (.iload_n 2, 1) := by decide +kernel
theorem dX12_frame_62 : decode cX12_frame 62 = .ok (.iastore, 1) := by decide +kernel
theorem dX12_frame_63 : decode cX12_frame 63 = .ok (.aload_n 0, 1) := by decide +kernel
theorem dX12_frame_64 : decode cX12_frame 64 = .ok (.getfield 7, 3) := by decide +kernel
theorem dX12_frame_67 : decode cX12_frame 67 = .ok (.iconst 3, 1) := by decide +kernel
theorem dX12_frame_68 : decode cX12_frame 68 = .ok (.aload_n 0, 1) := by decide +kernel
theorem dX12_frame_69 : decode cX12_frame 69 = .ok (.getfield 128, 3) := by decide +kernel
theorem dX12_frame_72 : decode cX12_frame 72 = .ok (.imul, 1) := by decide +kernel
theorem dX12_frame_73 : decode cX12_frame 73 = .ok (.iconst 2, 1) := by decide +kernel
theorem dX12_frame_74 : decode cX12_frame 74 = .ok (.iadd, 1) := by decide +kernel
theorem dX12_frame_75 : decode cX12_frame 75 = .ok (.iload_n 3, 1) := by decide +kernel
theorem dX12_frame_76 : decode cX12_frame 76 = .ok (.iastore, 1) := by decide +kernel
theorem dX12_frame_77 : decode cX12_frame 77 = .ok (.aload_n 0, 1) := by decide +kernel
theorem dX12_frame_78 : decode cX12_frame 78 = .ok (.dup, 1) := by decide +kernel
theorem dX12_frame_79 : decode cX12_frame 79 = .ok (.getfield 128, 3) := by decide +kernel
theorem dX12_frame_82 : decode cX12_frame 82 = .ok (.iconst 1, 1) := by decide +kernel
theorem dX12_frame_83 : decode cX12_frame 83 = .ok (.iadd, 1) := by decide +kernel
theorem dX12_frame_84 : decode cX12_frame 84 = .ok (.putfield 128, 3) := by decide +kernel
theorem dX12_frame_87 : decode cX12_frame 87 = .ok (.aload_n 0, 1) := by decide +kernel
theorem dX12_frame_88 : decode cX12_frame 88 = .ok (.getfield 128, 3) := by decide +kernel
theorem dX12_frame_91 : decode cX12_frame 91 = .ok (.ireturn, 1) := by decide +kernel
def J_X12_frame_29 (v1 v2 v3 s0 : Int) (st : z_St) : Option (Int × z_St) :=
  z_b (J_X12_holds s0 st) fun r3 =>
  z_g (z32 r3.1) (if r3.1 = 0 then
    z_g (0 ≤ 3 * (r3.2 168 2) ∧ 3 * (r3.2 168 2) < 48) <|
    z_let (z_up r3.2 169 (3 * (r3.2 168 2)) v1) fun st5 =>
    z_g (0 ≤ (3 * (st5 168 2)) + 1 ∧ (3 * (st5 168 2)) + 1 < 48) <|
    z_let (z_up st5 169 ((3 * (st5 168 2)) + 1) v2) fun st6 =>
    z_g (0 ≤ (3 * (st6 168 2)) + 2 ∧ (3 * (st6 168 2)) + 2 < 48) <|
    z_let (z_up st6 169 ((3 * (st6 168 2)) + 2) v3) fun st7 =>
    z_let (z_up st7 168 2 ((st7 168 2) + 1)) fun st8 =>
    some (st8 168 2, st8)
  else
    some ((-1), r3.2))
set_option maxRecDepth 100000 in
set_option maxHeartbeats 4000000 in
theorem w_X12_frame_29 {κ : zK} {a : Nat → Nat} {v1 v2 v3 s0 : Int} {st : z_St} {o : Int × z_St} (hc : z_C κ RX12 cX12_frame 4 11 0 0) (hap : z_AP κ a z_N) (he : z_E 0 κ (some .int) z_T z_N a o.1 o.2) (h : J_X12_frame_29 v1 v2 v3 s0 st = some o) : z_V κ z_T z_N a 0 0 29 [(0, .ref (a 168)), (1, .int (zI v1)), (2, .int (zI v2)), (3, .int (zI v3))] [.int (zI s0), .ref (a 168)] st := by
  unfold J_X12_frame_29 at h
  obtain ⟨r3, hr3, h⟩ := z_b_some h
  refine z_callVI [.int (zI s0)] hc hap o_X12_holds ml_RX12_131 (fun l hl => c_X12_holds hl  hr3) (by decide) tT_168 (by decide) ⟨_, rfl, rfl⟩ rfl rfl (Nat.le_of_ble_eq_true rfl) (Nat.zero_le _) (Nat.zero_le _) dX12_frame_29 ?_
  refine z_if_eq (tgt := 37) hc dX12_frame_32 (by decide) h (fun c32 h => ?_) (fun c32 h => ?_)
  · refine z_aload_n (i := 0) 0 hc dX12_frame_37 rfl rfl ?_
    refine z_getA (k' := 169) hc fl_RX12_7 tT_168 (by decide) rfl rfl dX12_frame_38 ?_
    refine z_iconst hc dX12_frame_41 ?_
    refine z_aload_n (i := 0) 0 hc dX12_frame_42 rfl rfl ?_
    refine z_getI (kI := 168) (jI := 2) hc fl_RX12_128 tT_168 (by decide) rfl rfl rfl dX12_frame_43 ?_
    refine z_imul hc dX12_frame_46 ?_
    refine z_iload_n (i := 1) 1 hc dX12_frame_47 rfl rfl ?_
    refine z_iast (kI := 169) (nI9 := 48) hc hap tT_169 (by decide) rfl rfl (by decide) dX12_frame_48 h (fun st5 h => ?_)
    refine z_aload_n (i := 0) 0 hc dX12_frame_49 rfl rfl ?_
    refine z_getA (k' := 169) hc fl_RX12_7 tT_168 (by decide) rfl rfl dX12_frame_50 ?_
    refine z_iconst hc dX12_frame_53 ?_
    refine z_aload_n (i := 0) 0 hc dX12_frame_54 rfl rfl ?_
    refine z_getI (kI := 168) (jI := 2) hc fl_RX12_128 tT_168 (by decide) rfl rfl rfl dX12_frame_55 ?_
    refine z_imul hc dX12_frame_58 ?_
    refine z_iconst hc dX12_frame_59 ?_
    refine z_iadd hc dX12_frame_60 ?_
    refine z_iload_n (i := 2) 2 hc dX12_frame_61 rfl rfl ?_
    refine z_iast (kI := 169) (nI9 := 48) hc hap tT_169 (by decide) rfl rfl (by decide) dX12_frame_62 h (fun st6 h => ?_)
    refine z_aload_n (i := 0) 0 hc dX12_frame_63 rfl rfl ?_
    refine z_getA (k' := 169) hc fl_RX12_7 tT_168 (by decide) rfl rfl dX12_frame_64 ?_
    refine z_iconst hc dX12_frame_67 ?_
    refine z_aload_n (i := 0) 0 hc dX12_frame_68 rfl rfl ?_
    refine z_getI (kI := 168) (jI := 2) hc fl_RX12_128 tT_168 (by decide) rfl rfl rfl dX12_frame_69 ?_
    refine z_imul hc dX12_frame_72 ?_
    refine z_iconst hc dX12_frame_73 ?_
    refine z_iadd hc dX12_frame_74 ?_
    refine z_iload_n (i := 3) 3 hc dX12_frame_75 rfl rfl ?_
    refine z_iast (kI := 169) (nI9 := 48) hc hap tT_169 (by decide) rfl rfl (by decide) dX12_frame_76 h (fun st7 h => ?_)
    refine z_aload_n (i := 0) 0 hc dX12_frame_77 rfl rfl ?_
    refine z_dup hc dX12_frame_78 rfl ?_
    refine z_getI (kI := 168) (jI := 2) hc fl_RX12_128 tT_168 (by decide) rfl rfl rfl dX12_frame_79 ?_
    refine z_iconst hc dX12_frame_82 ?_
    refine z_iadd hc dX12_frame_83 ?_
    refine z_putI (kI := 168) (jI := 2) hc hap fp_RX12_128 tT_168 (by decide) rfl rfl rfl dX12_frame_84 h (fun st8 h => ?_)
    refine z_aload_n (i := 0) 0 hc dX12_frame_87 rfl rfl ?_
    refine z_getI (kI := 168) (jI := 2) hc fl_RX12_128 tT_168 (by decide) rfl rfl rfl dX12_frame_88 ?_
    have h := Option.some.inj h
    subst h
    exact z_retI hc he dX12_frame_91
  · refine z_iconst hc dX12_frame_35 ?_
    have h := Option.some.inj h
    subst h
    exact z_retI hc he dX12_frame_36
def J_X12_frame (x1 x2 x3 : Int) (st : z_St) : Option (Int × z_St) :=
  z_b (J_X12_areNumbers x1 x2 x3 st) fun r1 =>
  z_g (z32 r1) (if r1 = 0 then
    J_X12_frame_29 x1 x2 x3 1 st
  else
    z_g (z32 (st 168 2) ∧ z32 16) (if st 168 2 = 16 then
      J_X12_frame_29 x1 x2 x3 2 st
    else
      J_X12_frame_29 x1 x2 x3 0 st))
set_option maxRecDepth 100000 in
set_option maxHeartbeats 4000000 in
theorem w_X12_frame {κ : zK} {a : Nat → Nat} {x1 x2 x3 : Int} {st : z_St} {o : Int × z_St} (hc : z_C κ RX12 cX12_frame 4 11 0 0) (hap : z_AP κ a z_N) (he : z_E 0 κ (some .int) z_T z_N a o.1 o.2) (h : J_X12_frame x1 x2 x3 st = some o) : z_V κ z_T z_N a 0 0 0 [(0, .ref (a 168)), (1, .int (zI x1)), (2, .int (zI x2)), (3, .int (zI x3))] [] st := by
  unfold J_X12_frame at h
  refine z_aload_n (i := 0) 0 hc dX12_frame_0 rfl rfl ?_
  refine z_aload_n (i := 0) 0 hc dX12_frame_1 rfl rfl ?_
  refine z_iload_n (i := 1) 1 hc dX12_frame_2 rfl rfl ?_
  refine z_iload_n (i := 2) 2 hc dX12_frame_3 rfl rfl ?_
  refine z_iload_n (i := 3) 3 hc dX12_frame_4 rfl rfl ?_
  obtain ⟨r1, hr1, h⟩ := z_b_some h
  refine z_callVI [.int (zI x1), .int (zI x2), .int (zI x3)] hc hap o_X12_areNumbers ml_RX12_124 (fun l hl => c_X12_areNumbers hl  hr1) (by decide) tT_168 (by decide) ⟨_, rfl, rfl⟩ rfl rfl (Nat.le_of_ble_eq_true rfl) (Nat.zero_le _) (Nat.zero_le _) dX12_frame_5 ?_
  refine z_if_ne (tgt := 15) hc dX12_frame_8 (by decide) h (fun c8 h => ?_) (fun c8 h => ?_)
  · refine z_iconst hc dX12_frame_11 ?_
    refine z_goto (tgt := 29) hc dX12_frame_12 (by decide) ?_
    refine z_sub [(0, .ref (a 168)), (1, .int (zI x1)), (2, .int (zI x2)), (3, .int (zI x3))] [0, 1, 2, 3] rfl ?_
    exact w_X12_frame_29 hc hap he h
  · refine z_aload_n (i := 0) 0 hc dX12_frame_15 rfl rfl ?_
    refine z_getI (kI := 168) (jI := 2) hc fl_RX12_128 tT_168 (by decide) rfl rfl rfl dX12_frame_16 ?_
    refine z_bipush hc dX12_frame_19 rfl ?_
    refine z_icmp_ne (tgt := 28) hc dX12_frame_21 (by decide) h (fun c21 h => ?_) (fun c21 h => ?_)
    · refine z_iconst hc dX12_frame_24 ?_
      refine z_goto (tgt := 29) hc dX12_frame_25 (by decide) ?_
      refine z_sub [(0, .ref (a 168)), (1, .int (zI x1)), (2, .int (zI x2)), (3, .int (zI x3))] [0, 1, 2, 3] rfl ?_
      exact w_X12_frame_29 hc hap he h
    · refine z_iconst hc dX12_frame_28 ?_
      refine z_sub [(0, .ref (a 168)), (1, .int (zI x1)), (2, .int (zI x2)), (3, .int (zI x3))] [0, 1, 2, 3] rfl ?_
      exact w_X12_frame_29 hc hap he h
set_option maxRecDepth 100000 in
set_option maxHeartbeats 4000000 in
theorem c_X12_frame {l : Launch} (hl : l.stackTraces = false) {a : Nat → Nat} {x1 x2 x3 : Int} {st : z_St} {o : Int × z_St} (h : J_X12_frame x1 x2 x3 st = some o) : z_M 0 l yX12_frame cX12_frame 4 (some .int) 11 z_T z_N a [.ref (a 168), .int (zI x1), .int (zI x2), .int (zI x3)] st o.1 o.2 := z_of hl (by decide +kernel) (Nat.le_of_ble_eq_true rfl) (fun κ hc hap he => w_X12_frame hc hap he h)
theorem dX12_silence_0 : decode cX12_silence 0 = .ok (.aload_n 0, 1) := by decide +kernel
theorem dX12_silence_1 : decode cX12_silence 1 = .ok (.iconst 0, 1) := by decide +kernel
theorem dX12_silence_2 : decode cX12_silence 2 = .ok (.invokevirtual 131, 3) := by decide +kernel
theorem dX12_silence_5 : decode cX12_silence 5 = .ok (.pop, 1) := by decide +kernel
theorem dX12_silence_6 : decode cX12_silence 6 = .ok (.aload_n 0, 1) := by decide +kernel
theorem dX12_silence_7 : decode cX12_silence 7 = .ok (.getfield 128, 3) := by decide +kernel
theorem dX12_silence_10 : decode cX12_silence 10 = .ok (.istore_n 1, 1) := by decide +kernel
theorem dX12_silence_11 : decode cX12_silence 11 = .ok (.aload_n 0, 1) := by decide +kernel
theorem dX12_silence_12 : decode cX12_silence 12 = .ok (.iconst 0, 1) := by decide +kernel
theorem dX12_silence_13 : decode cX12_silence 13 = .ok (.putfield 128, 3) := by decide +kernel
theorem dX12_silence_16 : decode cX12_silence 16 = .ok (.iload_n 1, 1) := by decide +kernel
theorem dX12_silence_17 : decode cX12_silence 17 = .ok (.ireturn, 1) := by decide +kernel
def J_X12_silence (st : z_St) : Option (Int × z_St) :=
  z_b (J_X12_holds 0 st) fun r1 =>
  z_let (z_up r1.2 168 2 0) fun st3 =>
  some (r1.2 168 2, st3)
set_option maxRecDepth 100000 in
set_option maxHeartbeats 4000000 in
theorem w_X12_silence {κ : zK} {a : Nat → Nat} {st : z_St} {o : Int × z_St} (hc : z_C κ RX12 cX12_silence 2 9 0 0) (hap : z_AP κ a z_N) (he : z_E 0 κ (some .int) z_T z_N a o.1 o.2) (h : J_X12_silence st = some o) : z_V κ z_T z_N a 0 0 0 [(0, .ref (a 168))] [] st := by
  unfold J_X12_silence at h
  refine z_aload_n (i := 0) 0 hc dX12_silence_0 rfl rfl ?_
  refine z_iconst hc dX12_silence_1 ?_
  obtain ⟨r1, hr1, h⟩ := z_b_some h
  refine z_callVI [.int (zI 0)] hc hap o_X12_holds ml_RX12_131 (fun l hl => c_X12_holds hl  hr1) (by decide) tT_168 (by decide) ⟨_, rfl, rfl⟩ rfl rfl (Nat.le_of_ble_eq_true rfl) (Nat.zero_le _) (Nat.zero_le _) dX12_silence_2 ?_
  refine z_pop hc dX12_silence_5 rfl ?_
  refine z_aload_n (i := 0) 0 hc dX12_silence_6 rfl rfl ?_
  refine z_getI (kI := 168) (jI := 2) hc fl_RX12_128 tT_168 (by decide) rfl rfl rfl dX12_silence_7 ?_
  refine z_istore_n (i := 1) [(1, .int (zI (r1.2 168 2))), (0, .ref (a 168))] hc dX12_silence_10 rfl (by decide) rfl ?_
  refine z_aload_n (i := 0) 1 hc dX12_silence_11 rfl rfl ?_
  refine z_iconst hc dX12_silence_12 ?_
  refine z_putI (kI := 168) (jI := 2) hc hap fp_RX12_128 tT_168 (by decide) rfl rfl rfl dX12_silence_13 h (fun st3 h => ?_)
  refine z_iload_n (i := 1) 0 hc dX12_silence_16 rfl rfl ?_
  have h := Option.some.inj h
  subst h
  exact z_retI hc he dX12_silence_17
set_option maxRecDepth 100000 in
set_option maxHeartbeats 4000000 in
theorem c_X12_silence {l : Launch} (hl : l.stackTraces = false) {a : Nat → Nat} {st : z_St} {o : Int × z_St} (h : J_X12_silence st = some o) : z_M 0 l yX12_silence cX12_silence 2 (some .int) 9 z_T z_N a [.ref (a 168)] st o.1 o.2 := z_of hl (by decide +kernel) (Nat.le_of_ble_eq_true rfl) (fun κ hc hap he => w_X12_silence hc hap he h)
theorem dX12_speak_0 : decode cX12_speak 0 = .ok (.aload_n 0, 1) := by decide +kernel
theorem dX12_speak_1 : decode cX12_speak 1 = .ok (.aload_n 0, 1) := by decide +kernel
theorem dX12_speak_2 : decode cX12_speak 2 = .ok (.iload_n 1, 1) := by decide +kernel
theorem dX12_speak_3 : decode cX12_speak 3 = .ok (.i2l, 1) := by decide +kernel
theorem dX12_speak_4 : decode cX12_speak 4 = .ok (.lconst 0, 1) := by decide +kernel
theorem dX12_speak_5 : decode cX12_speak 5 = .ok (.ldc2_w 134, 3) := by decide +kernel
theorem dX12_speak_8 : decode cX12_speak 8 = .ok (.invokevirtual 116, 3) := by decide +kernel
theorem dX12_speak_11 : decode cX12_speak 11 = .ok (.ifCond .eq 7, 3) := by decide +kernel
theorem dX12_speak_14 : decode cX12_speak 14 = .ok (.iconst 0, 1) := by decide +kernel
theorem dX12_speak_15 : decode cX12_speak 15 = .ok (.goto 4, 3) := by decide +kernel
theorem dX12_speak_18 : decode cX12_speak 18 = .ok (.iconst 1, 1) := by decide +kernel
theorem dX12_speak_19 : decode cX12_speak 19 = .ok (.invokevirtual 131, 3) := by decide +kernel
theorem dX12_speak_22 : decode cX12_speak 22 = .ok (.ifCond .eq 5, 3) := by decide +kernel
theorem dX12_speak_25 : decode cX12_speak 25 = .ok (.iconst (-1), 1) := by decide +kernel
theorem dX12_speak_26 : decode cX12_speak 26 = .ok (.ireturn, 1) := by decide +kernel
theorem dX12_speak_27 : decode cX12_speak 27 = .ok (.aload_n 0, 1) := by decide +kernel
theorem dX12_speak_28 : decode cX12_speak 28 = .ok (.getfield 136, 3) := by decide +kernel
theorem dX12_speak_31 : decode cX12_speak 31 = .ok (.istore_n 2, 1) := by decide +kernel
theorem dX12_speak_32 : decode cX12_speak 32 = .ok (.aload_n 0, 1) := by decide +kernel
theorem dX12_speak_33 : decode cX12_speak 33 = .ok (.iload_n 1, 1) := by decide +kernel
theorem dX12_speak_34 : decode cX12_speak 34 = .ok (.putfield 136, 3) := by decide +kernel
theorem dX12_speak_37 : decode cX12_speak 37 = .ok (.iload_n 2, 1) := by decide +kernel
theorem dX12_speak_38 : decode cX12_speak 38 = .ok (.ireturn, 1) := by decide +kernel
def J_X12_speak_19 (v1 s0 : Int) (st : z_St) : Option (Int × z_St) :=
  z_b (J_X12_holds s0 st) fun r3 =>
  z_g (z32 r3.1) (if r3.1 = 0 then
    z_let (z_up r3.2 168 4 v1) fun st5 =>
    some (r3.2 168 4, st5)
  else
    some ((-1), r3.2))
set_option maxRecDepth 100000 in
set_option maxHeartbeats 4000000 in
theorem w_X12_speak_19 {κ : zK} {a : Nat → Nat} {v1 s0 : Int} {st : z_St} {o : Int × z_St} (hc : z_C κ RX12 cX12_speak 3 9 0 0) (hap : z_AP κ a z_N) (he : z_E 0 κ (some .int) z_T z_N a o.1 o.2) (h : J_X12_speak_19 v1 s0 st = some o) : z_V κ z_T z_N a 0 0 19 [(0, .ref (a 168)), (1, .int (zI v1))] [.int (zI s0), .ref (a 168)] st := by
  unfold J_X12_speak_19 at h
  obtain ⟨r3, hr3, h⟩ := z_b_some h
  refine z_callVI [.int (zI s0)] hc hap o_X12_holds ml_RX12_131 (fun l hl => c_X12_holds hl  hr3) (by decide) tT_168 (by decide) ⟨_, rfl, rfl⟩ rfl rfl (Nat.le_of_ble_eq_true rfl) (Nat.zero_le _) (Nat.zero_le _) dX12_speak_19 ?_
  refine z_if_eq (tgt := 27) hc dX12_speak_22 (by decide) h (fun c22 h => ?_) (fun c22 h => ?_)
  · refine z_aload_n (i := 0) 0 hc dX12_speak_27 rfl rfl ?_
    refine z_getI (kI := 168) (jI := 4) hc fl_RX12_136 tT_168 (by decide) rfl rfl rfl dX12_speak_28 ?_
    refine z_istore_n (i := 2) [(2, .int (zI (r3.2 168 4))), (0, .ref (a 168)), (1, .int (zI v1))] hc dX12_speak_31 rfl (by decide) rfl ?_
    refine z_aload_n (i := 0) 1 hc dX12_speak_32 rfl rfl ?_
    refine z_iload_n (i := 1) 2 hc dX12_speak_33 rfl rfl ?_
    refine z_putI (kI := 168) (jI := 4) hc hap fp_RX12_136 tT_168 (by decide) rfl rfl rfl dX12_speak_34 h (fun st5 h => ?_)
    refine z_iload_n (i := 2) 0 hc dX12_speak_37 rfl rfl ?_
    have h := Option.some.inj h
    subst h
    exact z_retI hc he dX12_speak_38
  · refine z_iconst hc dX12_speak_25 ?_
    have h := Option.some.inj h
    subst h
    exact z_retI hc he dX12_speak_26
def J_X12_speak (x1 : Int) (st : z_St) : Option (Int × z_St) :=
  z_g (z32 x1) <|
  z_b (J_X12_in x1 0 3 st) fun r1 =>
  z_g (z32 r1) (if r1 = 0 then
    J_X12_speak_19 x1 1 st
  else
    J_X12_speak_19 x1 0 st)
set_option maxRecDepth 100000 in
set_option maxHeartbeats 4000000 in
theorem w_X12_speak {κ : zK} {a : Nat → Nat} {x1 : Int} {st : z_St} {o : Int × z_St} (hc : z_C κ RX12 cX12_speak 3 9 0 0) (hap : z_AP κ a z_N) (he : z_E 0 κ (some .int) z_T z_N a o.1 o.2) (h : J_X12_speak x1 st = some o) : z_V κ z_T z_N a 0 0 0 [(0, .ref (a 168)), (1, .int (zI x1))] [] st := by
  unfold J_X12_speak at h
  refine z_aload_n (i := 0) 0 hc dX12_speak_0 rfl rfl ?_
  refine z_aload_n (i := 0) 0 hc dX12_speak_1 rfl rfl ?_
  refine z_iload_n (i := 1) 1 hc dX12_speak_2 rfl rfl ?_
  refine z_i2l hc dX12_speak_3 h (fun h => ?_)
  refine z_lconst 0 hc dX12_speak_4 rfl ?_
  refine z_ldc2 3 hc kc_RX12_134 dX12_speak_5 rfl ?_
  obtain ⟨r1, hr1, h⟩ := z_b_some h
  refine z_callVI [.long (zJ x1), .long (zJ 0), .long (zJ 3)] hc hap o_X12_in ml_RX12_116 (fun l hl => c_X12_in hl  hr1) (by decide) tT_168 (by decide) ⟨_, rfl, rfl⟩ rfl rfl (Nat.le_of_ble_eq_true rfl) (Nat.zero_le _) (Nat.zero_le _) dX12_speak_8 ?_
  refine z_if_eq (tgt := 18) hc dX12_speak_11 (by decide) h (fun c11 h => ?_) (fun c11 h => ?_)
  · refine z_iconst hc dX12_speak_18 ?_
    refine z_sub [(0, .ref (a 168)), (1, .int (zI x1))] [0, 1] rfl ?_
    exact w_X12_speak_19 hc hap he h
  · refine z_iconst hc dX12_speak_14 ?_
    refine z_goto (tgt := 19) hc dX12_speak_15 (by decide) ?_
    refine z_sub [(0, .ref (a 168)), (1, .int (zI x1))] [0, 1] rfl ?_
    exact w_X12_speak_19 hc hap he h
set_option maxRecDepth 100000 in
set_option maxHeartbeats 4000000 in
theorem c_X12_speak {l : Launch} (hl : l.stackTraces = false) {a : Nat → Nat} {x1 : Int} {st : z_St} {o : Int × z_St} (h : J_X12_speak x1 st = some o) : z_M 0 l yX12_speak cX12_speak 3 (some .int) 9 z_T z_N a [.ref (a 168), .int (zI x1)] st o.1 o.2 := z_of hl (by decide +kernel) (Nat.le_of_ble_eq_true rfl) (fun κ hc hap he => w_X12_speak hc hap he h)
theorem dX12_shift_0 : decode cX12_shift 0 = .ok (.aload_n 0, 1) := by decide +kernel
theorem dX12_shift_1 : decode cX12_shift 1 = .ok (.aload_n 0, 1) := by decide +kernel
theorem dX12_shift_2 : decode cX12_shift 2 = .ok (.iload_n 1, 1) := by decide +kernel
theorem dX12_shift_3 : decode cX12_shift 3 = .ok (.i2l, 1) := by decide +kernel
theorem dX12_shift_4 : decode cX12_shift 4 = .ok (.lconst 0, 1) := by decide +kernel
theorem dX12_shift_5 : decode cX12_shift 5 = .ok (.ldc2_w 134, 3) := by decide +kernel
theorem dX12_shift_8 : decode cX12_shift 8 = .ok (.invokevirtual 116, 3) := by decide +kernel
theorem dX12_shift_11 : decode cX12_shift 11 = .ok (.ifCond .ne 7, 3) := by decide +kernel
theorem dX12_shift_14 : decode cX12_shift 14 = .ok (.iconst 1, 1) := by decide +kernel
theorem dX12_shift_15 : decode cX12_shift 15 = .ok (.goto 29, 3) := by decide +kernel
theorem dX12_shift_18 : decode cX12_shift 18 = .ok (.aload_n 0, 1) := by decide +kernel
theorem dX12_shift_19 : decode cX12_shift 19 = .ok (.iload_n 2, 1) := by decide +kernel
theorem dX12_shift_20 : decode cX12_shift 20 = .ok (.i2l, 1) := by decide +kernel
theorem dX12_shift_21 : decode cX12_shift 21 = .ok (.lconst 0, 1) := by decide +kernel
theorem dX12_shift_22 : decode cX12_shift 22 = .ok (.ldc2_w 139, 3) := by decide +kernel
theorem dX12_shift_25 : decode cX12_shift 25 = .ok (.invokevirtual 116, 3) := by decide +kernel
theorem dX12_shift_28 : decode cX12_shift 28 = .ok (.ifCond .eq 15, 3) := by decide +kernel
theorem dX12_shift_31 : decode cX12_shift 31 = .ok (.aload_n 0, 1) := by decide +kernel
theorem dX12_shift_32 : decode cX12_shift 32 = .ok (.iload_n 3, 1) := by decide +kernel
theorem dX12_shift_33 : decode cX12_shift 33 = .ok (.invokevirtual 120, 3) := by decide +kernel
theorem dX12_shift_36 : decode cX12_shift 36 = .ok (.ifCond .eq 7, 3) := by decide +kernel
theorem dX12_shift_39 : decode cX12_shift 39 = .ok (.iconst 0, 1) := by decide +kernel
theorem dX12_shift_40 : decode cX12_shift 40 = .ok (.goto 4, 3) := by decide +kernel
theorem dX12_shift_43 : decode cX12_shift 43 = .ok (.iconst 2, 1) := by decide +kernel
theorem dX12_shift_44 : decode cX12_shift 44 = .ok (.invokevirtual 131, 3) := by decide +kernel
theorem dX12_shift_47 : decode cX12_shift 47 = .ok (.ifCond .eq 5, 3) := by decide +kernel
theorem dX12_shift_50 : decode cX12_shift 50 = .ok (.iconst (-1), 1) := by decide +kernel
theorem dX12_shift_51 : decode cX12_shift 51 = .ok (.ireturn, 1) := by decide +kernel
theorem dX12_shift_52 : decode cX12_shift 52 = .ok (.aload_n 0, 1) := by decide +kernel
theorem dX12_shift_53 : decode cX12_shift 53 = .ok (.getfield 13, 3) := by decide +kernel
theorem dX12_shift_56 : decode cX12_shift 56 = .ok (.iconst 3, 1) := by decide +kernel
theorem dX12_shift_57 : decode cX12_shift 57 = .ok (.iload_n 1, 1) := by decide +kernel
theorem dX12_shift_58 : decode cX12_shift 58 = .ok (.imul, 1) := by decide +kernel
theorem dX12_shift_59 : decode cX12_shift 59 = .ok (.iload_n 2, 1) := by decide +kernel
theorem dX12_shift_60 : decode cX12_shift 60 = .ok (.iadd, 1) := by decide +kernel
theorem dX12_shift_61 : decode cX12_shift 61 = .ok (.iaload, 1) := by decide +kernel
theorem dX12_shift_62 : decode cX12_shift 62 = .ok (.istore 4, 2) := by decide +kernel
theorem dX12_shift_64 : decode cX12_shift 64 = .ok (.aload_n 0, 1) := by decide +kernel
theorem dX12_shift_65 : decode cX12_shift 65 = .ok (.getfield 13, 3) := by decide +kernel
theorem dX12_shift_68 : decode cX12_shift 68 = .ok (.iconst 3, 1) := by decide +kernel
theorem dX12_shift_69 : decode cX12_shift 69 = .ok (.iload_n 1, 1) := by decide +kernel
theorem dX12_shift_70 : decode cX12_shift 70 = .ok (.imul, 1) := by decide +kernel
theorem dX12_shift_71 : decode cX12_shift 71 = .ok (.iload_n 2, 1) := by decide +kernel
theorem dX12_shift_72 : decode cX12_shift 72 = .ok (.iadd, 1) := by decide +kernel
theorem dX12_shift_73 : decode cX12_shift 73 = .ok (.iload_n 3, 1) := by decide +kernel
theorem dX12_shift_74 : decode cX12_shift 74 = .ok (.iastore, 1) := by decide +kernel
theorem dX12_shift_75 : decode cX12_shift 75 = .ok (.iload 4, 2) := by decide +kernel
theorem dX12_shift_77 : decode cX12_shift 77 = .ok (.ireturn, 1) := by decide +kernel
def J_X12_shift_44 (v1 v2 v3 s0 : Int) (st : z_St) : Option (Int × z_St) :=
  z_b (J_X12_holds s0 st) fun r3 =>
  z_g (z32 r3.1) (if r3.1 = 0 then
    z_g (0 ≤ (3 * v1) + v2 ∧ (3 * v1) + v2 < 12) <|
    z_g (0 ≤ (3 * v1) + v2 ∧ (3 * v1) + v2 < 12) <|
    z_let (z_up r3.2 170 ((3 * v1) + v2) v3) fun st6 =>
    some (r3.2 170 ((3 * v1) + v2), st6)
  else
    some ((-1), r3.2))
set_option maxRecDepth 100000 in
set_option maxHeartbeats 4000000 in
theorem w_X12_shift_44 {κ : zK} {a : Nat → Nat} {v1 v2 v3 s0 : Int} {st : z_St} {o : Int × z_St} (hc : z_C κ RX12 cX12_shift 5 10 0 0) (hap : z_AP κ a z_N) (he : z_E 0 κ (some .int) z_T z_N a o.1 o.2) (h : J_X12_shift_44 v1 v2 v3 s0 st = some o) : z_V κ z_T z_N a 0 0 44 [(0, .ref (a 168)), (1, .int (zI v1)), (2, .int (zI v2)), (3, .int (zI v3))] [.int (zI s0), .ref (a 168)] st := by
  unfold J_X12_shift_44 at h
  obtain ⟨r3, hr3, h⟩ := z_b_some h
  refine z_callVI [.int (zI s0)] hc hap o_X12_holds ml_RX12_131 (fun l hl => c_X12_holds hl  hr3) (by decide) tT_168 (by decide) ⟨_, rfl, rfl⟩ rfl rfl (Nat.le_of_ble_eq_true rfl) (Nat.zero_le _) (Nat.zero_le _) dX12_shift_44 ?_
  refine z_if_eq (tgt := 52) hc dX12_shift_47 (by decide) h (fun c47 h => ?_) (fun c47 h => ?_)
  · refine z_aload_n (i := 0) 0 hc dX12_shift_52 rfl rfl ?_
    refine z_getA (k' := 170) hc fl_RX12_13 tT_168 (by decide) rfl rfl dX12_shift_53 ?_
    refine z_iconst hc dX12_shift_56 ?_
    refine z_iload_n (i := 1) 1 hc dX12_shift_57 rfl rfl ?_
    refine z_imul hc dX12_shift_58 ?_
    refine z_iload_n (i := 2) 2 hc dX12_shift_59 rfl rfl ?_
    refine z_iadd hc dX12_shift_60 ?_
    refine z_iald (kI := 170) (nI9 := 12) hc tT_170 (by decide) rfl rfl (by decide) dX12_shift_61 h (fun g5 h => ?_)
    refine z_istore [(4, .int (zI (r3.2 170 ((3 * v1) + v2)))), (0, .ref (a 168)), (1, .int (zI v1)), (2, .int (zI v2)), (3, .int (zI v3))] hc dX12_shift_62 (by decide) rfl ?_
    refine z_aload_n (i := 0) 1 hc dX12_shift_64 rfl rfl ?_
    refine z_getA (k' := 170) hc fl_RX12_13 tT_168 (by decide) rfl rfl dX12_shift_65 ?_
    refine z_iconst hc dX12_shift_68 ?_
    refine z_iload_n (i := 1) 2 hc dX12_shift_69 rfl rfl ?_
    refine z_imul hc dX12_shift_70 ?_
    refine z_iload_n (i := 2) 3 hc dX12_shift_71 rfl rfl ?_
    refine z_iadd hc dX12_shift_72 ?_
    refine z_iload_n (i := 3) 4 hc dX12_shift_73 rfl rfl ?_
    refine z_iast (kI := 170) (nI9 := 12) hc hap tT_170 (by decide) rfl rfl (by decide) dX12_shift_74 h (fun st6 h => ?_)
    refine z_iload 0 hc dX12_shift_75 rfl ?_
    have h := Option.some.inj h
    subst h
    exact z_retI hc he dX12_shift_77
  · refine z_iconst hc dX12_shift_50 ?_
    have h := Option.some.inj h
    subst h
    exact z_retI hc he dX12_shift_51
def J_X12_shift_43 (v1 v2 v3 : Int) (st : z_St) : Option (Int × z_St) :=
  J_X12_shift_44 v1 v2 v3 2 st
set_option maxRecDepth 100000 in
set_option maxHeartbeats 4000000 in
theorem w_X12_shift_43 {κ : zK} {a : Nat → Nat} {v1 v2 v3 : Int} {st : z_St} {o : Int × z_St} (hc : z_C κ RX12 cX12_shift 5 10 0 0) (hap : z_AP κ a z_N) (he : z_E 0 κ (some .int) z_T z_N a o.1 o.2) (h : J_X12_shift_43 v1 v2 v3 st = some o) : z_V κ z_T z_N a 0 0 43 [(0, .ref (a 168)), (1, .int (zI v1)), (2, .int (zI v2)), (3, .int (zI v3))] [.ref (a 168)] st := by
  unfold J_X12_shift_43 at h
  refine z_iconst hc dX12_shift_43 ?_
  refine z_sub [(0, .ref (a 168)), (1, .int (zI v1)), (2, .int (zI v2)), (3, .int (zI v3))] [0, 1, 2, 3] rfl ?_
  exact w_X12_shift_44 hc hap he h
def J_X12_shift (x1 x2 x3 : Int) (st : z_St) : Option (Int × z_St) :=
  z_g (z32 x1) <|
  z_b (J_X12_in x1 0 3 st) fun r1 =>
  z_g (z32 r1) (if r1 = 0 then
    J_X12_shift_44 x1 x2 x3 1 st
  else
    z_g (z32 x2) <|
    z_b (J_X12_in x2 0 2 st) fun r7 =>
    z_g (z32 r7) (if r7 = 0 then
      J_X12_shift_43 x1 x2 x3 st
    else
      z_b (J_X12_isNumber x3 st) fun r9 =>
      z_g (z32 r9) (if r9 = 0 then
        J_X12_shift_43 x1 x2 x3 st
      else
        J_X12_shift_44 x1 x2 x3 0 st)))
set_option maxRecDepth 100000 in
set_option maxHeartbeats 4000000 in
theorem w_X12_shift {κ : zK} {a : Nat → Nat} {x1 x2 x3 : Int} {st : z_St} {o : Int × z_St} (hc : z_C κ RX12 cX12_shift 5 10 0 0) (hap : z_AP κ a z_N) (he : z_E 0 κ (some .int) z_T z_N a o.1 o.2) (h : J_X12_shift x1 x2 x3 st = some o) : z_V κ z_T z_N a 0 0 0 [(0, .ref (a 168)), (1, .int (zI x1)), (2, .int (zI x2)), (3, .int (zI x3))] [] st := by
  unfold J_X12_shift at h
  refine z_aload_n (i := 0) 0 hc dX12_shift_0 rfl rfl ?_
  refine z_aload_n (i := 0) 0 hc dX12_shift_1 rfl rfl ?_
  refine z_iload_n (i := 1) 1 hc dX12_shift_2 rfl rfl ?_
  refine z_i2l hc dX12_shift_3 h (fun h => ?_)
  refine z_lconst 0 hc dX12_shift_4 rfl ?_
  refine z_ldc2 3 hc kc_RX12_134 dX12_shift_5 rfl ?_
  obtain ⟨r1, hr1, h⟩ := z_b_some h
  refine z_callVI [.long (zJ x1), .long (zJ 0), .long (zJ 3)] hc hap o_X12_in ml_RX12_116 (fun l hl => c_X12_in hl  hr1) (by decide) tT_168 (by decide) ⟨_, rfl, rfl⟩ rfl rfl (Nat.le_of_ble_eq_true rfl) (Nat.zero_le _) (Nat.zero_le _) dX12_shift_8 ?_
  refine z_if_ne (tgt := 18) hc dX12_shift_11 (by decide) h (fun c11 h => ?_) (fun c11 h => ?_)
  · refine z_iconst hc dX12_shift_14 ?_
    refine z_goto (tgt := 44) hc dX12_shift_15 (by decide) ?_
    refine z_sub [(0, .ref (a 168)), (1, .int (zI x1)), (2, .int (zI x2)), (3, .int (zI x3))] [0, 1, 2, 3] rfl ?_
    exact w_X12_shift_44 hc hap he h
  · refine z_aload_n (i := 0) 0 hc dX12_shift_18 rfl rfl ?_
    refine z_iload_n (i := 2) 2 hc dX12_shift_19 rfl rfl ?_
    refine z_i2l hc dX12_shift_20 h (fun h => ?_)
    refine z_lconst 0 hc dX12_shift_21 rfl ?_
    refine z_ldc2 2 hc kc_RX12_139 dX12_shift_22 rfl ?_
    obtain ⟨r7, hr7, h⟩ := z_b_some h
    refine z_callVI [.long (zJ x2), .long (zJ 0), .long (zJ 2)] hc hap o_X12_in ml_RX12_116 (fun l hl => c_X12_in hl  hr7) (by decide) tT_168 (by decide) ⟨_, rfl, rfl⟩ rfl rfl (Nat.le_of_ble_eq_true rfl) (Nat.zero_le _) (Nat.zero_le _) dX12_shift_25 ?_
    refine z_if_eq (tgt := 43) hc dX12_shift_28 (by decide) h (fun c28 h => ?_) (fun c28 h => ?_)
    · refine z_sub [(0, .ref (a 168)), (1, .int (zI x1)), (2, .int (zI x2)), (3, .int (zI x3))] [0, 1, 2, 3] rfl ?_
      exact w_X12_shift_43 hc hap he h
    · refine z_aload_n (i := 0) 0 hc dX12_shift_31 rfl rfl ?_
      refine z_iload_n (i := 3) 3 hc dX12_shift_32 rfl rfl ?_
      obtain ⟨r9, hr9, h⟩ := z_b_some h
      refine z_callVI [.int (zI x3)] hc hap o_X12_isNumber ml_RX12_120 (fun l hl => c_X12_isNumber hl  hr9) (by decide) tT_168 (by decide) ⟨_, rfl, rfl⟩ rfl rfl (Nat.le_of_ble_eq_true rfl) (Nat.zero_le _) (Nat.zero_le _) dX12_shift_33 ?_
      refine z_if_eq (tgt := 43) hc dX12_shift_36 (by decide) h (fun c36 h => ?_) (fun c36 h => ?_)
      · refine z_sub [(0, .ref (a 168)), (1, .int (zI x1)), (2, .int (zI x2)), (3, .int (zI x3))] [0, 1, 2, 3] rfl ?_
        exact w_X12_shift_43 hc hap he h
      · refine z_iconst hc dX12_shift_39 ?_
        refine z_goto (tgt := 44) hc dX12_shift_40 (by decide) ?_
        refine z_sub [(0, .ref (a 168)), (1, .int (zI x1)), (2, .int (zI x2)), (3, .int (zI x3))] [0, 1, 2, 3] rfl ?_
        exact w_X12_shift_44 hc hap he h
set_option maxRecDepth 100000 in
set_option maxHeartbeats 4000000 in
theorem c_X12_shift {l : Launch} (hl : l.stackTraces = false) {a : Nat → Nat} {x1 x2 x3 : Int} {st : z_St} {o : Int × z_St} (h : J_X12_shift x1 x2 x3 st = some o) : z_M 0 l yX12_shift cX12_shift 5 (some .int) 10 z_T z_N a [.ref (a 168), .int (zI x1), .int (zI x2), .int (zI x3)] st o.1 o.2 := z_of hl (by decide +kernel) (Nat.le_of_ble_eq_true rfl) (fun κ hc hap he => w_X12_shift hc hap he h)
theorem dX12_shiftOf_0 : decode cX12_shiftOf 0 = .ok (.aload_n 0, 1) := by decide +kernel
theorem dX12_shiftOf_1 : decode cX12_shiftOf 1 = .ok (.aload_n 0, 1) := by decide +kernel
theorem dX12_shiftOf_2 : decode cX12_shiftOf 2 = .ok (.iload_n 1, 1) := by decide +kernel
theorem dX12_shiftOf_3 : decode cX12_shiftOf 3 = .ok (.i2l, 1) := by decide +kernel
theorem dX12_shiftOf_4 : decode cX12_shiftOf 4 = .ok (.lconst 0, 1) := by decide +kernel
theorem dX12_shiftOf_5 : decode cX12_shiftOf 5 = .ok (.ldc2_w 134, 3) := by decide +kernel
theorem dX12_shiftOf_8 : decode cX12_shiftOf 8 = .ok (.invokevirtual 116, 3) := by decide +kernel
theorem dX12_shiftOf_11 : decode cX12_shiftOf 11 = .ok (.ifCond .ne 7, 3) := by decide +kernel
theorem dX12_shiftOf_14 : decode cX12_shiftOf 14 = .ok (.iconst 1, 1) := by decide +kernel
theorem dX12_shiftOf_15 : decode cX12_shiftOf 15 = .ok (.goto 21, 3) := by decide +kernel
theorem dX12_shiftOf_18 : decode cX12_shiftOf 18 = .ok (.aload_n 0, 1) := by decide +kernel
theorem dX12_shiftOf_19 : decode cX12_shiftOf 19 = .ok (.iload_n 2, 1) := by decide +kernel
theorem dX12_shiftOf_20 : decode cX12_shiftOf 20 = .ok (.i2l, 1) := by decide +kernel
theorem dX12_shiftOf_21 : decode cX12_shiftOf 21 = .ok (.lconst 0, 1) := by decide +kernel
theorem dX12_shiftOf_22 : decode cX12_shiftOf 22 = .ok (.ldc2_w 139, 3) := by decide +kernel
theorem dX12_shiftOf_25 : decode cX12_shiftOf 25 = .ok (.invokevirtual 116, 3) := by decide +kernel
theorem dX12_shiftOf_28 : decode cX12_shiftOf 28 = .ok (.ifCond .eq 7, 3) := by decide +kernel
theorem dX12_shiftOf_31 : decode cX12_shiftOf 31 = .ok (.iconst 0, 1) := by decide +kernel
theorem dX12_shiftOf_32 : decode cX12_shiftOf 32 = .ok (.goto 4, 3) := by decide +kernel
theorem dX12_shiftOf_35 : decode cX12_shiftOf 35 = .ok (.iconst 2, 1) := by decide +kernel
theorem dX12_shiftOf_36 : decode cX12_shiftOf 36 = .ok (.invokevirtual 131, 3) := by decide +kernel
theorem dX12_shiftOf_39 : decode cX12_shiftOf 39 = .ok (.ifCond .eq 5, 3) := by decide +kernel
theorem dX12_shiftOf_42 : decode cX12_shiftOf 42 = .ok (.iconst (-1), 1) := by decide +kernel
theorem dX12_shiftOf_43 : decode cX12_shiftOf 43 = .ok (.ireturn, 1) := by decide +kernel
theorem dX12_shiftOf_44 : decode cX12_shiftOf 44 = .ok (.aload_n 0, 1) := by decide +kernel
theorem dX12_shiftOf_45 : decode cX12_shiftOf 45 = .ok (.getfield 13, 3) := by decide +kernel
theorem dX12_shiftOf_48 : decode cX12_shiftOf 48 = .ok (.iconst 3, 1) := by decide +kernel
theorem dX12_shiftOf_49 : decode cX12_shiftOf 49 = .ok (.iload_n 1, 1) := by decide +kernel
theorem dX12_shiftOf_50 : decode cX12_shiftOf 50 = .ok (.imul, 1) := by decide +kernel
theorem dX12_shiftOf_51 : decode cX12_shiftOf 51 = .ok (.iload_n 2, 1) := by decide +kernel
theorem dX12_shiftOf_52 : decode cX12_shiftOf 52 = .ok (.iadd, 1) := by decide +kernel
theorem dX12_shiftOf_53 : decode cX12_shiftOf 53 = .ok (.iaload, 1) := by decide +kernel
theorem dX12_shiftOf_54 : decode cX12_shiftOf 54 = .ok (.ireturn, 1) := by decide +kernel
def J_X12_shiftOf_36 (v1 v2 s0 : Int) (st : z_St) : Option (Int × z_St) :=
  z_b (J_X12_holds s0 st) fun r3 =>
  z_g (z32 r3.1) (if r3.1 = 0 then
    z_g (0 ≤ (3 * v1) + v2 ∧ (3 * v1) + v2 < 12) <|
    some (r3.2 170 ((3 * v1) + v2), r3.2)
  else
    some ((-1), r3.2))
set_option maxRecDepth 100000 in
set_option maxHeartbeats 4000000 in
theorem w_X12_shiftOf_36 {κ : zK} {a : Nat → Nat} {v1 v2 s0 : Int} {st : z_St} {o : Int × z_St} (hc : z_C κ RX12 cX12_shiftOf 3 9 0 0) (hap : z_AP κ a z_N) (he : z_E 0 κ (some .int) z_T z_N a o.1 o.2) (h : J_X12_shiftOf_36 v1 v2 s0 st = some o) : z_V κ z_T z_N a 0 0 36 [(0, .ref (a 168)), (1, .int (zI v1)), (2, .int (zI v2))] [.int (zI s0), .ref (a 168)] st := by
  unfold J_X12_shiftOf_36 at h
  obtain ⟨r3, hr3, h⟩ := z_b_some h
  refine z_callVI [.int (zI s0)] hc hap o_X12_holds ml_RX12_131 (fun l hl => c_X12_holds hl  hr3) (by decide) tT_168 (by decide) ⟨_, rfl, rfl⟩ rfl rfl (Nat.le_of_ble_eq_true rfl) (Nat.zero_le _) (Nat.zero_le _) dX12_shiftOf_36 ?_
  refine z_if_eq (tgt := 44) hc dX12_shiftOf_39 (by decide) h (fun c39 h => ?_) (fun c39 h => ?_)
  · refine z_aload_n (i := 0) 0 hc dX12_shiftOf_44 rfl rfl ?_
    refine z_getA (k' := 170) hc fl_RX12_13 tT_168 (by decide) rfl rfl dX12_shiftOf_45 ?_
    refine z_iconst hc dX12_shiftOf_48 ?_
    refine z_iload_n (i := 1) 1 hc dX12_shiftOf_49 rfl rfl ?_
    refine z_imul hc dX12_shiftOf_50 ?_
    refine z_iload_n (i := 2) 2 hc dX12_shiftOf_51 rfl rfl ?_
    refine z_iadd hc dX12_shiftOf_52 ?_
    refine z_iald (kI := 170) (nI9 := 12) hc tT_170 (by decide) rfl rfl (by decide) dX12_shiftOf_53 h (fun g5 h => ?_)
    have h := Option.some.inj h
    subst h
    exact z_retI hc he dX12_shiftOf_54
  · refine z_iconst hc dX12_shiftOf_42 ?_
    have h := Option.some.inj h
    subst h
    exact z_retI hc he dX12_shiftOf_43
def J_X12_shiftOf (x1 x2 : Int) (st : z_St) : Option (Int × z_St) :=
  z_g (z32 x1) <|
  z_b (J_X12_in x1 0 3 st) fun r1 =>
  z_g (z32 r1) (if r1 = 0 then
    J_X12_shiftOf_36 x1 x2 1 st
  else
    z_g (z32 x2) <|
    z_b (J_X12_in x2 0 2 st) fun r6 =>
    z_g (z32 r6) (if r6 = 0 then
      J_X12_shiftOf_36 x1 x2 2 st
    else
      J_X12_shiftOf_36 x1 x2 0 st))
set_option maxRecDepth 100000 in
set_option maxHeartbeats 4000000 in
theorem w_X12_shiftOf {κ : zK} {a : Nat → Nat} {x1 x2 : Int} {st : z_St} {o : Int × z_St} (hc : z_C κ RX12 cX12_shiftOf 3 9 0 0) (hap : z_AP κ a z_N) (he : z_E 0 κ (some .int) z_T z_N a o.1 o.2) (h : J_X12_shiftOf x1 x2 st = some o) : z_V κ z_T z_N a 0 0 0 [(0, .ref (a 168)), (1, .int (zI x1)), (2, .int (zI x2))] [] st := by
  unfold J_X12_shiftOf at h
  refine z_aload_n (i := 0) 0 hc dX12_shiftOf_0 rfl rfl ?_
  refine z_aload_n (i := 0) 0 hc dX12_shiftOf_1 rfl rfl ?_
  refine z_iload_n (i := 1) 1 hc dX12_shiftOf_2 rfl rfl ?_
  refine z_i2l hc dX12_shiftOf_3 h (fun h => ?_)
  refine z_lconst 0 hc dX12_shiftOf_4 rfl ?_
  refine z_ldc2 3 hc kc_RX12_134 dX12_shiftOf_5 rfl ?_
  obtain ⟨r1, hr1, h⟩ := z_b_some h
  refine z_callVI [.long (zJ x1), .long (zJ 0), .long (zJ 3)] hc hap o_X12_in ml_RX12_116 (fun l hl => c_X12_in hl  hr1) (by decide) tT_168 (by decide) ⟨_, rfl, rfl⟩ rfl rfl (Nat.le_of_ble_eq_true rfl) (Nat.zero_le _) (Nat.zero_le _) dX12_shiftOf_8 ?_
  refine z_if_ne (tgt := 18) hc dX12_shiftOf_11 (by decide) h (fun c11 h => ?_) (fun c11 h => ?_)
  · refine z_iconst hc dX12_shiftOf_14 ?_
    refine z_goto (tgt := 36) hc dX12_shiftOf_15 (by decide) ?_
    refine z_sub [(0, .ref (a 168)), (1, .int (zI x1)), (2, .int (zI x2))] [0, 1, 2] rfl ?_
    exact w_X12_shiftOf_36 hc hap he h
  · refine z_aload_n (i := 0) 0 hc dX12_shiftOf_18 rfl rfl ?_
    refine z_iload_n (i := 2) 2 hc dX12_shiftOf_19 rfl rfl ?_
    refine z_i2l hc dX12_shiftOf_20 h (fun h => ?_)
    refine z_lconst 0 hc dX12_shiftOf_21 rfl ?_
    refine z_ldc2 2 hc kc_RX12_139 dX12_shiftOf_22 rfl ?_
    obtain ⟨r6, hr6, h⟩ := z_b_some h
    refine z_callVI [.long (zJ x2), .long (zJ 0), .long (zJ 2)] hc hap o_X12_in ml_RX12_116 (fun l hl => c_X12_in hl  hr6) (by decide) tT_168 (by decide) ⟨_, rfl, rfl⟩ rfl rfl (Nat.le_of_ble_eq_true rfl) (Nat.zero_le _) (Nat.zero_le _) dX12_shiftOf_25 ?_
    refine z_if_eq (tgt := 35) hc dX12_shiftOf_28 (by decide) h (fun c28 h => ?_) (fun c28 h => ?_)
    · refine z_iconst hc dX12_shiftOf_35 ?_
      refine z_sub [(0, .ref (a 168)), (1, .int (zI x1)), (2, .int (zI x2))] [0, 1, 2] rfl ?_
      exact w_X12_shiftOf_36 hc hap he h
    · refine z_iconst hc dX12_shiftOf_31 ?_
      refine z_goto (tgt := 36) hc dX12_shiftOf_32 (by decide) ?_
      refine z_sub [(0, .ref (a 168)), (1, .int (zI x1)), (2, .int (zI x2))] [0, 1, 2] rfl ?_
      exact w_X12_shiftOf_36 hc hap he h
set_option maxRecDepth 100000 in
set_option maxHeartbeats 4000000 in
theorem c_X12_shiftOf {l : Launch} (hl : l.stackTraces = false) {a : Nat → Nat} {x1 x2 : Int} {st : z_St} {o : Int × z_St} (h : J_X12_shiftOf x1 x2 st = some o) : z_M 0 l yX12_shiftOf cX12_shiftOf 3 (some .int) 9 z_T z_N a [.ref (a 168), .int (zI x1), .int (zI x2)] st o.1 o.2 := z_of hl (by decide +kernel) (Nat.le_of_ble_eq_true rfl) (fun κ hc hap he => w_X12_shiftOf hc hap he h)
theorem dX12_clean_0 : decode cX12_clean 0 = .ok (.aload_n 0, 1) := by decide +kernel
theorem dX12_clean_1 : decode cX12_clean 1 = .ok (.getfield 7, 3) := by decide +kernel
theorem dX12_clean_4 : decode cX12_clean 4 = .ok (.iconst 3, 1) := by decide +kernel
theorem dX12_clean_5 : decode cX12_clean 5 = .ok (.iload_n 1, 1) := by decide +kernel
theorem dX12_clean_6 : decode cX12_clean 6 = .ok (.imul, 1) := by decide +kernel
theorem dX12_clean_7 : decode cX12_clean 7 = .ok (.iload_n 2, 1) := by decide +kernel
theorem dX12_clean_8 : decode cX12_clean 8 = .ok (.iadd, 1) := by decide +kernel
theorem dX12_clean_9 : decode cX12_clean 9 = .ok (.iaload, 1) := by decide +kernel
theorem dX12_clean_10 : decode cX12_clean 10 = .ok (.aload_n 0, 1) := by decide +kernel
theorem dX12_clean_11 : decode cX12_clean 11 = .ok (.getfield 13, 3) := by decide +kernel
theorem dX12_clean_14 : decode cX12_clean 14 = .ok (.iconst 3, 1) := by decide +kernel
theorem dX12_clean_15 : decode cX12_clean 15 = .ok (.aload_n 0, 1) := by decide +kernel
theorem dX12_clean_16 : decode cX12_clean 16 = .ok (.getfield 136, 3) := by decide +kernel
theorem dX12_clean_19 : decode cX12_clean 19 = .ok (.imul, 1) := by decide +kernel
theorem dX12_clean_20 : decode cX12_clean 20 = .ok (.iload_n 2, 1) := by decide +kernel
theorem dX12_clean_21 : decode cX12_clean 21 = .ok (.iadd, 1) := by decide +kernel
theorem dX12_clean_22 : decode cX12_clean 22 = .ok (.iaload, 1) := by decide +kernel
theorem dX12_clean_23 : decode cX12_clean 23 = .ok (.isub, 1) := by decide +kernel
theorem dX12_clean_24 : decode cX12_clean 24 = .ok (.ireturn, 1) := by decide +kernel
def J_X12_clean (x1 x2 : Int) (st : z_St) : Option (Int) :=
  z_g (0 ≤ (3 * x1) + x2 ∧ (3 * x1) + x2 < 48) <|
  z_g (0 ≤ (3 * (st 168 4)) + x2 ∧ (3 * (st 168 4)) + x2 < 12) <|
  some ((st 169 ((3 * x1) + x2)) - (st 170 ((3 * (st 168 4)) + x2)))
set_option maxRecDepth 100000 in
set_option maxHeartbeats 4000000 in
theorem w_X12_clean {κ : zK} {a : Nat → Nat} {x1 x2 : Int} {st : z_St} {o : Int} (hc : z_C κ RX12 cX12_clean 3 8 0 0) (hap : z_AP κ a z_N) (he : z_E 0 κ (some .int) z_T z_N a o st) (h : J_X12_clean x1 x2 st = some o) : z_V κ z_T z_N a 0 0 0 [(0, .ref (a 168)), (1, .int (zI x1)), (2, .int (zI x2))] [] st := by
  unfold J_X12_clean at h
  refine z_aload_n (i := 0) 0 hc dX12_clean_0 rfl rfl ?_
  refine z_getA (k' := 169) hc fl_RX12_7 tT_168 (by decide) rfl rfl dX12_clean_1 ?_
  refine z_iconst hc dX12_clean_4 ?_
  refine z_iload_n (i := 1) 1 hc dX12_clean_5 rfl rfl ?_
  refine z_imul hc dX12_clean_6 ?_
  refine z_iload_n (i := 2) 2 hc dX12_clean_7 rfl rfl ?_
  refine z_iadd hc dX12_clean_8 ?_
  refine z_iald (kI := 169) (nI9 := 48) hc tT_169 (by decide) rfl rfl (by decide) dX12_clean_9 h (fun g1 h => ?_)
  refine z_aload_n (i := 0) 0 hc dX12_clean_10 rfl rfl ?_
  refine z_getA (k' := 170) hc fl_RX12_13 tT_168 (by decide) rfl rfl dX12_clean_11 ?_
  refine z_iconst hc dX12_clean_14 ?_
  refine z_aload_n (i := 0) 0 hc dX12_clean_15 rfl rfl ?_
  refine z_getI (kI := 168) (jI := 4) hc fl_RX12_136 tT_168 (by decide) rfl rfl rfl dX12_clean_16 ?_
  refine z_imul hc dX12_clean_19 ?_
  refine z_iload_n (i := 2) 2 hc dX12_clean_20 rfl rfl ?_
  refine z_iadd hc dX12_clean_21 ?_
  refine z_iald (kI := 170) (nI9 := 12) hc tT_170 (by decide) rfl rfl (by decide) dX12_clean_22 h (fun g2 h => ?_)
  refine z_isub hc dX12_clean_23 ?_
  have h := Option.some.inj h
  subst h
  exact z_retI hc he dX12_clean_24
set_option maxRecDepth 100000 in
set_option maxHeartbeats 4000000 in
theorem c_X12_clean {l : Launch} (hl : l.stackTraces = false) {a : Nat → Nat} {x1 x2 : Int} {st : z_St} {o : Int} (h : J_X12_clean x1 x2 st = some o) : z_M 0 l yX12_clean cX12_clean 3 (some .int) 8 z_T z_N a [.ref (a 168), .int (zI x1), .int (zI x2)] st o st := z_of hl (by decide +kernel) (Nat.le_of_ble_eq_true rfl) (fun κ hc hap he => w_X12_clean hc hap he h)
theorem dX12_lies_0 : decode cX12_lies 0 = .ok (.aload_n 0, 1) := by decide +kernel
theorem dX12_lies_1 : decode cX12_lies 1 = .ok (.getfield 16, 3) := by decide +kernel
theorem dX12_lies_4 : decode cX12_lies 4 = .ok (.iconst 3, 1) := by decide +kernel
theorem dX12_lies_5 : decode cX12_lies 5 = .ok (.iload_n 1, 1) := by decide +kernel
theorem dX12_lies_6 : decode cX12_lies 6 = .ok (.imul, 1) := by decide +kernel
theorem dX12_lies_7 : decode cX12_lies 7 = .ok (.iload_n 3, 1) := by decide +kernel
theorem dX12_lies_8 : decode cX12_lies 8 = .ok (.iadd, 1) := by decide +kernel
theorem dX12_lies_9 : decode cX12_lies 9 = .ok (.iaload, 1) := by decide +kernel
theorem dX12_lies_10 : decode cX12_lies 10 = .ok (.iload_n 2, 1) := by decide +kernel
theorem dX12_lies_11 : decode cX12_lies 11 = .ok (.ifCond .le 18, 3) := by decide +kernel
theorem dX12_lies_14 : decode cX12_lies 14 = .ok (.aload_n 0, 1) := by decide +kernel
theorem dX12_lies_15 : decode cX12_lies 15 = .ok (.getfield 31, 3) := by decide +kernel
theorem dX12_lies_18 : decode cX12_lies 18 = .ok (.iconst 3, 1) := by decide +kernel
theorem dX12_lies_19 : decode cX12_lies 19 = .ok (.iload_n 1, 1) := by decide +kernel
theorem dX12_lies_20 : decode cX12_lies 20 = .ok (.imul, 1) := by decide +kernel
theorem dX12_lies_21 : decode cX12_lies 21 = .ok (.iload_n 2, 1) := by decide +kernel
theorem dX12_lies_22 : decode cX12_lies 22 = .ok (.iadd, 1) := by decide +kernel
theorem dX12_lies_23 : decode cX12_lies 23 = .ok (.iconst 1, 1) := by decide +kernel
theorem dX12_lies_24 : decode cX12_lies 24 = .ok (.isub, 1) := by decide +kernel
theorem dX12_lies_25 : decode cX12_lies 25 = .ok (.iaload, 1) := by decide +kernel
theorem dX12_lies_26 : decode cX12_lies 26 = .ok (.goto 4, 3) := by decide +kernel
theorem dX12_lies_29 : decode cX12_lies 29 = .ok (.iconst 0, 1) := by decide +kernel
theorem dX12_lies_30 : decode cX12_lies 30 = .ok (.iadd, 1) := by decide +kernel
theorem dX12_lies_31 : decode cX12_lies 31 = .ok (.ireturn, 1) := by decide +kernel
def J_X12_lies_30 (s0 s1 : Int) (st : z_St) : Option (Int) :=
  some (s1 + s0)
set_option maxRecDepth 100000 in
set_option maxHeartbeats 4000000 in
theorem w_X12_lies_30 {κ : zK} {a : Nat → Nat} {s0 s1 : Int} {st : z_St} {o : Int} (hc : z_C κ RX12 cX12_lies 4 8 0 0) (hap : z_AP κ a z_N) (he : z_E 0 κ (some .int) z_T z_N a o st) (h : J_X12_lies_30 s0 s1 st = some o) : z_V κ z_T z_N a 0 0 30 [] [.int (zI s0), .int (zI s1)] st := by
  unfold J_X12_lies_30 at h
  refine z_iadd hc dX12_lies_30 ?_
  have h := Option.some.inj h
  subst h
  exact z_retI hc he dX12_lies_31
def J_X12_lies (x1 x2 x3 : Int) (st : z_St) : Option (Int) :=
  z_g (0 ≤ (3 * x1) + x3 ∧ (3 * x1) + x3 < 18) <|
  z_g (z32 x2) (if 0 < x2 then
    z_g (0 ≤ ((3 * x1) + x2) - 1 ∧ ((3 * x1) + x2) - 1 < 18) <|
    J_X12_lies_30 (st 176 (((3 * x1) + x2) - 1)) (st 171 ((3 * x1) + x3)) st
  else
    J_X12_lies_30 0 (st 171 ((3 * x1) + x3)) st)
set_option maxRecDepth 100000 in
set_option maxHeartbeats 4000000 in
theorem w_X12_lies {κ : zK} {a : Nat → Nat} {x1 x2 x3 : Int} {st : z_St} {o : Int} (hc : z_C κ RX12 cX12_lies 4 8 0 0) (hap : z_AP κ a z_N) (he : z_E 0 κ (some .int) z_T z_N a o st) (h : J_X12_lies x1 x2 x3 st = some o) : z_V κ z_T z_N a 0 0 0 [(0, .ref (a 168)), (1, .int (zI x1)), (2, .int (zI x2)), (3, .int (zI x3))] [] st := by
  unfold J_X12_lies at h
  refine z_aload_n (i := 0) 0 hc dX12_lies_0 rfl rfl ?_
  refine z_getA (k' := 171) hc fl_RX12_16 tT_168 (by decide) rfl rfl dX12_lies_1 ?_
  refine z_iconst hc dX12_lies_4 ?_
  refine z_iload_n (i := 1) 1 hc dX12_lies_5 rfl rfl ?_
  refine z_imul hc dX12_lies_6 ?_
  refine z_iload_n (i := 3) 3 hc dX12_lies_7 rfl rfl ?_
  refine z_iadd hc dX12_lies_8 ?_
  refine z_iald (kI := 171) (nI9 := 18) hc tT_171 (by decide) rfl rfl (by decide) dX12_lies_9 h (fun g1 h => ?_)
  refine z_iload_n (i := 2) 2 hc dX12_lies_10 rfl rfl ?_
  refine z_if_le (tgt := 29) hc dX12_lies_11 (by decide) h (fun c11 h => ?_) (fun c11 h => ?_)
  · refine z_aload_n (i := 0) 0 hc dX12_lies_14 rfl rfl ?_
    refine z_getA (k' := 176) hc fl_RX12_31 tT_168 (by decide) rfl rfl dX12_lies_15 ?_
    refine z_iconst hc dX12_lies_18 ?_
    refine z_iload_n (i := 1) 1 hc dX12_lies_19 rfl rfl ?_
    refine z_imul hc dX12_lies_20 ?_
    refine z_iload_n (i := 2) 2 hc dX12_lies_21 rfl rfl ?_
    refine z_iadd hc dX12_lies_22 ?_
    refine z_iconst hc dX12_lies_23 ?_
    refine z_isub hc dX12_lies_24 ?_
    refine z_iald (kI := 176) (nI9 := 18) hc tT_176 (by decide) rfl rfl (by decide) dX12_lies_25 h (fun g2 h => ?_)
    refine z_goto (tgt := 30) hc dX12_lies_26 (by decide) ?_
    refine z_sub [] [] rfl ?_
    exact w_X12_lies_30 hc hap he h
  · refine z_iconst hc dX12_lies_29 ?_
    refine z_sub [] [] rfl ?_
    exact w_X12_lies_30 hc hap he h
set_option maxRecDepth 100000 in
set_option maxHeartbeats 4000000 in
theorem c_X12_lies {l : Launch} (hl : l.stackTraces = false) {a : Nat → Nat} {x1 x2 x3 : Int} {st : z_St} {o : Int} (h : J_X12_lies x1 x2 x3 st = some o) : z_M 0 l yX12_lies cX12_lies 4 (some .int) 8 z_T z_N a [.ref (a 168), .int (zI x1), .int (zI x2), .int (zI x3)] st o st := z_of hl (by decide +kernel) (Nat.le_of_ble_eq_true rfl) (fun κ hc hap he => w_X12_lies hc hap he h)
theorem dX12_down_0 : decode cX12_down 0 = .ok (.lload_n 1, 1) := by decide +kernel
theorem dX12_down_1 : decode cX12_down 1 = .ok (.lconst 0, 1) := by decide +kernel
theorem dX12_down_2 : decode cX12_down 2 = .ok (.lcmp, 1) := by decide +kernel
theorem dX12_down_3 : decode cX12_down 3 = .ok (.ifCond .lt 10, 3) := by decide +kernel
theorem dX12_down_6 : decode cX12_down 6 = .ok (.lload_n 1, 1) := by decide +kernel
theorem dX12_down_7 : decode cX12_down 7 = .ok (.iload_n 3, 1) := by decide +kernel
theorem dX12_down_8 : decode cX12_down 8 = .ok (.i2l, 1) := by decide +kernel
theorem dX12_down_9 : decode cX12_down 9 = .ok (.ldiv, 1) := by decide +kernel
theorem dX12_down_10 : decode cX12_down 10 = .ok (.goto 13, 3) := by decide +kernel
theorem dX12_down_13 : decode cX12_down 13 = .ok (.iload_n 3, 1) := by decide +kernel
theorem dX12_down_14 : decode cX12_down 14 = .ok (.iconst 1, 1) := by decide +kernel
theorem dX12_down_15 : decode cX12_down 15 = .ok (.isub, 1) := by decide +kernel
theorem dX12_down_16 : decode cX12_down 16 = .ok (.i2l, 1) := by decide +kernel
theorem dX12_down_17 : decode cX12_down 17 = .ok (.lload_n 1, 1) := by decide +kernel
theorem dX12_down_18 : decode cX12_down 18 = .ok (.lsub, 1) := by decide +kernel
theorem dX12_down_19 : decode cX12_down 19 = .ok (.iload_n 3, 1) := by decide +kernel
theorem dX12_down_20 : decode cX12_down 20 = .ok (.i2l, 1) := by decide +kernel
theorem dX12_down_21 : decode cX12_down 21 = .ok (.ldiv, 1) := by decide +kernel
theorem dX12_down_22 : decode cX12_down 22 = .ok (.lneg, 1) := by decide +kernel
theorem dX12_down_23 : decode cX12_down 23 = .ok (.lreturn, 1) := by decide +kernel
def J_X12_down_23 (s0 : Int) (st : z_St) : Option (Int) :=
  some s0
set_option maxRecDepth 100000 in
set_option maxHeartbeats 4000000 in
theorem w_X12_down_23 {κ : zK} {a : Nat → Nat} {s0 : Int} {st : z_St} {o : Int} (hc : z_C κ RX12 cX12_down 4 8 0 0) (hap : z_AP κ a z_N) (he : z_E 1 κ (some .long) z_T z_N a o st) (h : J_X12_down_23 s0 st = some o) : z_V κ z_T z_N a 0 0 23 [] [.long (zJ s0)] st := by
  unfold J_X12_down_23 at h
  have h := Option.some.inj h
  subst h
  exact z_retJ hc he dX12_down_23
def J_X12_down (x1 x3 : Int) (st : z_St) : Option (Int) :=
  z_g (z64 x1 ∧ z64 0) (if x1 < 0 then
    z_g (z32 (x3 - 1)) <|
    z_g (z32 x3) <|
    z_g (z64 ((x3 - 1) - x1) ∧ z64 x3 ∧ (x3 : Int) ≠ 0) <|
    J_X12_down_23 (-(((x3 - 1) - x1).tdiv x3)) st
  else
    z_g (z32 x3) <|
    z_g (z64 x1 ∧ z64 x3 ∧ (x3 : Int) ≠ 0) <|
    J_X12_down_23 (x1.tdiv x3) st)
set_option maxRecDepth 100000 in
set_option maxHeartbeats 4000000 in
theorem w_X12_down {κ : zK} {a : Nat → Nat} {x1 x3 : Int} {st : z_St} {o : Int} (hc : z_C κ RX12 cX12_down 4 8 0 0) (hap : z_AP κ a z_N) (he : z_E 1 κ (some .long) z_T z_N a o st) (h : J_X12_down x1 x3 st = some o) : z_V κ z_T z_N a 0 0 0 [(0, .ref (a 168)), (1, .long (zJ x1)), (3, .int (zI x3))] [] st := by
  unfold J_X12_down at h
  refine z_lload_n (i := 1) 1 hc dX12_down_0 rfl rfl ?_
  refine z_lconst 0 hc dX12_down_1 rfl ?_
  refine z_lcmp_lt (tgt := 13) hc dX12_down_2 dX12_down_3 (by decide) h (fun c2 h => ?_) (fun c2 h => ?_)
  · refine z_iload_n (i := 3) 2 hc dX12_down_13 rfl rfl ?_
    refine z_iconst hc dX12_down_14 ?_
    refine z_isub hc dX12_down_15 ?_
    refine z_i2l hc dX12_down_16 h (fun h => ?_)
    refine z_lload_n (i := 1) 1 hc dX12_down_17 rfl rfl ?_
    refine z_lsub hc dX12_down_18 ?_
    refine z_iload_n (i := 3) 2 hc dX12_down_19 rfl rfl ?_
    refine z_i2l hc dX12_down_20 h (fun h => ?_)
    refine z_ldiv hc dX12_down_21 h (fun h => ?_)
    refine z_lneg hc dX12_down_22 ?_
    refine z_sub [] [] rfl ?_
    exact w_X12_down_23 hc hap he h
  · refine z_lload_n (i := 1) 1 hc dX12_down_6 rfl rfl ?_
    refine z_iload_n (i := 3) 2 hc dX12_down_7 rfl rfl ?_
    refine z_i2l hc dX12_down_8 h (fun h => ?_)
    refine z_ldiv hc dX12_down_9 h (fun h => ?_)
    refine z_goto (tgt := 23) hc dX12_down_10 (by decide) ?_
    refine z_sub [] [] rfl ?_
    exact w_X12_down_23 hc hap he h
set_option maxRecDepth 100000 in
set_option maxHeartbeats 4000000 in
theorem c_X12_down {l : Launch} (hl : l.stackTraces = false) {a : Nat → Nat} {x1 x3 : Int} {st : z_St} {o : Int} (h : J_X12_down x1 x3 st = some o) : z_M 1 l yX12_down cX12_down 4 (some .long) 8 z_T z_N a [.ref (a 168), .long (zJ x1), .int (zI x3)] st o st := z_of hl (by decide +kernel) (Nat.le_of_ble_eq_true rfl) (fun κ hc hap he => w_X12_down hc hap he h)
theorem dX12_span_0 : decode cX12_span 0 = .ok (.sipush 289, 3) := by decide +kernel
theorem dX12_span_3 : decode cX12_span 3 = .ok (.iload_n 1, 1) := by decide +kernel
theorem dX12_span_4 : decode cX12_span 4 = .ok (.imul, 1) := by decide +kernel
theorem dX12_span_5 : decode cX12_span 5 = .ok (.bipush 17, 2) := by decide +kernel
theorem dX12_span_7 : decode cX12_span 7 = .ok (.iload_n 2, 1) := by decide +kernel
theorem dX12_span_8 : decode cX12_span 8 = .ok (.imul, 1) := by decide +kernel
theorem dX12_span_9 : decode cX12_span 9 = .ok (.iadd, 1) := by decide +kernel
theorem dX12_span_10 : decode cX12_span 10 = .ok (.iload_n 3, 1) := by decide +kernel
theorem dX12_span_11 : decode cX12_span 11 = .ok (.iadd, 1) := by decide +kernel
theorem dX12_span_12 : decode cX12_span 12 = .ok (.ireturn, 1) := by decide +kernel
def J_X12_span (x1 x2 x3 : Int) (st : z_St) : Option (Int) :=
  some (((289 * x1) + (17 * x2)) + x3)
set_option maxRecDepth 100000 in
set_option maxHeartbeats 4000000 in
theorem w_X12_span {κ : zK} {a : Nat → Nat} {x1 x2 x3 : Int} {st : z_St} {o : Int} (hc : z_C κ RX12 cX12_span 4 8 0 0) (hap : z_AP κ a z_N) (he : z_E 0 κ (some .int) z_T z_N a o st) (h : J_X12_span x1 x2 x3 st = some o) : z_V κ z_T z_N a 0 0 0 [(0, .ref (a 168)), (1, .int (zI x1)), (2, .int (zI x2)), (3, .int (zI x3))] [] st := by
  unfold J_X12_span at h
  refine z_sipush hc dX12_span_0 rfl ?_
  refine z_iload_n (i := 1) 1 hc dX12_span_3 rfl rfl ?_
  refine z_imul hc dX12_span_4 ?_
  refine z_bipush hc dX12_span_5 rfl ?_
  refine z_iload_n (i := 2) 2 hc dX12_span_7 rfl rfl ?_
  refine z_imul hc dX12_span_8 ?_
  refine z_iadd hc dX12_span_9 ?_
  refine z_iload_n (i := 3) 3 hc dX12_span_10 rfl rfl ?_
  refine z_iadd hc dX12_span_11 ?_
  have h := Option.some.inj h
  subst h
  exact z_retI hc he dX12_span_12
set_option maxRecDepth 100000 in
set_option maxHeartbeats 4000000 in
theorem c_X12_span {l : Launch} (hl : l.stackTraces = false) {a : Nat → Nat} {x1 x2 x3 : Int} {st : z_St} {o : Int} (h : J_X12_span x1 x2 x3 st = some o) : z_M 0 l yX12_span cX12_span 4 (some .int) 8 z_T z_N a [.ref (a 168), .int (zI x1), .int (zI x2), .int (zI x3)] st o st := z_of hl (by decide +kernel) (Nat.le_of_ble_eq_true rfl) (fun κ hc hap he => w_X12_span hc hap he h)
theorem dX12_formOf_0 : decode cX12_formOf 0 = .ok (.aload_n 0, 1) := by decide +kernel
theorem dX12_formOf_1 : decode cX12_formOf 1 = .ok (.getfield 43, 3) := by decide +kernel
theorem dX12_formOf_4 : decode cX12_formOf 4 = .ok (.iconst 4, 1) := by decide +kernel
theorem dX12_formOf_5 : decode cX12_formOf 5 = .ok (.iload_n 1, 1) := by decide +kernel
theorem dX12_formOf_6 : decode cX12_formOf 6 = .ok (.imul, 1) := by decide +kernel
theorem dX12_formOf_7 : decode cX12_formOf 7 = .ok (.iload_n 2, 1) := by decide +kernel
theorem dX12_formOf_8 : decode cX12_formOf 8 = .ok (.iadd, 1) := by decide +kernel
theorem dX12_formOf_9 : decode cX12_formOf 9 = .ok (.iaload, 1) := by decide +kernel
theorem dX12_formOf_10 : decode cX12_formOf 10 = .ok (.istore_n 3, 1) := by decide +kernel
theorem dX12_formOf_11 : decode cX12_formOf 11 = .ok (.iconst 0, 1) := by decide +kernel
theorem dX12_formOf_12 : decode cX12_formOf 12 = .ok (.istore 4, 2) := by decide +kernel
theorem dX12_formOf_14 : decode cX12_formOf 14 = .ok (.iload 4, 2) := by decide +kernel
theorem dX12_formOf_16 : decode cX12_formOf 16 = .ok (.aload_n 0, 1) := by decide +kernel
theorem dX12_formOf_17 : decode cX12_formOf 17 = .ok (.getfield 22, 3) := by decide +kernel
theorem dX12_formOf_20 : decode cX12_formOf 20 = .ok (.iload_n 3, 1) := by decide +kernel
theorem dX12_formOf_21 : decode cX12_formOf 21 = .ok (.iaload, 1) := by decide +kernel
theorem dX12_formOf_22 : decode cX12_formOf 22 = .ok (.if_icmp .ge 92, 3) := by decide +kernel
theorem dX12_formOf_25 : decode cX12_formOf 25 = .ok (.aload_n 0, 1) := by decide +kernel
theorem dX12_formOf_26 : decode cX12_formOf 26 = .ok (.getfield 25, 3) := by decide +kernel
theorem dX12_formOf_29 : decode cX12_formOf 29 = .ok (.iconst 3, 1) := by decide +kernel
theorem dX12_formOf_30 : decode cX12_formOf 30 = .ok (.iload_n 3, 1) := by decide +kernel
theorem dX12_formOf_31 : decode cX12_formOf 31 = .ok (.imul, 1) := by decide +kernel
theorem dX12_formOf_32 : decode cX12_formOf 32 = .ok (.iload 4, 2) := by decide +kernel
theorem dX12_formOf_34 : decode cX12_formOf 34 = .ok (.iadd, 1) := by decide +kernel
theorem dX12_formOf_35 : decode cX12_formOf 35 = .ok (.iaload, 1) := by decide +kernel
theorem dX12_formOf_36 : decode cX12_formOf 36 = .ok (.ifCond .ne 9, 3) := by decide +kernel
theorem dX12_formOf_39 : decode cX12_formOf 39 = .ok (.iload_n 2, 1) := by decide +kernel
theorem dX12_formOf_40 : decode cX12_formOf 40 = .ok (.iconst 1, 1) := by decide +kernel
theorem dX12_formOf_41 : decode cX12_formOf 41 = .ok (.isub, 1) := by decide +kernel
theorem dX12_formOf_42 : decode cX12_formOf 42 = .ok (.goto 6, 3) := by decide +kernel
theorem dX12_formOf_45 : decode cX12_formOf 45 = .ok (.iload_n 2, 1) := by decide +kernel
theorem dX12_formOf_46 : decode cX12_formOf 46 = .ok (.iconst 1, 1) := by decide +kernel
theorem dX12_formOf_47 : decode cX12_formOf 47 = .ok (.iadd, 1) := by decide +kernel
theorem dX12_formOf_48 : decode cX12_formOf 48 = .ok (.istore 5, 2) := by decide +kernel
theorem dX12_formOf_50 : decode cX12_formOf 50 = .ok (.aload_n 0, 1) := by decide +kernel
theorem dX12_formOf_51 : decode cX12_formOf 51 = .ok (.iload 5, 2) := by decide +kernel
theorem dX12_formOf_53 : decode cX12_formOf 53 = .ok (.i2l, 1) := by decide +kernel
theorem dX12_formOf_54 : decode cX12_formOf 54 = .ok (.lconst 0, 1) := by decide +kernel
theorem dX12_formOf_55 : decode cX12_formOf 55 = .ok (.aload_n 0, 1) := by decide +kernel
theorem dX12_formOf_56 : decode cX12_formOf 56 = .ok (.getfield 40, 3) := by decide +kernel
theorem dX12_formOf_59 : decode cX12_formOf 59 = .ok (.iload_n 1, 1) := by decide +kernel
theorem dX12_formOf_60 : decode cX12_formOf 60 = .ok (.iaload, 1) := by decide +kernel
theorem dX12_formOf_61 : decode cX12_formOf 61 = .ok (.iconst 1, 1) := by decide +kernel
theorem dX12_formOf_62 : decode cX12_formOf 62 = .ok (.isub, 1) := by decide +kernel
theorem dX12_formOf_63 : decode cX12_formOf 63 = .ok (.i2l, 1) := by decide +kernel
theorem dX12_formOf_64 : decode cX12_formOf 64 = .ok (.invokevirtual 116, 3) := by decide +kernel
theorem dX12_formOf_67 : decode cX12_formOf 67 = .ok (.istore 6, 2) := by decide +kernel
theorem dX12_formOf_69 : decode cX12_formOf 69 = .ok (.iload 6, 2) := by decide +kernel
theorem dX12_formOf_71 : decode cX12_formOf 71 = .ok (.ifCond .eq 37, 3) := by decide +kernel
theorem dX12_formOf_74 : decode cX12_formOf 74 = .ok (.aload_n 0, 1) := by decide +kernel
theorem dX12_formOf_75 : decode cX12_formOf 75 = .ok (.getfield 28, 3) := by decide +kernel
theorem dX12_formOf_78 : decode cX12_formOf 78 = .ok (.iconst 3, 1) := by decide +kernel
theorem dX12_formOf_79 : decode cX12_formOf 79 = .ok (.iload_n 3, 1) := by decide +kernel
theorem dX12_formOf_80 : decode cX12_formOf 80 = .ok (.imul, 1) := by decide +kernel
theorem dX12_formOf_81 : decode cX12_formOf 81 = .ok (.iload 4, 2) := by decide +kernel
theorem dX12_formOf_83 : decode cX12_formOf 83 = .ok (.iadd, 1) := by decide +kernel
theorem dX12_formOf_84 : decode cX12_formOf 84 = .ok (.iaload, 1) := by decide +kernel
theorem dX12_formOf_85 : decode cX12_formOf 85 = .ok (.aload_n 0, 1) := by decide +kernel
theorem dX12_formOf_86 : decode cX12_formOf 86 = .ok (.getfield 43, 3) := by decide +kernel
theorem dX12_formOf_89 : decode cX12_formOf 89 = .ok (.iconst 4, 1) := by decide +kernel
theorem dX12_formOf_90 : decode cX12_formOf 90 = .ok (.iload_n 1, 1) := by decide +kernel
theorem dX12_formOf_91 : decode cX12_formOf 91 = .ok (.imul, 1) := by decide +kernel
theorem dX12_formOf_92 : decode cX12_formOf 92 = .ok (.iload 5, 2) := by decide +kernel
theorem dX12_formOf_94 : decode cX12_formOf 94 = .ok (.iadd, 1) := by decide +kernel
theorem dX12_formOf_95 : decode cX12_formOf 95 = .ok (.iaload, 1) := by decide +kernel
theorem dX12_formOf_96 : decode cX12_formOf 96 = .ok (.ishr, 1) := by decide +kernel
theorem dX12_formOf_97 : decode cX12_formOf 97 = .ok (.iconst 1, 1) := by decide +kernel
theorem dX12_formOf_98 : decode cX12_formOf 98 = .ok (.iand, 1) := by decide +kernel
theorem dX12_formOf_99 : decode cX12_formOf 99 = .ok (.iconst 1, 1) := by decide +kernel
theorem dX12_formOf_100 : decode cX12_formOf 100 = .ok (.if_icmp .ne 8, 3) := by decide +kernel
theorem dX12_formOf_103 : decode cX12_formOf 103 = .ok (.iload 4, 2) := by decide +kernel
theorem dX12_formOf_105 : decode cX12_formOf 105 = .ok (.iconst 1, 1) := by decide +kernel
theorem dX12_formOf_106 : decode cX12_formOf 106 = .ok (.iadd, 1) := by decide +kernel
theorem dX12_formOf_107 : decode cX12_formOf 107 = .ok (.ireturn, 1) := by decide +kernel
theorem dX12_formOf_108 : decode cX12_formOf 108 = .ok (.iinc 4 1, 3) := by decide +kernel
theorem dX12_formOf_111 : decode cX12_formOf 111 = .ok (.goto (-97), 3) := by decide +kernel
theorem dX12_formOf_114 : decode cX12_formOf 114 = .ok (.iconst 0, 1) := by decide +kernel
theorem dX12_formOf_115 : decode cX12_formOf 115 = .ok (.ireturn, 1) := by decide +kernel
def J_X12_formOf_108 (v1 v2 v3 v4 : Int) (st : z_St) : Option (Int ⊕ (Unit ⊕ Int)) :=
  some (.inl (v4 + 1))
set_option maxRecDepth 100000 in
set_option maxHeartbeats 4000000 in
theorem w_X12_formOf_108 {κ : zK} {a : Nat → Nat} {v1 v2 v3 v4 : Int} {st : z_St} {mc9 ms9 : Nat} {o : Int ⊕ (Unit ⊕ Int)} (hc : z_C κ RX12 cX12_formOf 7 9 mc9 ms9) (hap : z_AP κ a z_N) (k1 : ∀ s9 : Int, o = .inl s9 → z_V κ z_T z_N a 0 0 14 [(0, .ref (a 168)), (1, .int (zI v1)), (2, .int (zI v2)), (3, .int (zI v3)), (4, .int (zI s9))] [] st) (k2 : ∀ x9 : (Unit ⊕ Int), o = .inr x9 → (match x9 with | .inl y9 => z_V κ z_T z_N a 0 0 114 [] [] st | .inr y9 => z_V κ z_T z_N a 0 0 103 [(4, .int (zI y9))] [] st)) (h : J_X12_formOf_108 v1 v2 v3 v4 st = some o) : z_V κ z_T z_N a 0 0 108 [(0, .ref (a 168)), (1, .int (zI v1)), (2, .int (zI v2)), (3, .int (zI v3)), (4, .int (zI v4))] [] st := by
  unfold J_X12_formOf_108 at h
  refine z_iinc [(4, .int (zI (v4 + 1))), (0, .ref (a 168)), (1, .int (zI v1)), (2, .int (zI v2)), (3, .int (zI v3))] 4 hc dX12_formOf_108 rfl (by decide) rfl ?_
  refine z_goto (tgt := 14) hc dX12_formOf_111 (by decide) ?_
  refine z_sub [(0, .ref (a 168)), (1, .int (zI v1)), (2, .int (zI v2)), (3, .int (zI v3)), (4, .int (zI (v4 + 1)))] [1, 2, 3, 4, 0] rfl ?_
  exact k1 _ (Option.some.inj h).symm
def J_X12_formOf_48 (v1 v2 v3 v4 s0 : Int) (st : z_St) : Option (Int ⊕ (Unit ⊕ Int)) :=
  z_g (z32 s0) <|
  z_g (0 ≤ v1 ∧ v1 < 10) <|
  z_g (z32 ((st 179 v1) - 1)) <|
  z_b (J_X12_in s0 0 ((st 179 v1) - 1) st) fun r5 =>
  z_g (z32 r5) (if r5 = 0 then
    J_X12_formOf_108 v1 v2 v3 v4 st
  else
    z_g (0 ≤ (3 * v3) + v4 ∧ (3 * v3) + v4 < 18) <|
    z_g (0 ≤ (4 * v1) + s0 ∧ (4 * v1) + s0 < 40) <|
    z_g (z32 (z_iand (z_ishr (st 175 ((3 * v3) + v4)) (st 180 ((4 * v1) + s0))) 1) ∧ z32 1) (if z_iand (z_ishr (st 175 ((3 * v3) + v4)) (st 180 ((4 * v1) + s0))) 1 = 1 then
      some (.inr (.inr v4))
    else
      J_X12_formOf_108 v1 v2 v3 v4 st))
set_option maxRecDepth 100000 in
set_option maxHeartbeats 4000000 in
theorem w_X12_formOf_48 {κ : zK} {a : Nat → Nat} {v1 v2 v3 v4 s0 : Int} {st : z_St} {mc9 ms9 : Nat} {o : Int ⊕ (Unit ⊕ Int)} (hc : z_C κ RX12 cX12_formOf 7 9 mc9 ms9) (hap : z_AP κ a z_N) (k1 : ∀ s9 : Int, o = .inl s9 → z_V κ z_T z_N a 0 0 14 [(0, .ref (a 168)), (1, .int (zI v1)), (2, .int (zI v2)), (3, .int (zI v3)), (4, .int (zI s9))] [] st) (k2 : ∀ x9 : (Unit ⊕ Int), o = .inr x9 → (match x9 with | .inl y9 => z_V κ z_T z_N a 0 0 114 [] [] st | .inr y9 => z_V κ z_T z_N a 0 0 103 [(4, .int (zI y9))] [] st)) (h : J_X12_formOf_48 v1 v2 v3 v4 s0 st = some o) : z_V κ z_T z_N a 0 0 48 [(0, .ref (a 168)), (1, .int (zI v1)), (2, .int (zI v2)), (3, .int (zI v3)), (4, .int (zI v4))] [.int (zI s0)] st := by
  unfold J_X12_formOf_48 at h
  refine z_istore [(5, .int (zI s0)), (0, .ref (a 168)), (1, .int (zI v1)), (2, .int (zI v2)), (3, .int (zI v3)), (4, .int (zI v4))] hc dX12_formOf_48 (by decide) rfl ?_
  refine z_aload_n (i := 0) 1 hc dX12_formOf_50 rfl rfl ?_
  refine z_iload 0 hc dX12_formOf_51 rfl ?_
  refine z_i2l hc dX12_formOf_53 h (fun h => ?_)
  refine z_lconst 0 hc dX12_formOf_54 rfl ?_
  refine z_aload_n (i := 0) 1 hc dX12_formOf_55 rfl rfl ?_
  refine z_getA (k' := 179) hc fl_RX12_40 tT_168 (by decide) rfl rfl dX12_formOf_56 ?_
  refine z_iload_n (i := 1) 2 hc dX12_formOf_59 rfl rfl ?_
  refine z_iald (kI := 179) (nI9 := 10) hc tT_179 (by decide) rfl rfl (by decide) dX12_formOf_60 h (fun g4 h => ?_)
  refine z_iconst hc dX12_formOf_61 ?_
  refine z_isub hc dX12_formOf_62 ?_
  refine z_i2l hc dX12_formOf_63 h (fun h => ?_)
  obtain ⟨r5, hr5, h⟩ := z_b_some h
  refine z_callVI [.long (zJ s0), .long (zJ 0), .long (zJ ((st 179 v1) - 1))] hc hap o_X12_in ml_RX12_116 (fun l hl => c_X12_in hl  hr5) (by decide) tT_168 (by decide) ⟨_, rfl, rfl⟩ rfl rfl (Nat.le_of_ble_eq_true rfl) (Nat.zero_le _) (Nat.zero_le _) dX12_formOf_64 ?_
  refine z_istore [(6, .int (zI r5)), (5, .int (zI s0)), (0, .ref (a 168)), (1, .int (zI v1)), (2, .int (zI v2)), (3, .int (zI v3)), (4, .int (zI v4))] hc dX12_formOf_67 (by decide) rfl ?_
  refine z_iload 0 hc dX12_formOf_69 rfl ?_
  refine z_if_eq (tgt := 108) hc dX12_formOf_71 (by decide) h (fun c71 h => ?_) (fun c71 h => ?_)
  · refine z_sub [(0, .ref (a 168)), (1, .int (zI v1)), (2, .int (zI v2)), (3, .int (zI v3)), (4, .int (zI v4))] [2, 3, 4, 5, 6] rfl ?_
    exact w_X12_formOf_108 hc hap k1 k2 h
  · refine z_aload_n (i := 0) 2 hc dX12_formOf_74 rfl rfl ?_
    refine z_getA (k' := 175) hc fl_RX12_28 tT_168 (by decide) rfl rfl dX12_formOf_75 ?_
    refine z_iconst hc dX12_formOf_78 ?_
    refine z_iload_n (i := 3) 5 hc dX12_formOf_79 rfl rfl ?_
    refine z_imul hc dX12_formOf_80 ?_
    refine z_iload 6 hc dX12_formOf_81 rfl ?_
    refine z_iadd hc dX12_formOf_83 ?_
    refine z_iald (kI := 175) (nI9 := 18) hc tT_175 (by decide) rfl rfl (by decide) dX12_formOf_84 h (fun g7 h => ?_)
    refine z_aload_n (i := 0) 2 hc dX12_formOf_85 rfl rfl ?_
    refine z_getA (k' := 180) hc fl_RX12_43 tT_168 (by decide) rfl rfl dX12_formOf_86 ?_
    refine z_iconst hc dX12_formOf_89 ?_
    refine z_iload_n (i := 1) 3 hc dX12_formOf_90 rfl rfl ?_
    refine z_imul hc dX12_formOf_91 ?_
    refine z_iload 1 hc dX12_formOf_92 rfl ?_
    refine z_iadd hc dX12_formOf_94 ?_
    refine z_iald (kI := 180) (nI9 := 40) hc tT_180 (by decide) rfl rfl (by decide) dX12_formOf_95 h (fun g8 h => ?_)
    refine z_ishr_r hc dX12_formOf_96 ?_
    refine z_iconst hc dX12_formOf_97 ?_
    refine z_iand_r hc dX12_formOf_98 ?_
    refine z_iconst hc dX12_formOf_99 ?_
    refine z_icmp_ne (tgt := 108) hc dX12_formOf_100 (by decide) h (fun c100 h => ?_) (fun c100 h => ?_)
    · refine z_sub [(4, .int (zI v4))] [6] rfl ?_
      exact k2 (.inr v4) (Option.some.inj h).symm
    · refine z_sub [(0, .ref (a 168)), (1, .int (zI v1)), (2, .int (zI v2)), (3, .int (zI v3)), (4, .int (zI v4))] [2, 3, 4, 5, 6] rfl ?_
      exact w_X12_formOf_108 hc hap k1 k2 h
def J_X12_formOf_b14 (v1 v2 v3 v4 : Int) (st : z_St) : Option (Int ⊕ (Unit ⊕ Int)) :=
  z_g (0 ≤ v3 ∧ v3 < 6) <|
  z_g (z32 v4 ∧ z32 (st 173 v3)) (if v4 < st 173 v3 then
    z_g (0 ≤ (3 * v3) + v4 ∧ (3 * v3) + v4 < 18) <|
    z_g (z32 (st 174 ((3 * v3) + v4))) (if st 174 ((3 * v3) + v4) = 0 then
      J_X12_formOf_48 v1 v2 v3 v4 (v2 - 1) st
    else
      J_X12_formOf_48 v1 v2 v3 v4 (v2 + 1) st)
  else
    some (.inr (.inl ())))
set_option maxRecDepth 100000 in
set_option maxHeartbeats 4000000 in
theorem w_X12_formOf_b14 {κ : zK} {a : Nat → Nat} {v1 v2 v3 v4 : Int} {st : z_St} {mc9 ms9 : Nat} {o : Int ⊕ (Unit ⊕ Int)} (hc : z_C κ RX12 cX12_formOf 7 9 mc9 ms9) (hap : z_AP κ a z_N) (k1 : ∀ s9 : Int, o = .inl s9 → z_V κ z_T z_N a 0 0 14 [(0, .ref (a 168)), (1, .int (zI v1)), (2, .int (zI v2)), (3, .int (zI v3)), (4, .int (zI s9))] [] st) (k2 : ∀ x9 : (Unit ⊕ Int), o = .inr x9 → (match x9 with | .inl y9 => z_V κ z_T z_N a 0 0 114 [] [] st | .inr y9 => z_V κ z_T z_N a 0 0 103 [(4, .int (zI y9))] [] st)) (h : J_X12_formOf_b14 v1 v2 v3 v4 st = some o) : z_V κ z_T z_N a 0 0 14 [(0, .ref (a 168)), (1, .int (zI v1)), (2, .int (zI v2)), (3, .int (zI v3)), (4, .int (zI v4))] [] st := by
  unfold J_X12_formOf_b14 at h
  refine z_iload 4 hc dX12_formOf_14 rfl ?_
  refine z_aload_n (i := 0) 0 hc dX12_formOf_16 rfl rfl ?_
  refine z_getA (k' := 173) hc fl_RX12_22 tT_168 (by decide) rfl rfl dX12_formOf_17 ?_
  refine z_iload_n (i := 3) 3 hc dX12_formOf_20 rfl rfl ?_
  refine z_iald (kI := 173) (nI9 := 6) hc tT_173 (by decide) rfl rfl (by decide) dX12_formOf_21 h (fun g2 h => ?_)
  refine z_icmp_ge (tgt := 114) hc dX12_formOf_22 (by decide) h (fun c22 h => ?_) (fun c22 h => ?_)
  · refine z_aload_n (i := 0) 0 hc dX12_formOf_25 rfl rfl ?_
    refine z_getA (k' := 174) hc fl_RX12_25 tT_168 (by decide) rfl rfl dX12_formOf_26 ?_
    refine z_iconst hc dX12_formOf_29 ?_
    refine z_iload_n (i := 3) 3 hc dX12_formOf_30 rfl rfl ?_
    refine z_imul hc dX12_formOf_31 ?_
    refine z_iload 4 hc dX12_formOf_32 rfl ?_
    refine z_iadd hc dX12_formOf_34 ?_
    refine z_iald (kI := 174) (nI9 := 18) hc tT_174 (by decide) rfl rfl (by decide) dX12_formOf_35 h (fun g3 h => ?_)
    refine z_if_ne (tgt := 45) hc dX12_formOf_36 (by decide) h (fun c36 h => ?_) (fun c36 h => ?_)
    · refine z_iload_n (i := 2) 2 hc dX12_formOf_39 rfl rfl ?_
      refine z_iconst hc dX12_formOf_40 ?_
      refine z_isub hc dX12_formOf_41 ?_
      refine z_goto (tgt := 48) hc dX12_formOf_42 (by decide) ?_
      refine z_sub [(0, .ref (a 168)), (1, .int (zI v1)), (2, .int (zI v2)), (3, .int (zI v3)), (4, .int (zI v4))] [0, 1, 2, 3, 4] rfl ?_
      exact w_X12_formOf_48 hc hap k1 k2 h
    · refine z_iload_n (i := 2) 2 hc dX12_formOf_45 rfl rfl ?_
      refine z_iconst hc dX12_formOf_46 ?_
      refine z_iadd hc dX12_formOf_47 ?_
      refine z_sub [(0, .ref (a 168)), (1, .int (zI v1)), (2, .int (zI v2)), (3, .int (zI v3)), (4, .int (zI v4))] [0, 1, 2, 3, 4] rfl ?_
      exact w_X12_formOf_48 hc hap k1 k2 h
  · refine z_sub [] [] rfl ?_
    exact k2 (.inl ()) (Option.some.inj h).symm
def J_X12_formOf (x1 x2 : Int) (st : z_St) : Option (Int) :=
  z_g (0 ≤ (4 * x1) + x2 ∧ (4 * x1) + x2 < 40) <|
  z_b (z_iter z_F (fun q9 : Int => J_X12_formOf_b14 x1 x2 (st 180 ((4 * x1) + x2)) q9 st) 0) fun lx9 => match lx9 with
  | .inl y10 =>
    some 0
  | .inr y11 =>
    some (y11 + 1)
set_option maxRecDepth 100000 in
set_option maxHeartbeats 4000000 in
theorem w_X12_formOf {κ : zK} {a : Nat → Nat} {x1 x2 : Int} {st : z_St} {o : Int} (hc : z_C κ RX12 cX12_formOf 7 9 0 0) (hap : z_AP κ a z_N) (he : z_E 0 κ (some .int) z_T z_N a o st) (h : J_X12_formOf x1 x2 st = some o) : z_V κ z_T z_N a 0 0 0 [(0, .ref (a 168)), (1, .int (zI x1)), (2, .int (zI x2))] [] st := by
  unfold J_X12_formOf at h
  refine z_aload_n (i := 0) 0 hc dX12_formOf_0 rfl rfl ?_
  refine z_getA (k' := 180) hc fl_RX12_43 tT_168 (by decide) rfl rfl dX12_formOf_1 ?_
  refine z_iconst hc dX12_formOf_4 ?_
  refine z_iload_n (i := 1) 1 hc dX12_formOf_5 rfl rfl ?_
  refine z_imul hc dX12_formOf_6 ?_
  refine z_iload_n (i := 2) 2 hc dX12_formOf_7 rfl rfl ?_
  refine z_iadd hc dX12_formOf_8 ?_
  refine z_iald (kI := 180) (nI9 := 40) hc tT_180 (by decide) rfl rfl (by decide) dX12_formOf_9 h (fun g1 h => ?_)
  refine z_istore_n (i := 3) [(3, .int (zI (st 180 ((4 * x1) + x2)))), (0, .ref (a 168)), (1, .int (zI x1)), (2, .int (zI x2))] hc dX12_formOf_10 rfl (by decide) rfl ?_
  refine z_iconst hc dX12_formOf_11 ?_
  refine z_istore [(4, .int (zI 0)), (3, .int (zI (st 180 ((4 * x1) + x2)))), (0, .ref (a 168)), (1, .int (zI x1)), (2, .int (zI x2))] hc dX12_formOf_12 (by decide) rfl ?_
  obtain ⟨lx9, hlx9, h⟩ := z_b_some h
  refine z_sub [(0, .ref (a 168)), (1, .int (zI x1)), (2, .int (zI x2)), (3, .int (zI (st 180 ((4 * x1) + x2)))), (4, .int (zI 0))] [2, 3, 4, 1, 0] rfl ?_
  refine z_loop (fun q9 : Int => J_X12_formOf_b14 x1 x2 (st 180 ((4 * x1) + x2)) q9 st) (fun q9 : Int => z_V κ z_T z_N a 0 0 14 [(0, .ref (a 168)), (1, .int (zI x1)), (2, .int (zI x2)), (3, .int (zI (st 180 ((4 * x1) + x2)))), (4, .int (zI q9))] [] st) (fun x9 : (Unit ⊕ Int) => (match x9 with | .inl y9 => z_V κ z_T z_N a 0 0 114 [] [] st | .inr y9 => z_V κ z_T z_N a 0 0 103 [(4, .int (zI y9))] [] st)) (fun q9 o9 hb k1 k2 => ?_) _ _ _ hlx9 ?_
  · exact w_X12_formOf_b14 hc hap k1 k2 hb
  · rcases lx9 with y10 | y11
    · show z_V κ z_T z_N a 0 0 114 [] [] st
      dsimp only at h
      refine z_iconst hc dX12_formOf_114 ?_
      have h := Option.some.inj h
      subst h
      exact z_retI hc he dX12_formOf_115
    · show z_V κ z_T z_N a 0 0 103 [(4, .int (zI y11))] [] st
      dsimp only at h
      refine z_iload 0 hc dX12_formOf_103 rfl ?_
      refine z_iconst hc dX12_formOf_105 ?_
      refine z_iadd hc dX12_formOf_106 ?_
      have h := Option.some.inj h
      subst h
      exact z_retI hc he dX12_formOf_107
set_option maxRecDepth 100000 in
set_option maxHeartbeats 4000000 in
theorem c_X12_formOf {l : Launch} (hl : l.stackTraces = false) {a : Nat → Nat} {x1 x2 : Int} {st : z_St} {o : Int} (h : J_X12_formOf x1 x2 st = some o) : z_M 0 l yX12_formOf cX12_formOf 7 (some .int) 9 z_T z_N a [.ref (a 168), .int (zI x1), .int (zI x2)] st o st := z_of hl (by decide +kernel) (Nat.le_of_ble_eq_true rfl) (fun κ hc hap he => w_X12_formOf hc hap he h)
theorem dX12_costOf_0 : decode cX12_costOf 0 = .ok (.lconst 0, 1) := by decide +kernel
theorem dX12_costOf_1 : decode cX12_costOf 1 = .ok (.lstore 4, 2) := by decide +kernel
theorem dX12_costOf_3 : decode cX12_costOf 3 = .ok (.iconst 0, 1) := by decide +kernel
theorem dX12_costOf_4 : decode cX12_costOf 4 = .ok (.istore 6, 2) := by decide +kernel
theorem dX12_costOf_6 : decode cX12_costOf 6 = .ok (.iload 6, 2) := by decide +kernel
theorem dX12_costOf_8 : decode cX12_costOf 8 = .ok (.iconst 3, 1) := by decide +kernel
theorem dX12_costOf_9 : decode cX12_costOf 9 = .ok (.if_icmp .ge 38, 3) := by decide +kernel
theorem dX12_costOf_12 : decode cX12_costOf 12 = .ok (.aload_n 0, 1) := by decide +kernel
theorem dX12_costOf_13 : decode cX12_costOf 13 = .ok (.iload_n 1, 1) := by decide +kernel
theorem dX12_costOf_14 : decode cX12_costOf 14 = .ok (.iload 6, 2) := by decide +kernel
theorem dX12_costOf_16 : decode cX12_costOf 16 = .ok (.invokevirtual 147, 3) := by decide +kernel
theorem dX12_costOf_19 : decode cX12_costOf 19 = .ok (.aload_n 0, 1) := by decide +kernel
theorem dX12_costOf_20 : decode cX12_costOf 20 = .ok (.iload_n 2, 1) := by decide +kernel
theorem dX12_costOf_21 : decode cX12_costOf 21 = .ok (.iload_n 3, 1) := by decide +kernel
theorem dX12_costOf_22 : decode cX12_costOf 22 = .ok (.iload 6, 2) := by decide +kernel
theorem dX12_costOf_24 : decode cX12_costOf 24 = .ok (.invokevirtual 151, 3) := by decide +kernel
theorem dX12_costOf_27 : decode cX12_costOf 27 = .ok (.isub, 1) := by decide +kernel
theorem dX12_costOf_28 : decode cX12_costOf 28 = .ok (.i2l, 1) := by decide +kernel
theorem dX12_costOf_29 : decode cX12_costOf 29 = .ok (.lstore 7, 2) := by decide +kernel
theorem dX12_costOf_31 : decode cX12_costOf 31 = .ok (.lload 4, 2) := by decide +kernel
theorem dX12_costOf_33 : decode cX12_costOf 33 = .ok (.lload 7, 2) := by decide +kernel
theorem dX12_costOf_35 : decode cX12_costOf 35 = .ok (.lload 7, 2) := by decide +kernel
theorem dX12_costOf_37 : decode cX12_costOf 37 = .ok (.lmul, 1) := by decide +kernel
theorem dX12_costOf_38 : decode cX12_costOf 38 = .ok (.ladd, 1) := by decide +kernel
theorem dX12_costOf_39 : decode cX12_costOf 39 = .ok (.lstore 4, 2) := by decide +kernel
theorem dX12_costOf_41 : decode cX12_costOf 41 = .ok (.iinc 6 1, 3) := by decide +kernel
theorem dX12_costOf_44 : decode cX12_costOf 44 = .ok (.goto (-38), 3) := by decide +kernel
theorem dX12_costOf_47 : decode cX12_costOf 47 = .ok (.lload 4, 2) := by decide +kernel
theorem dX12_costOf_49 : decode cX12_costOf 49 = .ok (.aload_n 0, 1) := by decide +kernel
theorem dX12_costOf_50 : decode cX12_costOf 50 = .ok (.getfield 19, 3) := by decide +kernel
theorem dX12_costOf_53 : decode cX12_costOf 53 = .ok (.iload_n 2, 1) := by decide +kernel
theorem dX12_costOf_54 : decode cX12_costOf 54 = .ok (.iaload, 1) := by decide +kernel
theorem dX12_costOf_55 : decode cX12_costOf 55 = .ok (.i2l, 1) := by decide +kernel
theorem dX12_costOf_56 : decode cX12_costOf 56 = .ok (.ldiv, 1) := by decide +kernel
theorem dX12_costOf_57 : decode cX12_costOf 57 = .ok (.lreturn, 1) := by decide +kernel
def J_X12_costOf_b6 (v1 v2 v3 v4 v6 : Int) (st : z_St) : Option ((Int × Int) ⊕ Int) :=
  z_g (z32 v6 ∧ z32 3) (if v6 < 3 then
    z_b (J_X12_clean v1 v6 st) fun r1 =>
    z_b (J_X12_lies v2 v3 v6 st) fun r3 =>
    z_g (z32 (r1 - r3)) <|
    some (.inl (v4 + ((r1 - r3) * (r1 - r3)), v6 + 1))
  else
    some (.inr v4))
set_option maxRecDepth 100000 in
set_option maxHeartbeats 4000000 in
theorem w_X12_costOf_b6 {κ : zK} {a : Nat → Nat} {v1 v2 v3 v4 v6 : Int} {st : z_St} {mc9 ms9 : Nat} {o : (Int × Int) ⊕ Int} (hc : z_C κ RX12 cX12_costOf 9 9 mc9 ms9) (hap : z_AP κ a z_N) (k1 : ∀ s9 : (Int × Int), o = .inl s9 → z_V κ z_T z_N a 0 0 6 [(0, .ref (a 168)), (1, .int (zI v1)), (2, .int (zI v2)), (3, .int (zI v3)), (4, .long (zJ s9.1)), (6, .int (zI s9.2))] [] st) (k2 : ∀ x9 : Int, o = .inr x9 → z_V κ z_T z_N a 0 0 47 [(0, .ref (a 168)), (2, .int (zI v2)), (4, .long (zJ x9))] [] st) (h : J_X12_costOf_b6 v1 v2 v3 v4 v6 st = some o) : z_V κ z_T z_N a 0 0 6 [(0, .ref (a 168)), (1, .int (zI v1)), (2, .int (zI v2)), (3, .int (zI v3)), (4, .long (zJ v4)), (6, .int (zI v6))] [] st := by
  unfold J_X12_costOf_b6 at h
  refine z_iload 5 hc dX12_costOf_6 rfl ?_
  refine z_iconst hc dX12_costOf_8 ?_
  refine z_icmp_ge (tgt := 47) hc dX12_costOf_9 (by decide) h (fun c9 h => ?_) (fun c9 h => ?_)
  · refine z_aload_n (i := 0) 0 hc dX12_costOf_12 rfl rfl ?_
    refine z_iload_n (i := 1) 1 hc dX12_costOf_13 rfl rfl ?_
    refine z_iload 5 hc dX12_costOf_14 rfl ?_
    obtain ⟨r1, hr1, h⟩ := z_b_some h
    refine z_callVI [.int (zI v1), .int (zI v6)] hc hap o_X12_clean ml_RX12_147 (fun l hl => c_X12_clean hl  hr1) (by decide) tT_168 (by decide) ⟨_, rfl, rfl⟩ rfl rfl (Nat.le_of_ble_eq_true rfl) (Nat.zero_le _) (Nat.zero_le _) dX12_costOf_16 ?_
    refine z_aload_n (i := 0) 0 hc dX12_costOf_19 rfl rfl ?_
    refine z_iload_n (i := 2) 2 hc dX12_costOf_20 rfl rfl ?_
    refine z_iload_n (i := 3) 3 hc dX12_costOf_21 rfl rfl ?_
    refine z_iload 5 hc dX12_costOf_22 rfl ?_
    obtain ⟨r3, hr3, h⟩ := z_b_some h
    refine z_callVI [.int (zI v2), .int (zI v3), .int (zI v6)] hc hap o_X12_lies ml_RX12_151 (fun l hl => c_X12_lies hl  hr3) (by decide) tT_168 (by decide) ⟨_, rfl, rfl⟩ rfl rfl (Nat.le_of_ble_eq_true rfl) (Nat.zero_le _) (Nat.zero_le _) dX12_costOf_24 ?_
    refine z_isub hc dX12_costOf_27 ?_
    refine z_i2l hc dX12_costOf_28 h (fun h => ?_)
    refine z_lstore [(7, .long (zJ (r1 - r3))), (0, .ref (a 168)), (1, .int (zI v1)), (2, .int (zI v2)), (3, .int (zI v3)), (4, .long (zJ v4)), (6, .int (zI v6))] hc dX12_costOf_29 (by decide) rfl ?_
    refine z_lload 5 hc dX12_costOf_31 rfl ?_
    refine z_lload 0 hc dX12_costOf_33 rfl ?_
    refine z_lload 0 hc dX12_costOf_35 rfl ?_
    refine z_lmul hc dX12_costOf_37 ?_
    refine z_ladd hc dX12_costOf_38 ?_
    refine z_lstore [(4, .long (zJ (v4 + ((r1 - r3) * (r1 - r3))))), (7, .long (zJ (r1 - r3))), (0, .ref (a 168)), (1, .int (zI v1)), (2, .int (zI v2)), (3, .int (zI v3)), (6, .int (zI v6))] hc dX12_costOf_39 (by decide) rfl ?_
    refine z_iinc [(6, .int (zI (v6 + 1))), (4, .long (zJ (v4 + ((r1 - r3) * (r1 - r3))))), (7, .long (zJ (r1 - r3))), (0, .ref (a 168)), (1, .int (zI v1)), (2, .int (zI v2)), (3, .int (zI v3))] 6 hc dX12_costOf_41 rfl (by decide) rfl ?_
    refine z_goto (tgt := 6) hc dX12_costOf_44 (by decide) ?_
    refine z_sub [(0, .ref (a 168)), (1, .int (zI v1)), (2, .int (zI v2)), (3, .int (zI v3)), (4, .long (zJ (v4 + ((r1 - r3) * (r1 - r3))))), (6, .int (zI (v6 + 1)))] [3, 4, 5, 6, 1, 0] rfl ?_
    exact k1 _ (Option.some.inj h).symm
  · refine z_sub [(0, .ref (a 168)), (2, .int (zI v2)), (4, .long (zJ v4))] [0, 2, 4] rfl ?_
    exact k2 v4 (Option.some.inj h).symm
def J_X12_costOf (x1 x2 x3 : Int) (st : z_St) : Option (Int) :=
  z_b (z_iter z_F (fun q9 : (Int × Int) => J_X12_costOf_b6 x1 x2 x3 q9.1 q9.2 st) (0, 0)) fun lx5 =>
    z_g (0 ≤ x2 ∧ x2 < 6) <|
    z_g (z32 (st 172 x2)) <|
    z_g (z64 lx5 ∧ z64 (st 172 x2) ∧ (st 172 x2 : Int) ≠ 0) <|
    some (lx5.tdiv (st 172 x2))
set_option maxRecDepth 100000 in
set_option maxHeartbeats 4000000 in
theorem w_X12_costOf {κ : zK} {a : Nat → Nat} {x1 x2 x3 : Int} {st : z_St} {o : Int} (hc : z_C κ RX12 cX12_costOf 9 9 0 0) (hap : z_AP κ a z_N) (he : z_E 1 κ (some .long) z_T z_N a o st) (h : J_X12_costOf x1 x2 x3 st = some o) : z_V κ z_T z_N a 0 0 0 [(0, .ref (a 168)), (1, .int (zI x1)), (2, .int (zI x2)), (3, .int (zI x3))] [] st := by
  unfold J_X12_costOf at h
  refine z_lconst 0 hc dX12_costOf_0 rfl ?_
  refine z_lstore [(4, .long (zJ 0)), (0, .ref (a 168)), (1, .int (zI x1)), (2, .int (zI x2)), (3, .int (zI x3))] hc dX12_costOf_1 (by decide) rfl ?_
  refine z_iconst hc dX12_costOf_3 ?_
  refine z_istore [(6, .int (zI 0)), (4, .long (zJ 0)), (0, .ref (a 168)), (1, .int (zI x1)), (2, .int (zI x2)), (3, .int (zI x3))] hc dX12_costOf_4 (by decide) rfl ?_
  obtain ⟨lx5, hlx5, h⟩ := z_b_some h
  refine z_sub [(0, .ref (a 168)), (1, .int (zI x1)), (2, .int (zI x2)), (3, .int (zI x3)), (4, .long (zJ 0)), (6, .int (zI 0))] [2, 3, 4, 5, 1, 0] rfl ?_
  refine z_loop (fun q9 : (Int × Int) => J_X12_costOf_b6 x1 x2 x3 q9.1 q9.2 st) (fun q9 : (Int × Int) => z_V κ z_T z_N a 0 0 6 [(0, .ref (a 168)), (1, .int (zI x1)), (2, .int (zI x2)), (3, .int (zI x3)), (4, .long (zJ q9.1)), (6, .int (zI q9.2))] [] st) (fun x9 : Int => z_V κ z_T z_N a 0 0 47 [(0, .ref (a 168)), (2, .int (zI x2)), (4, .long (zJ x9))] [] st) (fun q9 o9 hb k1 k2 => ?_) _ _ _ hlx5 ?_
  · exact w_X12_costOf_b6 hc hap k1 k2 hb
  · show z_V κ z_T z_N a 0 0 47 [(0, .ref (a 168)), (2, .int (zI x2)), (4, .long (zJ lx5))] [] st
    refine z_lload 2 hc dX12_costOf_47 rfl ?_
    refine z_aload_n (i := 0) 0 hc dX12_costOf_49 rfl rfl ?_
    refine z_getA (k' := 172) hc fl_RX12_19 tT_168 (by decide) rfl rfl dX12_costOf_50 ?_
    refine z_iload_n (i := 2) 1 hc dX12_costOf_53 rfl rfl ?_
    refine z_iald (kI := 172) (nI9 := 6) hc tT_172 (by decide) rfl rfl (by decide) dX12_costOf_54 h (fun g6 h => ?_)
    refine z_i2l hc dX12_costOf_55 h (fun h => ?_)
    refine z_ldiv hc dX12_costOf_56 h (fun h => ?_)
    have h := Option.some.inj h
    subst h
    exact z_retJ hc he dX12_costOf_57
set_option maxRecDepth 100000 in
set_option maxHeartbeats 4000000 in
theorem c_X12_costOf {l : Launch} (hl : l.stackTraces = false) {a : Nat → Nat} {x1 x2 x3 : Int} {st : z_St} {o : Int} (h : J_X12_costOf x1 x2 x3 st = some o) : z_M 1 l yX12_costOf cX12_costOf 9 (some .long) 9 z_T z_N a [.ref (a 168), .int (zI x1), .int (zI x2), .int (zI x3)] st o st := z_of hl (by decide +kernel) (Nat.le_of_ble_eq_true rfl) (fun κ hc hap he => w_X12_costOf hc hap he h)
theorem dX12_laysSaying_0 : decode cX12_laysSaying 0 = .ok (.iconst 0, 1) := by decide +kernel
theorem dX12_laysSaying_1 : decode cX12_laysSaying 1 = .ok (.istore_n 3, 1) := by decide +kernel
theorem dX12_laysSaying_2 : decode cX12_laysSaying 2 = .ok (.iload_n 3, 1) := by decide +kernel
theorem dX12_laysSaying_3 : decode cX12_laysSaying 3 = .ok (.aload_n 0, 1) := by decide +kernel
theorem dX12_laysSaying_4 : decode cX12_laysSaying 4 = .ok (.getfield 40, 3) := by decide +kernel
theorem dX12_laysSaying_7 : decode cX12_laysSaying 7 = .ok (.iload_n 1, 1) := by decide +kernel
theorem dX12_laysSaying_8 : decode cX12_laysSaying 8 = .ok (.iaload, 1) := by decide +kernel
theorem dX12_laysSaying_9 : decode cX12_laysSaying 9 = .ok (.if_icmp .gt 154, 3) := by decide +kernel
theorem dX12_laysSaying_12 : decode cX12_laysSaying 12 = .ok (.iload_n 2, 1) := by decide +kernel
theorem dX12_laysSaying_13 : decode cX12_laysSaying 13 = .ok (.istore 4, 2) := by decide +kernel
theorem dX12_laysSaying_15 : decode cX12_laysSaying 15 = .ok (.iload 4, 2) := by decide +kernel
theorem dX12_laysSaying_17 : decode cX12_laysSaying 17 = .ok (.aload_n 0, 1) := by decide +kernel
theorem dX12_laysSaying_18 : decode cX12_laysSaying 18 = .ok (.getfield 128, 3) := by decide +kernel
theorem dX12_laysSaying_21 : decode cX12_laysSaying 21 = .ok (.if_icmp .gt 136, 3) := by decide +kernel
theorem dX12_laysSaying_24 : decode cX12_laysSaying 24 = .ok (.iload_n 3, 1) := by decide +kernel
theorem dX12_laysSaying_25 : decode cX12_laysSaying 25 = .ok (.ifCond .ne 13, 3) := by decide +kernel
theorem dX12_laysSaying_28 : decode cX12_laysSaying 28 = .ok (.iload 4, 2) := by decide +kernel
theorem dX12_laysSaying_30 : decode cX12_laysSaying 30 = .ok (.iload_n 2, 1) := by decide +kernel
theorem dX12_laysSaying_31 : decode cX12_laysSaying 31 = .ok (.if_icmp .ne 7, 3) := by decide +kernel
theorem dX12_laysSaying_34 : decode cX12_laysSaying 34 = .ok (.lconst 0, 1) := by decide +kernel
theorem dX12_laysSaying_35 : decode cX12_laysSaying 35 = .ok (.goto 6, 3) := by decide +kernel
theorem dX12_laysSaying_38 : decode cX12_laysSaying 38 = .ok (.ldc2_w 205, 3) := by decide +kernel
theorem dX12_laysSaying_41 : decode cX12_laysSaying 41 = .ok (.lstore 5, 2) := by decide +kernel
theorem dX12_laysSaying_43 : decode cX12_laysSaying 43 = .ok (.iload_n 3, 1) := by decide +kernel
theorem dX12_laysSaying_44 : decode cX12_laysSaying 44 = .ok (.ifCond .le 93, 3) := by decide +kernel
theorem dX12_laysSaying_47 : decode cX12_laysSaying 47 = .ok (.iload 4, 2) := by decide +kernel
theorem dX12_laysSaying_49 : decode cX12_laysSaying 49 = .ok (.iload_n 2, 1) := by decide +kernel
theorem dX12_laysSaying_50 : decode cX12_laysSaying 50 = .ok (.if_icmp .le 87, 3) := by decide +kernel
theorem dX12_laysSaying_53 : decode cX12_laysSaying 53 = .ok (.aload_n 0, 1) := by decide +kernel
theorem dX12_laysSaying_54 : decode cX12_laysSaying 54 = .ok (.aload_n 0, 1) := by decide +kernel
theorem dX12_laysSaying_55 : decode cX12_laysSaying 55 = .ok (.getfield 66, 3) := by decide +kernel
theorem dX12_laysSaying_58 : decode cX12_laysSaying 58 = .ok (.bipush 17, 2) := by decide +kernel
theorem dX12_laysSaying_60 : decode cX12_laysSaying 60 = .ok (.iload_n 3, 1) := by decide +kernel
theorem dX12_laysSaying_61 : decode cX12_laysSaying 61 = .ok (.imul, 1) := by decide +kernel
theorem dX12_laysSaying_62 : decode cX12_laysSaying 62 = .ok (.iload 4, 2) := by decide +kernel
theorem dX12_laysSaying_64 : decode cX12_laysSaying 64 = .ok (.iadd, 1) := by decide +kernel
theorem dX12_laysSaying_65 : decode cX12_laysSaying 65 = .ok (.iconst 1, 1) := by decide +kernel
theorem dX12_laysSaying_66 : decode cX12_laysSaying 66 = .ok (.isub, 1) := by decide +kernel
theorem dX12_laysSaying_67 : decode cX12_laysSaying 67 = .ok (.laload, 1) := by decide +kernel
theorem dX12_laysSaying_68 : decode cX12_laysSaying 68 = .ok (.aload_n 0, 1) := by decide +kernel
theorem dX12_laysSaying_69 : decode cX12_laysSaying 69 = .ok (.getfield 66, 3) := by decide +kernel
theorem dX12_laysSaying_72 : decode cX12_laysSaying 72 = .ok (.bipush 17, 2) := by decide +kernel
theorem dX12_laysSaying_74 : decode cX12_laysSaying 74 = .ok (.iload_n 3, 1) := by decide +kernel
theorem dX12_laysSaying_75 : decode cX12_laysSaying 75 = .ok (.iconst 1, 1) := by decide +kernel
theorem dX12_laysSaying_76 : decode cX12_laysSaying 76 = .ok (.isub, 1) := by decide +kernel
theorem dX12_laysSaying_77 : decode cX12_laysSaying 77 = .ok (.imul, 1) := by decide +kernel
theorem dX12_laysSaying_78 : decode cX12_laysSaying 78 = .ok (.iload 4, 2) := by decide +kernel
theorem dX12_laysSaying_80 : decode cX12_laysSaying 80 = .ok (.iadd, 1) := by decide +kernel
theorem dX12_laysSaying_81 : decode cX12_laysSaying 81 = .ok (.iconst 1, 1) := by decide +kernel
theorem dX12_laysSaying_82 : decode cX12_laysSaying 82 = .ok (.isub, 1) := by decide +kernel
theorem dX12_laysSaying_83 : decode cX12_laysSaying 83 = .ok (.laload, 1) := by decide +kernel
theorem dX12_laysSaying_84 : decode cX12_laysSaying 84 = .ok (.invokevirtual 207, 3) := by decide +kernel
theorem dX12_laysSaying_87 : decode cX12_laysSaying 87 = .ok (.lstore 5, 2) := by decide +kernel
theorem dX12_laysSaying_89 : decode cX12_laysSaying 89 = .ok (.lload 5, 2) := by decide +kernel
theorem dX12_laysSaying_91 : decode cX12_laysSaying 91 = .ok (.ldc2_w 205, 3) := by decide +kernel
theorem dX12_laysSaying_94 : decode cX12_laysSaying 94 = .ok (.lcmp, 1) := by decide +kernel
theorem dX12_laysSaying_95 : decode cX12_laysSaying 95 = .ok (.ifCond .lt 9, 3) := by decide +kernel
theorem dX12_laysSaying_98 : decode cX12_laysSaying 98 = .ok (.ldc2_w 205, 3) := by decide +kernel
theorem dX12_laysSaying_101 : decode cX12_laysSaying 101 = .ok (.goto 34, 3) := by decide +kernel
theorem dX12_laysSaying_104 : decode cX12_laysSaying 104 = .ok (.lload 5, 2) := by decide +kernel
theorem dX12_laysSaying_106 : decode cX12_laysSaying 106 = .ok (.aload_n 0, 1) := by decide +kernel
theorem dX12_laysSaying_107 : decode cX12_laysSaying 107 = .ok (.iload 4, 2) := by decide +kernel
theorem dX12_laysSaying_109 : decode cX12_laysSaying 109 = .ok (.iconst 1, 1) := by decide +kernel
theorem dX12_laysSaying_110 : decode cX12_laysSaying 110 = .ok (.isub, 1) := by decide +kernel
theorem dX12_laysSaying_111 : decode cX12_laysSaying 111 = .ok (.aload_n 0, 1) := by decide +kernel
theorem dX12_laysSaying_112 : decode cX12_laysSaying 112 = .ok (.getfield 43, 3) := by decide +kernel
theorem dX12_laysSaying_115 : decode cX12_laysSaying 115 = .ok (.iconst 4, 1) := by decide +kernel
theorem dX12_laysSaying_116 : decode cX12_laysSaying 116 = .ok (.iload_n 1, 1) := by decide +kernel
theorem dX12_laysSaying_117 : decode cX12_laysSaying 117 = .ok (.imul, 1) := by decide +kernel
theorem dX12_laysSaying_118 : decode cX12_laysSaying 118 = .ok (.iload_n 3, 1) := by decide +kernel
theorem dX12_laysSaying_119 : decode cX12_laysSaying 119 = .ok (.iadd, 1) := by decide +kernel
theorem dX12_laysSaying_120 : decode cX12_laysSaying 120 = .ok (.iconst 1, 1) := by decide +kernel
theorem dX12_laysSaying_121 : decode cX12_laysSaying 121 = .ok (.isub, 1) := by decide +kernel
theorem dX12_laysSaying_122 : decode cX12_laysSaying 122 = .ok (.iaload, 1) := by decide +kernel
theorem dX12_laysSaying_123 : decode cX12_laysSaying 123 = .ok (.aload_n 0, 1) := by decide +kernel
theorem dX12_laysSaying_124 : decode cX12_laysSaying 124 = .ok (.iload_n 1, 1) := by decide +kernel
theorem dX12_laysSaying_125 : decode cX12_laysSaying 125 = .ok (.iload_n 3, 1) := by decide +kernel
theorem dX12_laysSaying_126 : decode cX12_laysSaying 126 = .ok (.iconst 1, 1) := by decide +kernel
theorem dX12_laysSaying_127 : decode cX12_laysSaying 127 = .ok (.isub, 1) := by decide +kernel
theorem dX12_laysSaying_128 : decode cX12_laysSaying 128 = .ok (.invokevirtual 198, 3) := by decide +kernel
theorem dX12_laysSaying_131 : decode cX12_laysSaying 131 = .ok (.invokevirtual 201, 3) := by decide +kernel
theorem dX12_laysSaying_134 : decode cX12_laysSaying 134 = .ok (.ladd, 1) := by decide +kernel
theorem dX12_laysSaying_135 : decode cX12_laysSaying 135 = .ok (.lstore 5, 2) := by decide +kernel
theorem dX12_laysSaying_137 : decode cX12_laysSaying 137 = .ok (.aload_n 0, 1) := by decide +kernel
theorem dX12_laysSaying_138 : decode cX12_laysSaying 138 = .ok (.getfield 66, 3) := by decide +kernel
theorem dX12_laysSaying_141 : decode cX12_laysSaying 141 = .ok (.bipush 17, 2) := by decide +kernel
theorem dX12_laysSaying_143 : decode cX12_laysSaying 143 = .ok (.iload_n 3, 1) := by decide +kernel
theorem dX12_laysSaying_144 : decode cX12_laysSaying 144 = .ok (.imul, 1) := by decide +kernel
theorem dX12_laysSaying_145 : decode cX12_laysSaying 145 = .ok (.iload 4, 2) := by decide +kernel
theorem dX12_laysSaying_147 : decode cX12_laysSaying 147 = .ok (.iadd, 1) := by decide +kernel
theorem dX12_laysSaying_148 : decode cX12_laysSaying 148 = .ok (.lload 5, 2) := by decide +kernel
theorem dX12_laysSaying_150 : decode cX12_laysSaying 150 = .ok (.lastore, 1) := by decide +kernel
theorem dX12_laysSaying_151 : decode cX12_laysSaying 151 = .ok (.iinc 4 1, 3) := by decide +kernel
theorem dX12_laysSaying_154 : decode cX12_laysSaying 154 = .ok (.goto (-139), 3) := by decide +kernel
theorem dX12_laysSaying_157 : decode cX12_laysSaying 157 = .ok (.iinc 3 1, 3) := by decide +kernel
theorem dX12_laysSaying_160 : decode cX12_laysSaying 160 = .ok (.goto (-158), 3) := by decide +kernel
theorem dX12_laysSaying_163 : decode cX12_laysSaying 163 = .ok (.iload_n 2, 1) := by decide +kernel
theorem dX12_laysSaying_164 : decode cX12_laysSaying 164 = .ok (.iconst 1, 1) := by decide +kernel
theorem dX12_laysSaying_165 : decode cX12_laysSaying 165 = .ok (.iadd, 1) := by decide +kernel
theorem dX12_laysSaying_166 : decode cX12_laysSaying 166 = .ok (.istore_n 3, 1) := by decide +kernel
theorem dX12_laysSaying_167 : decode cX12_laysSaying 167 = .ok (.iload_n 3, 1) := by decide +kernel
theorem dX12_laysSaying_168 : decode cX12_laysSaying 168 = .ok (.aload_n 0, 1) := by decide +kernel
theorem dX12_laysSaying_169 : decode cX12_laysSaying 169 = .ok (.getfield 128, 3) := by decide +kernel
theorem dX12_laysSaying_172 : decode cX12_laysSaying 172 = .ok (.if_icmp .gt 37, 3) := by decide +kernel
theorem dX12_laysSaying_175 : decode cX12_laysSaying 175 = .ok (.aload_n 0, 1) := by decide +kernel
theorem dX12_laysSaying_176 : decode cX12_laysSaying 176 = .ok (.getfield 59, 3) := by decide +kernel
theorem dX12_laysSaying_179 : decode cX12_laysSaying 179 = .ok (.aload_n 0, 1) := by decide +kernel
theorem dX12_laysSaying_180 : decode cX12_laysSaying 180 = .ok (.iload_n 1, 1) := by decide +kernel
theorem dX12_laysSaying_181 : decode cX12_laysSaying 181 = .ok (.iload_n 2, 1) := by decide +kernel
theorem dX12_laysSaying_182 : decode cX12_laysSaying 182 = .ok (.iload_n 3, 1) := by decide +kernel
theorem dX12_laysSaying_183 : decode cX12_laysSaying 183 = .ok (.invokevirtual 211, 3) := by decide +kernel
theorem dX12_laysSaying_186 : decode cX12_laysSaying 186 = .ok (.aload_n 0, 1) := by decide +kernel
theorem dX12_laysSaying_187 : decode cX12_laysSaying 187 = .ok (.getfield 66, 3) := by decide +kernel
theorem dX12_laysSaying_190 : decode cX12_laysSaying 190 = .ok (.bipush 17, 2) := by decide +kernel
theorem dX12_laysSaying_192 : decode cX12_laysSaying 192 = .ok (.aload_n 0, 1) := by decide +kernel
theorem dX12_laysSaying_193 : decode cX12_laysSaying 193 = .ok (.getfield 40, 3) := by decide +kernel
theorem dX12_laysSaying_196 : decode cX12_laysSaying 196 = .ok (.iload_n 1, 1) := by decide +kernel
theorem dX12_laysSaying_197 : decode cX12_laysSaying 197 = .ok (.iaload, 1) := by decide +kernel
theorem dX12_laysSaying_198 : decode cX12_laysSaying 198 = .ok (.imul, 1) := by decide +kernel
theorem dX12_laysSaying_199 : decode cX12_laysSaying 199 = .ok (.iload_n 3, 1) := by decide +kernel
theorem dX12_laysSaying_200 : decode cX12_laysSaying 200 = .ok (.iadd, 1) := by decide +kernel
theorem dX12_laysSaying_201 : decode cX12_laysSaying 201 = .ok (.laload, 1) := by decide +kernel
theorem dX12_laysSaying_202 : decode cX12_laysSaying 202 = .ok (.lastore, 1) := by decide +kernel
theorem dX12_laysSaying_203 : decode cX12_laysSaying 203 = .ok (.iinc 3 1, 3) := by decide +kernel
theorem dX12_laysSaying_206 : decode cX12_laysSaying 206 = .ok (.goto (-39), 3) := by decide +kernel
theorem dX12_laysSaying_209 : decode cX12_laysSaying 209 = .ok (.return_, 1) := by decide +kernel
def J_X12_laysSaying_137 (v1 v2 v3 v4 v5 : Int) (st : z_St) : Option ((Int × z_St) ⊕ z_St) :=
  z_g (0 ≤ (17 * v3) + v4 ∧ (17 * v3) + v4 < 85) <|
  z_let (z_up st 185 ((17 * v3) + v4) v5) fun st11 =>
  some (.inl (v4 + 1, st11))
set_option maxRecDepth 100000 in
set_option maxHeartbeats 4000000 in
theorem w_X12_laysSaying_137 {κ : zK} {a : Nat → Nat} {v1 v2 v3 v4 v5 : Int} {st : z_St} {mc9 ms9 : Nat} {o : (Int × z_St) ⊕ z_St} (hc : z_C κ RX12 cX12_laysSaying 7 10 mc9 ms9) (hap : z_AP κ a z_N) (k1 : ∀ s9 : (Int × z_St), o = .inl s9 → z_V κ z_T z_N a 0 0 15 [(0, .ref (a 168)), (1, .int (zI v1)), (2, .int (zI v2)), (3, .int (zI v3)), (4, .int (zI s9.1))] [] s9.2) (k2 : ∀ x9 : z_St, o = .inr x9 → z_V κ z_T z_N a 0 0 157 [(0, .ref (a 168)), (1, .int (zI v1)), (2, .int (zI v2)), (3, .int (zI v3))] [] x9) (h : J_X12_laysSaying_137 v1 v2 v3 v4 v5 st = some o) : z_V κ z_T z_N a 0 0 137 [(0, .ref (a 168)), (1, .int (zI v1)), (2, .int (zI v2)), (3, .int (zI v3)), (4, .int (zI v4)), (5, .long (zJ v5))] [] st := by
  unfold J_X12_laysSaying_137 at h
  refine z_aload_n (i := 0) 0 hc dX12_laysSaying_137 rfl rfl ?_
  refine z_getA (k' := 185) hc fl_RX12_66 tT_168 (by decide) rfl rfl dX12_laysSaying_138 ?_
  refine z_bipush hc dX12_laysSaying_141 rfl ?_
  refine z_iload_n (i := 3) 3 hc dX12_laysSaying_143 rfl rfl ?_
  refine z_imul hc dX12_laysSaying_144 ?_
  refine z_iload 4 hc dX12_laysSaying_145 rfl ?_
  refine z_iadd hc dX12_laysSaying_147 ?_
  refine z_lload 5 hc dX12_laysSaying_148 rfl ?_
  refine z_last (kI := 185) (nI9 := 85) hc hap tT_185 (by decide) rfl rfl (by decide) dX12_laysSaying_150 h (fun st11 h => ?_)
  refine z_iinc [(4, .int (zI (v4 + 1))), (0, .ref (a 168)), (1, .int (zI v1)), (2, .int (zI v2)), (3, .int (zI v3)), (5, .long (zJ v5))] 4 hc dX12_laysSaying_151 rfl (by decide) rfl ?_
  refine z_goto (tgt := 15) hc dX12_laysSaying_154 (by decide) ?_
  refine z_sub [(0, .ref (a 168)), (1, .int (zI v1)), (2, .int (zI v2)), (3, .int (zI v3)), (4, .int (zI (v4 + 1)))] [1, 2, 3, 4, 0] rfl ?_
  exact k1 _ (Option.some.inj h).symm
def J_X12_laysSaying_135 (v1 v2 v3 v4 s0 : Int) (st : z_St) : Option ((Int × z_St) ⊕ z_St) :=
  J_X12_laysSaying_137 v1 v2 v3 v4 s0 st
set_option maxRecDepth 100000 in
set_option maxHeartbeats 4000000 in
theorem w_X12_laysSaying_135 {κ : zK} {a : Nat → Nat} {v1 v2 v3 v4 s0 : Int} {st : z_St} {mc9 ms9 : Nat} {o : (Int × z_St) ⊕ z_St} (hc : z_C κ RX12 cX12_laysSaying 7 10 mc9 ms9) (hap : z_AP κ a z_N) (k1 : ∀ s9 : (Int × z_St), o = .inl s9 → z_V κ z_T z_N a 0 0 15 [(0, .ref (a 168)), (1, .int (zI v1)), (2, .int (zI v2)), (3, .int (zI v3)), (4, .int (zI s9.1))] [] s9.2) (k2 : ∀ x9 : z_St, o = .inr x9 → z_V κ z_T z_N a 0 0 157 [(0, .ref (a 168)), (1, .int (zI v1)), (2, .int (zI v2)), (3, .int (zI v3))] [] x9) (h : J_X12_laysSaying_135 v1 v2 v3 v4 s0 st = some o) : z_V κ z_T z_N a 0 0 135 [(0, .ref (a 168)), (1, .int (zI v1)), (2, .int (zI v2)), (3, .int (zI v3)), (4, .int (zI v4))] [.long (zJ s0)] st := by
  unfold J_X12_laysSaying_135 at h
  refine z_lstore [(5, .long (zJ s0)), (0, .ref (a 168)), (1, .int (zI v1)), (2, .int (zI v2)), (3, .int (zI v3)), (4, .int (zI v4))] hc dX12_laysSaying_135 (by decide) rfl ?_
  refine z_sub [(0, .ref (a 168)), (1, .int (zI v1)), (2, .int (zI v2)), (3, .int (zI v3)), (4, .int (zI v4)), (5, .long (zJ s0))] [1, 2, 3, 4, 5, 0] rfl ?_
  exact w_X12_laysSaying_137 hc hap k1 k2 h
def J_X12_laysSaying_41 (v1 v2 v3 v4 s0 : Int) (st : z_St) : Option ((Int × z_St) ⊕ z_St) :=
  z_g (z32 v3) (if 0 < v3 then
    z_g (z32 v4 ∧ z32 v2) (if v2 < v4 then
      z_g (0 ≤ ((17 * v3) + v4) - 1 ∧ ((17 * v3) + v4) - 1 < 85) <|
      z_g (0 ≤ ((17 * (v3 - 1)) + v4) - 1 ∧ ((17 * (v3 - 1)) + v4) - 1 < 85) <|
      z_b (J_X12_least (st 185 (((17 * v3) + v4) - 1)) (st 185 (((17 * (v3 - 1)) + v4) - 1)) st) fun r4 =>
      z_g (z64 r4 ∧ z64 1000000000000000000) (if r4 < 1000000000000000000 then
        z_g (0 ≤ ((4 * v1) + v3) - 1 ∧ ((4 * v1) + v3) - 1 < 40) <|
        z_b (J_X12_formOf v1 (v3 - 1) st) fun r7 =>
        z_b (J_X12_costOf (v4 - 1) (st 180 (((4 * v1) + v3) - 1)) r7 st) fun r9 =>
        J_X12_laysSaying_135 v1 v2 v3 v4 (r4 + r9) st
      else
        J_X12_laysSaying_135 v1 v2 v3 v4 1000000000000000000 st)
    else
      J_X12_laysSaying_137 v1 v2 v3 v4 s0 st)
  else
    J_X12_laysSaying_137 v1 v2 v3 v4 s0 st)
set_option maxRecDepth 100000 in
set_option maxHeartbeats 4000000 in
theorem w_X12_laysSaying_41 {κ : zK} {a : Nat → Nat} {v1 v2 v3 v4 s0 : Int} {st : z_St} {mc9 ms9 : Nat} {o : (Int × z_St) ⊕ z_St} (hc : z_C κ RX12 cX12_laysSaying 7 10 mc9 ms9) (hap : z_AP κ a z_N) (k1 : ∀ s9 : (Int × z_St), o = .inl s9 → z_V κ z_T z_N a 0 0 15 [(0, .ref (a 168)), (1, .int (zI v1)), (2, .int (zI v2)), (3, .int (zI v3)), (4, .int (zI s9.1))] [] s9.2) (k2 : ∀ x9 : z_St, o = .inr x9 → z_V κ z_T z_N a 0 0 157 [(0, .ref (a 168)), (1, .int (zI v1)), (2, .int (zI v2)), (3, .int (zI v3))] [] x9) (h : J_X12_laysSaying_41 v1 v2 v3 v4 s0 st = some o) : z_V κ z_T z_N a 0 0 41 [(0, .ref (a 168)), (1, .int (zI v1)), (2, .int (zI v2)), (3, .int (zI v3)), (4, .int (zI v4))] [.long (zJ s0)] st := by
  unfold J_X12_laysSaying_41 at h
  refine z_lstore [(5, .long (zJ s0)), (0, .ref (a 168)), (1, .int (zI v1)), (2, .int (zI v2)), (3, .int (zI v3)), (4, .int (zI v4))] hc dX12_laysSaying_41 (by decide) rfl ?_
  refine z_iload_n (i := 3) 4 hc dX12_laysSaying_43 rfl rfl ?_
  refine z_if_le (tgt := 137) hc dX12_laysSaying_44 (by decide) h (fun c44 h => ?_) (fun c44 h => ?_)
  · refine z_iload 5 hc dX12_laysSaying_47 rfl ?_
    refine z_iload_n (i := 2) 3 hc dX12_laysSaying_49 rfl rfl ?_
    refine z_icmp_le (tgt := 137) hc dX12_laysSaying_50 (by decide) h (fun c50 h => ?_) (fun c50 h => ?_)
    · refine z_aload_n (i := 0) 1 hc dX12_laysSaying_53 rfl rfl ?_
      refine z_aload_n (i := 0) 1 hc dX12_laysSaying_54 rfl rfl ?_
      refine z_getA (k' := 185) hc fl_RX12_66 tT_168 (by decide) rfl rfl dX12_laysSaying_55 ?_
      refine z_bipush hc dX12_laysSaying_58 rfl ?_
      refine z_iload_n (i := 3) 4 hc dX12_laysSaying_60 rfl rfl ?_
      refine z_imul hc dX12_laysSaying_61 ?_
      refine z_iload 5 hc dX12_laysSaying_62 rfl ?_
      refine z_iadd hc dX12_laysSaying_64 ?_
      refine z_iconst hc dX12_laysSaying_65 ?_
      refine z_isub hc dX12_laysSaying_66 ?_
      refine z_lald (kI := 185) (nI9 := 85) hc tT_185 (by decide) rfl rfl (by decide) dX12_laysSaying_67 h (fun g2 h => ?_)
      refine z_aload_n (i := 0) 1 hc dX12_laysSaying_68 rfl rfl ?_
      refine z_getA (k' := 185) hc fl_RX12_66 tT_168 (by decide) rfl rfl dX12_laysSaying_69 ?_
      refine z_bipush hc dX12_laysSaying_72 rfl ?_
      refine z_iload_n (i := 3) 4 hc dX12_laysSaying_74 rfl rfl ?_
      refine z_iconst hc dX12_laysSaying_75 ?_
      refine z_isub hc dX12_laysSaying_76 ?_
      refine z_imul hc dX12_laysSaying_77 ?_
      refine z_iload 5 hc dX12_laysSaying_78 rfl ?_
      refine z_iadd hc dX12_laysSaying_80 ?_
      refine z_iconst hc dX12_laysSaying_81 ?_
      refine z_isub hc dX12_laysSaying_82 ?_
      refine z_lald (kI := 185) (nI9 := 85) hc tT_185 (by decide) rfl rfl (by decide) dX12_laysSaying_83 h (fun g3 h => ?_)
      obtain ⟨r4, hr4, h⟩ := z_b_some h
      refine z_callVJ [.long (zJ (st 185 (((17 * v3) + v4) - 1))), .long (zJ (st 185 (((17 * (v3 - 1)) + v4) - 1)))] hc hap o_X12_least ml_RX12_207 (fun l hl => c_X12_least hl  hr4) (by decide) tT_168 (by decide) ⟨_, rfl, rfl⟩ rfl rfl (Nat.le_of_ble_eq_true rfl) (Nat.zero_le _) (Nat.zero_le _) dX12_laysSaying_84 ?_
      refine z_lstore [(5, .long (zJ r4)), (0, .ref (a 168)), (1, .int (zI v1)), (2, .int (zI v2)), (3, .int (zI v3)), (4, .int (zI v4))] hc dX12_laysSaying_87 (by decide) rfl ?_
      refine z_lload 0 hc dX12_laysSaying_89 rfl ?_
      refine z_ldc2 1000000000000000000 hc kc_RX12_205 dX12_laysSaying_91 rfl ?_
      refine z_lcmp_lt (tgt := 104) hc dX12_laysSaying_94 dX12_laysSaying_95 (by decide) h (fun c94 h => ?_) (fun c94 h => ?_)
      · refine z_lload 0 hc dX12_laysSaying_104 rfl ?_
        refine z_aload_n (i := 0) 1 hc dX12_laysSaying_106 rfl rfl ?_
        refine z_iload 5 hc dX12_laysSaying_107 rfl ?_
        refine z_iconst hc dX12_laysSaying_109 ?_
        refine z_isub hc dX12_laysSaying_110 ?_
        refine z_aload_n (i := 0) 1 hc dX12_laysSaying_111 rfl rfl ?_
        refine z_getA (k' := 180) hc fl_RX12_43 tT_168 (by decide) rfl rfl dX12_laysSaying_112 ?_
        refine z_iconst hc dX12_laysSaying_115 ?_
        refine z_iload_n (i := 1) 2 hc dX12_laysSaying_116 rfl rfl ?_
        refine z_imul hc dX12_laysSaying_117 ?_
        refine z_iload_n (i := 3) 4 hc dX12_laysSaying_118 rfl rfl ?_
        refine z_iadd hc dX12_laysSaying_119 ?_
        refine z_iconst hc dX12_laysSaying_120 ?_
        refine z_isub hc dX12_laysSaying_121 ?_
        refine z_iald (kI := 180) (nI9 := 40) hc tT_180 (by decide) rfl rfl (by decide) dX12_laysSaying_122 h (fun g6 h => ?_)
        refine z_aload_n (i := 0) 1 hc dX12_laysSaying_123 rfl rfl ?_
        refine z_iload_n (i := 1) 2 hc dX12_laysSaying_124 rfl rfl ?_
        refine z_iload_n (i := 3) 4 hc dX12_laysSaying_125 rfl rfl ?_
        refine z_iconst hc dX12_laysSaying_126 ?_
        refine z_isub hc dX12_laysSaying_127 ?_
        obtain ⟨r7, hr7, h⟩ := z_b_some h
        refine z_callVI [.int (zI v1), .int (zI (v3 - 1))] hc hap o_X12_formOf ml_RX12_198 (fun l hl => c_X12_formOf hl  hr7) (by decide) tT_168 (by decide) ⟨_, rfl, rfl⟩ rfl rfl (Nat.le_of_ble_eq_true rfl) (Nat.zero_le _) (Nat.zero_le _) dX12_laysSaying_128 ?_
        obtain ⟨r9, hr9, h⟩ := z_b_some h
        refine z_callVJ [.int (zI (v4 - 1)), .int (zI (st 180 (((4 * v1) + v3) - 1))), .int (zI r7)] hc hap o_X12_costOf ml_RX12_201 (fun l hl => c_X12_costOf hl  hr9) (by decide) tT_168 (by decide) ⟨_, rfl, rfl⟩ rfl rfl (Nat.le_of_ble_eq_true rfl) (Nat.zero_le _) (Nat.zero_le _) dX12_laysSaying_131 ?_
        refine z_ladd hc dX12_laysSaying_134 ?_
        refine z_sub [(0, .ref (a 168)), (1, .int (zI v1)), (2, .int (zI v2)), (3, .int (zI v3)), (4, .int (zI v4))] [1, 2, 3, 4, 5] rfl ?_
        exact w_X12_laysSaying_135 hc hap k1 k2 h
      · refine z_ldc2 1000000000000000000 hc kc_RX12_205 dX12_laysSaying_98 rfl ?_
        refine z_goto (tgt := 135) hc dX12_laysSaying_101 (by decide) ?_
        refine z_sub [(0, .ref (a 168)), (1, .int (zI v1)), (2, .int (zI v2)), (3, .int (zI v3)), (4, .int (zI v4))] [1, 2, 3, 4, 5] rfl ?_
        exact w_X12_laysSaying_135 hc hap k1 k2 h
    · refine z_sub [(0, .ref (a 168)), (1, .int (zI v1)), (2, .int (zI v2)), (3, .int (zI v3)), (4, .int (zI v4)), (5, .long (zJ s0))] [1, 2, 3, 4, 5, 0] rfl ?_
      exact w_X12_laysSaying_137 hc hap k1 k2 h
  · refine z_sub [(0, .ref (a 168)), (1, .int (zI v1)), (2, .int (zI v2)), (3, .int (zI v3)), (4, .int (zI v4)), (5, .long (zJ s0))] [1, 2, 3, 4, 5, 0] rfl ?_
    exact w_X12_laysSaying_137 hc hap k1 k2 h
def J_X12_laysSaying_38 (v1 v2 v3 v4 : Int) (st : z_St) : Option ((Int × z_St) ⊕ z_St) :=
  J_X12_laysSaying_41 v1 v2 v3 v4 1000000000000000000 st
set_option maxRecDepth 100000 in
set_option maxHeartbeats 4000000 in
theorem w_X12_laysSaying_38 {κ : zK} {a : Nat → Nat} {v1 v2 v3 v4 : Int} {st : z_St} {mc9 ms9 : Nat} {o : (Int × z_St) ⊕ z_St} (hc : z_C κ RX12 cX12_laysSaying 7 10 mc9 ms9) (hap : z_AP κ a z_N) (k1 : ∀ s9 : (Int × z_St), o = .inl s9 → z_V κ z_T z_N a 0 0 15 [(0, .ref (a 168)), (1, .int (zI v1)), (2, .int (zI v2)), (3, .int (zI v3)), (4, .int (zI s9.1))] [] s9.2) (k2 : ∀ x9 : z_St, o = .inr x9 → z_V κ z_T z_N a 0 0 157 [(0, .ref (a 168)), (1, .int (zI v1)), (2, .int (zI v2)), (3, .int (zI v3))] [] x9) (h : J_X12_laysSaying_38 v1 v2 v3 v4 st = some o) : z_V κ z_T z_N a 0 0 38 [(0, .ref (a 168)), (1, .int (zI v1)), (2, .int (zI v2)), (3, .int (zI v3)), (4, .int (zI v4))] [] st := by
  unfold J_X12_laysSaying_38 at h
  refine z_ldc2 1000000000000000000 hc kc_RX12_205 dX12_laysSaying_38 rfl ?_
  refine z_sub [(0, .ref (a 168)), (1, .int (zI v1)), (2, .int (zI v2)), (3, .int (zI v3)), (4, .int (zI v4))] [0, 1, 2, 3, 4] rfl ?_
  exact w_X12_laysSaying_41 hc hap k1 k2 h
def J_X12_laysSaying_b15 (v1 v2 v3 v4 : Int) (st : z_St) : Option ((Int × z_St) ⊕ z_St) :=
  z_g (z32 v4 ∧ z32 (st 168 2)) (if st 168 2 < v4 then
    some (.inr st)
  else
    z_g (z32 v3) (if v3 = 0 then
      z_g (z32 v4 ∧ z32 v2) (if v4 = v2 then
        J_X12_laysSaying_41 v1 v2 v3 v4 0 st
      else
        J_X12_laysSaying_38 v1 v2 v3 v4 st)
    else
      J_X12_laysSaying_38 v1 v2 v3 v4 st))
set_option maxRecDepth 100000 in
set_option maxHeartbeats 4000000 in
theorem w_X12_laysSaying_b15 {κ : zK} {a : Nat → Nat} {v1 v2 v3 v4 : Int} {st : z_St} {mc9 ms9 : Nat} {o : (Int × z_St) ⊕ z_St} (hc : z_C κ RX12 cX12_laysSaying 7 10 mc9 ms9) (hap : z_AP κ a z_N) (k1 : ∀ s9 : (Int × z_St), o = .inl s9 → z_V κ z_T z_N a 0 0 15 [(0, .ref (a 168)), (1, .int (zI v1)), (2, .int (zI v2)), (3, .int (zI v3)), (4, .int (zI s9.1))] [] s9.2) (k2 : ∀ x9 : z_St, o = .inr x9 → z_V κ z_T z_N a 0 0 157 [(0, .ref (a 168)), (1, .int (zI v1)), (2, .int (zI v2)), (3, .int (zI v3))] [] x9) (h : J_X12_laysSaying_b15 v1 v2 v3 v4 st = some o) : z_V κ z_T z_N a 0 0 15 [(0, .ref (a 168)), (1, .int (zI v1)), (2, .int (zI v2)), (3, .int (zI v3)), (4, .int (zI v4))] [] st := by
  unfold J_X12_laysSaying_b15 at h
  refine z_iload 4 hc dX12_laysSaying_15 rfl ?_
  refine z_aload_n (i := 0) 0 hc dX12_laysSaying_17 rfl rfl ?_
  refine z_getI (kI := 168) (jI := 2) hc fl_RX12_128 tT_168 (by decide) rfl rfl rfl dX12_laysSaying_18 ?_
  refine z_icmp_gt (tgt := 157) hc dX12_laysSaying_21 (by decide) h (fun c21 h => ?_) (fun c21 h => ?_)
  · refine z_sub [(0, .ref (a 168)), (1, .int (zI v1)), (2, .int (zI v2)), (3, .int (zI v3))] [0, 1, 2, 3] rfl ?_
    exact k2 st (Option.some.inj h).symm
  · refine z_iload_n (i := 3) 3 hc dX12_laysSaying_24 rfl rfl ?_
    refine z_if_ne (tgt := 38) hc dX12_laysSaying_25 (by decide) h (fun c25 h => ?_) (fun c25 h => ?_)
    · refine z_iload 4 hc dX12_laysSaying_28 rfl ?_
      refine z_iload_n (i := 2) 2 hc dX12_laysSaying_30 rfl rfl ?_
      refine z_icmp_ne (tgt := 38) hc dX12_laysSaying_31 (by decide) h (fun c31 h => ?_) (fun c31 h => ?_)
      · refine z_lconst 0 hc dX12_laysSaying_34 rfl ?_
        refine z_goto (tgt := 41) hc dX12_laysSaying_35 (by decide) ?_
        refine z_sub [(0, .ref (a 168)), (1, .int (zI v1)), (2, .int (zI v2)), (3, .int (zI v3)), (4, .int (zI v4))] [0, 1, 2, 3, 4] rfl ?_
        exact w_X12_laysSaying_41 hc hap k1 k2 h
      · refine z_sub [(0, .ref (a 168)), (1, .int (zI v1)), (2, .int (zI v2)), (3, .int (zI v3)), (4, .int (zI v4))] [0, 1, 2, 3, 4] rfl ?_
        exact w_X12_laysSaying_38 hc hap k1 k2 h
    · refine z_sub [(0, .ref (a 168)), (1, .int (zI v1)), (2, .int (zI v2)), (3, .int (zI v3)), (4, .int (zI v4))] [0, 1, 2, 3, 4] rfl ?_
      exact w_X12_laysSaying_38 hc hap k1 k2 h
def J_X12_laysSaying_b2 (v1 v2 v3 : Int) (st : z_St) : Option ((Int × z_St) ⊕ z_St) :=
  z_g (0 ≤ v1 ∧ v1 < 10) <|
  z_g (z32 v3 ∧ z32 (st 179 v1)) (if st 179 v1 < v3 then
    some (.inr st)
  else
    z_b (z_iter z_F (fun q9 : (Int × z_St) => J_X12_laysSaying_b15 v1 v2 v3 q9.1 q9.2) (v2, st)) fun lx12 =>
      some (.inl (v3 + 1, lx12)))
set_option maxRecDepth 100000 in
set_option maxHeartbeats 4000000 in
theorem w_X12_laysSaying_b2 {κ : zK} {a : Nat → Nat} {v1 v2 v3 : Int} {st : z_St} {mc9 ms9 : Nat} {o : (Int × z_St) ⊕ z_St} (hc : z_C κ RX12 cX12_laysSaying 7 10 mc9 ms9) (hap : z_AP κ a z_N) (k1 : ∀ s9 : (Int × z_St), o = .inl s9 → z_V κ z_T z_N a 0 0 2 [(0, .ref (a 168)), (1, .int (zI v1)), (2, .int (zI v2)), (3, .int (zI s9.1))] [] s9.2) (k2 : ∀ x9 : z_St, o = .inr x9 → z_V κ z_T z_N a 0 0 163 [(0, .ref (a 168)), (1, .int (zI v1)), (2, .int (zI v2))] [] x9) (h : J_X12_laysSaying_b2 v1 v2 v3 st = some o) : z_V κ z_T z_N a 0 0 2 [(0, .ref (a 168)), (1, .int (zI v1)), (2, .int (zI v2)), (3, .int (zI v3))] [] st := by
  unfold J_X12_laysSaying_b2 at h
  refine z_iload_n (i := 3) 3 hc dX12_laysSaying_2 rfl rfl ?_
  refine z_aload_n (i := 0) 0 hc dX12_laysSaying_3 rfl rfl ?_
  refine z_getA (k' := 179) hc fl_RX12_40 tT_168 (by decide) rfl rfl dX12_laysSaying_4 ?_
  refine z_iload_n (i := 1) 1 hc dX12_laysSaying_7 rfl rfl ?_
  refine z_iald (kI := 179) (nI9 := 10) hc tT_179 (by decide) rfl rfl (by decide) dX12_laysSaying_8 h (fun g1 h => ?_)
  refine z_icmp_gt (tgt := 163) hc dX12_laysSaying_9 (by decide) h (fun c9 h => ?_) (fun c9 h => ?_)
  · refine z_sub [(0, .ref (a 168)), (1, .int (zI v1)), (2, .int (zI v2))] [0, 1, 2] rfl ?_
    exact k2 st (Option.some.inj h).symm
  · refine z_iload_n (i := 2) 2 hc dX12_laysSaying_12 rfl rfl ?_
    refine z_istore [(4, .int (zI v2)), (0, .ref (a 168)), (1, .int (zI v1)), (2, .int (zI v2)), (3, .int (zI v3))] hc dX12_laysSaying_13 (by decide) rfl ?_
    obtain ⟨lx12, hlx12, h⟩ := z_b_some h
    refine z_sub [(0, .ref (a 168)), (1, .int (zI v1)), (2, .int (zI v2)), (3, .int (zI v3)), (4, .int (zI v2))] [1, 2, 3, 4, 0] rfl ?_
    refine z_loop (fun q9 : (Int × z_St) => J_X12_laysSaying_b15 v1 v2 v3 q9.1 q9.2) (fun q9 : (Int × z_St) => z_V κ z_T z_N a 0 0 15 [(0, .ref (a 168)), (1, .int (zI v1)), (2, .int (zI v2)), (3, .int (zI v3)), (4, .int (zI q9.1))] [] q9.2) (fun x9 : z_St => z_V κ z_T z_N a 0 0 157 [(0, .ref (a 168)), (1, .int (zI v1)), (2, .int (zI v2)), (3, .int (zI v3))] [] x9) (fun q9 o9 hb k1 k2 => ?_) _ _ _ hlx12 ?_
    · exact w_X12_laysSaying_b15 hc hap k1 k2 hb
    · show z_V κ z_T z_N a 0 0 157 [(0, .ref (a 168)), (1, .int (zI v1)), (2, .int (zI v2)), (3, .int (zI v3))] [] lx12
      refine z_iinc [(3, .int (zI (v3 + 1))), (0, .ref (a 168)), (1, .int (zI v1)), (2, .int (zI v2))] 3 hc dX12_laysSaying_157 rfl (by decide) rfl ?_
      refine z_goto (tgt := 2) hc dX12_laysSaying_160 (by decide) ?_
      refine z_sub [(0, .ref (a 168)), (1, .int (zI v1)), (2, .int (zI v2)), (3, .int (zI (v3 + 1)))] [1, 2, 3, 0] rfl ?_
      exact k1 _ (Option.some.inj h).symm
def J_X12_laysSaying_b167 (v1 v2 v3 : Int) (st : z_St) : Option ((Int × z_St) ⊕ z_St) :=
  z_g (z32 v3 ∧ z32 (st 168 2)) (if st 168 2 < v3 then
    some (.inr st)
  else
    z_b (J_X12_span v1 v2 v3 st) fun r14 =>
    z_g (0 ≤ v1 ∧ v1 < 10) <|
    z_g (0 ≤ (17 * (st 179 v1)) + v3 ∧ (17 * (st 179 v1)) + v3 < 85) <|
    z_g (0 ≤ r14 ∧ r14 < 2890) <|
    z_let (z_up st 183 r14 (st 185 ((17 * (st 179 v1)) + v3))) fun st18 =>
    some (.inl (v3 + 1, st18)))
set_option maxRecDepth 100000 in
set_option maxHeartbeats 4000000 in
theorem w_X12_laysSaying_b167 {κ : zK} {a : Nat → Nat} {v1 v2 v3 : Int} {st : z_St} {mc9 ms9 : Nat} {o : (Int × z_St) ⊕ z_St} (hc : z_C κ RX12 cX12_laysSaying 7 10 mc9 ms9) (hap : z_AP κ a z_N) (k1 : ∀ s9 : (Int × z_St), o = .inl s9 → z_V κ z_T z_N a 0 0 167 [(0, .ref (a 168)), (1, .int (zI v1)), (2, .int (zI v2)), (3, .int (zI s9.1))] [] s9.2) (k2 : ∀ x9 : z_St, o = .inr x9 → z_V κ z_T z_N a 0 0 209 [] [] x9) (h : J_X12_laysSaying_b167 v1 v2 v3 st = some o) : z_V κ z_T z_N a 0 0 167 [(0, .ref (a 168)), (1, .int (zI v1)), (2, .int (zI v2)), (3, .int (zI v3))] [] st := by
  unfold J_X12_laysSaying_b167 at h
  refine z_iload_n (i := 3) 3 hc dX12_laysSaying_167 rfl rfl ?_
  refine z_aload_n (i := 0) 0 hc dX12_laysSaying_168 rfl rfl ?_
  refine z_getI (kI := 168) (jI := 2) hc fl_RX12_128 tT_168 (by decide) rfl rfl rfl dX12_laysSaying_169 ?_
  refine z_icmp_gt (tgt := 209) hc dX12_laysSaying_172 (by decide) h (fun c172 h => ?_) (fun c172 h => ?_)
  · refine z_sub [] [] rfl ?_
    exact k2 st (Option.some.inj h).symm
  · refine z_aload_n (i := 0) 0 hc dX12_laysSaying_175 rfl rfl ?_
    refine z_getA (k' := 183) hc fl_RX12_59 tT_168 (by decide) rfl rfl dX12_laysSaying_176 ?_
    refine z_aload_n (i := 0) 0 hc dX12_laysSaying_179 rfl rfl ?_
    refine z_iload_n (i := 1) 1 hc dX12_laysSaying_180 rfl rfl ?_
    refine z_iload_n (i := 2) 2 hc dX12_laysSaying_181 rfl rfl ?_
    refine z_iload_n (i := 3) 3 hc dX12_laysSaying_182 rfl rfl ?_
    obtain ⟨r14, hr14, h⟩ := z_b_some h
    refine z_callVI [.int (zI v1), .int (zI v2), .int (zI v3)] hc hap o_X12_span ml_RX12_211 (fun l hl => c_X12_span hl  hr14) (by decide) tT_168 (by decide) ⟨_, rfl, rfl⟩ rfl rfl (Nat.le_of_ble_eq_true rfl) (Nat.zero_le _) (Nat.zero_le _) dX12_laysSaying_183 ?_
    refine z_aload_n (i := 0) 0 hc dX12_laysSaying_186 rfl rfl ?_
    refine z_getA (k' := 185) hc fl_RX12_66 tT_168 (by decide) rfl rfl dX12_laysSaying_187 ?_
    refine z_bipush hc dX12_laysSaying_190 rfl ?_
    refine z_aload_n (i := 0) 0 hc dX12_laysSaying_192 rfl rfl ?_
    refine z_getA (k' := 179) hc fl_RX12_40 tT_168 (by decide) rfl rfl dX12_laysSaying_193 ?_
    refine z_iload_n (i := 1) 1 hc dX12_laysSaying_196 rfl rfl ?_
    refine z_iald (kI := 179) (nI9 := 10) hc tT_179 (by decide) rfl rfl (by decide) dX12_laysSaying_197 h (fun g16 h => ?_)
    refine z_imul hc dX12_laysSaying_198 ?_
    refine z_iload_n (i := 3) 3 hc dX12_laysSaying_199 rfl rfl ?_
    refine z_iadd hc dX12_laysSaying_200 ?_
    refine z_lald (kI := 185) (nI9 := 85) hc tT_185 (by decide) rfl rfl (by decide) dX12_laysSaying_201 h (fun g17 h => ?_)
    refine z_last (kI := 183) (nI9 := 2890) hc hap tT_183 (by decide) rfl rfl (by decide) dX12_laysSaying_202 h (fun st18 h => ?_)
    refine z_iinc [(3, .int (zI (v3 + 1))), (0, .ref (a 168)), (1, .int (zI v1)), (2, .int (zI v2))] 3 hc dX12_laysSaying_203 rfl (by decide) rfl ?_
    refine z_goto (tgt := 167) hc dX12_laysSaying_206 (by decide) ?_
    refine z_sub [(0, .ref (a 168)), (1, .int (zI v1)), (2, .int (zI v2)), (3, .int (zI (v3 + 1)))] [1, 2, 3, 0] rfl ?_
    exact k1 _ (Option.some.inj h).symm
def J_X12_laysSaying (x1 x2 : Int) (st : z_St) : Option (z_St) :=
  z_b (z_iter z_F (fun q9 : (Int × z_St) => J_X12_laysSaying_b2 x1 x2 q9.1 q9.2) (0, st)) fun lx13 =>
    z_b (z_iter z_F (fun q9 : (Int × z_St) => J_X12_laysSaying_b167 x1 x2 q9.1 q9.2) (x2 + 1, lx13)) fun lx19 =>
      some lx19
set_option maxRecDepth 100000 in
set_option maxHeartbeats 4000000 in
theorem w_X12_laysSaying {κ : zK} {a : Nat → Nat} {x1 x2 : Int} {st : z_St} {o : z_St} (hc : z_C κ RX12 cX12_laysSaying 7 10 0 0) (hap : z_AP κ a z_N) (he : z_E 2 κ none z_T z_N a 0 o) (h : J_X12_laysSaying x1 x2 st = some o) : z_V κ z_T z_N a 0 0 0 [(0, .ref (a 168)), (1, .int (zI x1)), (2, .int (zI x2))] [] st := by
  unfold J_X12_laysSaying at h
  refine z_iconst hc dX12_laysSaying_0 ?_
  refine z_istore_n (i := 3) [(3, .int (zI 0)), (0, .ref (a 168)), (1, .int (zI x1)), (2, .int (zI x2))] hc dX12_laysSaying_1 rfl (by decide) rfl ?_
  obtain ⟨lx13, hlx13, h⟩ := z_b_some h
  refine z_sub [(0, .ref (a 168)), (1, .int (zI x1)), (2, .int (zI x2)), (3, .int (zI 0))] [1, 2, 3, 0] rfl ?_
  refine z_loop (fun q9 : (Int × z_St) => J_X12_laysSaying_b2 x1 x2 q9.1 q9.2) (fun q9 : (Int × z_St) => z_V κ z_T z_N a 0 0 2 [(0, .ref (a 168)), (1, .int (zI x1)), (2, .int (zI x2)), (3, .int (zI q9.1))] [] q9.2) (fun x9 : z_St => z_V κ z_T z_N a 0 0 163 [(0, .ref (a 168)), (1, .int (zI x1)), (2, .int (zI x2))] [] x9) (fun q9 o9 hb k1 k2 => ?_) _ _ _ hlx13 ?_
  · exact w_X12_laysSaying_b2 hc hap k1 k2 hb
  · show z_V κ z_T z_N a 0 0 163 [(0, .ref (a 168)), (1, .int (zI x1)), (2, .int (zI x2))] [] lx13
    refine z_iload_n (i := 2) 2 hc dX12_laysSaying_163 rfl rfl ?_
    refine z_iconst hc dX12_laysSaying_164 ?_
    refine z_iadd hc dX12_laysSaying_165 ?_
    refine z_istore_n (i := 3) [(3, .int (zI (x2 + 1))), (0, .ref (a 168)), (1, .int (zI x1)), (2, .int (zI x2))] hc dX12_laysSaying_166 rfl (by decide) rfl ?_
    obtain ⟨lx19, hlx19, h⟩ := z_b_some h
    refine z_sub [(0, .ref (a 168)), (1, .int (zI x1)), (2, .int (zI x2)), (3, .int (zI (x2 + 1)))] [1, 2, 3, 0] rfl ?_
    refine z_loop (fun q9 : (Int × z_St) => J_X12_laysSaying_b167 x1 x2 q9.1 q9.2) (fun q9 : (Int × z_St) => z_V κ z_T z_N a 0 0 167 [(0, .ref (a 168)), (1, .int (zI x1)), (2, .int (zI x2)), (3, .int (zI q9.1))] [] q9.2) (fun x9 : z_St => z_V κ z_T z_N a 0 0 209 [] [] x9) (fun q9 o9 hb k1 k2 => ?_) _ _ _ hlx19 ?_
    · exact w_X12_laysSaying_b167 hc hap k1 k2 hb
    · show z_V κ z_T z_N a 0 0 209 [] [] lx19
      have h := Option.some.inj h
      subst h
      exact z_retV hc he dX12_laysSaying_209
set_option maxRecDepth 100000 in
set_option maxHeartbeats 4000000 in
theorem c_X12_laysSaying {l : Launch} (hl : l.stackTraces = false) {a : Nat → Nat} {x1 x2 : Int} {st : z_St} {o : z_St} (h : J_X12_laysSaying x1 x2 st = some o) : z_M 2 l yX12_laysSaying cX12_laysSaying 7 none 10 z_T z_N a [.ref (a 168), .int (zI x1), .int (zI x2)] st 0 o := z_of hl (by decide +kernel) (Nat.le_of_ble_eq_true rfl) (fun κ hc hap he => w_X12_laysSaying hc hap he h)
