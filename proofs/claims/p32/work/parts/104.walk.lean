theorem dX11_question_0 : decode cX11_question 0 = .ok (.iload_n 1, 1) := by decide +kernel
theorem dX11_question_1 : decode cX11_question 1 = .ok (.aload_n 0, 1) := by decide +kernel
theorem dX11_question_2 : decode cX11_question 2 = .ok (.getfield 19, 3) := by decide +kernel
theorem dX11_question_5 : decode cX11_question 5 = .ok (.getfield 148, 3) := by decide +kernel
theorem dX11_question_8 : decode cX11_question 8 = .ok (.invokestatic 105, 3) := by decide +kernel
theorem dX11_question_11 : decode cX11_question 11 = .ok (.iload_n 2, 1) := by decide +kernel
theorem dX11_question_12 : decode cX11_question 12 = .ok (.iconst 0, 1) := by decide +kernel
theorem dX11_question_13 : decode cX11_question 13 = .ok (.iconst 1, 1) := by decide +kernel
theorem dX11_question_14 : decode cX11_question 14 = .ok (.invokestatic 112, 3) := by decide +kernel
theorem dX11_question_17 : decode cX11_question 17 = .ok (.iload_n 3, 1) := by decide +kernel
theorem dX11_question_18 : decode cX11_question 18 = .ok (.iconst 0, 1) := by decide +kernel
theorem dX11_question_19 : decode cX11_question 19 = .ok (.bipush 63, 2) := by decide +kernel
theorem dX11_question_21 : decode cX11_question 21 = .ok (.invokestatic 112, 3) := by decide +kernel
theorem dX11_question_24 : decode cX11_question 24 = .ok (.iload 4, 2) := by decide +kernel
theorem dX11_question_26 : decode cX11_question 26 = .ok (.sipush (-3000), 3) := by decide +kernel
theorem dX11_question_29 : decode cX11_question 29 = .ok (.sipush 3000, 3) := by decide +kernel
theorem dX11_question_32 : decode cX11_question 32 = .ok (.invokestatic 112, 3) := by decide +kernel
theorem dX11_question_35 : decode cX11_question 35 = .ok (.aload_n 0, 1) := by decide +kernel
theorem dX11_question_36 : decode cX11_question 36 = .ok (.getfield 19, 3) := by decide +kernel
theorem dX11_question_39 : decode cX11_question 39 = .ok (.getfield 153, 3) := by decide +kernel
theorem dX11_question_42 : decode cX11_question 42 = .ok (.iload_n 1, 1) := by decide +kernel
theorem dX11_question_43 : decode cX11_question 43 = .ok (.aaload, 1) := by decide +kernel
theorem dX11_question_44 : decode cX11_question 44 = .ok (.astore 5, 2) := by decide +kernel
theorem dX11_question_46 : decode cX11_question 46 = .ok (.aload 5, 2) := by decide +kernel
theorem dX11_question_48 : decode cX11_question 48 = .ok (.getfield 166, 3) := by decide +kernel
theorem dX11_question_51 : decode cX11_question 51 = .ok (.iconst 3, 1) := by decide +kernel
theorem dX11_question_52 : decode cX11_question 52 = .ok (.if_icmp .lt 13, 3) := by decide +kernel
theorem dX11_question_55 : decode cX11_question 55 = .ok (.new 88, 3) := by decide +kernel
theorem dX11_question_58 : decode cX11_question 58 = .ok (.dup, 1) := by decide +kernel
theorem dX11_question_59 : decode cX11_question 59 = .ok (.ldc 169, 2) := by decide +kernel
theorem dX11_question_61 : decode cX11_question 61 = .ok (.invokespecial 92, 3) := by decide +kernel
theorem dX11_question_64 : decode cX11_question 64 = .ok (.athrow, 1) := by decide +kernel
theorem dX11_question_65 : decode cX11_question 65 = .ok (.aload 5, 2) := by decide +kernel
theorem dX11_question_67 : decode cX11_question 67 = .ok (.iload_n 2, 1) := by decide +kernel
theorem dX11_question_68 : decode cX11_question 68 = .ok (.iload_n 3, 1) := by decide +kernel
theorem dX11_question_69 : decode cX11_question 69 = .ok (.iload 4, 2) := by decide +kernel
theorem dX11_question_71 : decode cX11_question 71 = .ok (.invokevirtual 171, 3) := by decide +kernel
theorem dX11_question_74 : decode cX11_question 74 = .ok (.aload_n 0, 1) := by decide +kernel
theorem dX11_question_75 : decode cX11_question 75 = .ok (.invokevirtual 102, 3) := by decide +kernel
theorem dX11_question_78 : decode cX11_question 78 = .ok (.aload 5, 2) := by decide +kernel
theorem dX11_question_80 : decode cX11_question 80 = .ok (.getfield 166, 3) := by decide +kernel
theorem dX11_question_83 : decode cX11_question 83 = .ok (.ireturn, 1) := by decide +kernel
def J_X11_question (x1 x2 x3 x4 : Int) (st : z_St) : Option (z_R (Int × z_St)) :=
  z_x (J_X11_checkIndex x1 (st 24 1) st) fun _ =>
    z_x (J_X11_checkRange x2 0 1 st) fun _ =>
      z_x (J_X11_checkRange x3 0 63 st) fun _ =>
        z_x (J_X11_checkRange x4 (-3000) 3000 st) fun _ =>
          z_g (0 ≤ x1 ∧ x1 < 6) <|
          z_g (z32 (st (29 + 5 * x1) 5) ∧ z32 3) (if st (29 + 5 * x1) 5 < 3 then
            z_b (J_X9_ask (29 + 5 * x1) x2 x3 x4 st) fun st11 =>
            z_b (J_X11_outdate st11) fun st13 =>
            some (.inl (st13 (29 + 5 * x1) 5, st13))
          else
            some (.inr (2, st)))
set_option maxRecDepth 100000 in
set_option maxHeartbeats 4000000 in
theorem w_X11_question {κ : zK} {a : Nat → Nat} {x1 x2 x3 x4 : Int} {st : z_St} {o : z_R (Int × z_St)} (hc : z_C κ RX11 cX11_question 6 9 (z_mc o) (z_ms o)) (hap : z_AP κ a z_N) (he : z_EX 0 κ (some .int) z_T z_N a o) (h : J_X11_question x1 x2 x3 x4 st = some o) : z_V κ z_T z_N a 0 0 0 [(0, .ref (a 0)), (1, .int (zI x1)), (2, .int (zI x2)), (3, .int (zI x3)), (4, .int (zI x4))] [] st := by
  unfold J_X11_question at h
  refine z_iload_n (i := 1) 1 hc dX11_question_0 rfl rfl ?_
  refine z_aload_n (i := 0) 0 hc dX11_question_1 rfl rfl ?_
  refine z_getA (k' := 24) hc fl_RX11_19 tT_0 (by decide) rfl rfl dX11_question_2 ?_
  refine z_getI (kI := 24) (jI := 1) hc fl_RX11_148 tT_24 (by decide) rfl rfl rfl dX11_question_5 ?_
  rcases z_x_cases h with ⟨u9, hr1, h⟩ | ⟨q9, hr1, h⟩
  · refine z_xcallSV [.int (zI x1), .int (zI (st 24 1))] hc hap o_X11_checkIndex ml_RX11_105 (fun l hl => c_X11_checkIndex_r hl  hr1) (by decide) rfl rfl (Nat.le_of_ble_eq_true rfl) (Nat.zero_le _) (Nat.zero_le _) dX11_question_8 ?_
    refine z_iload_n (i := 2) 2 hc dX11_question_11 rfl rfl ?_
    refine z_iconst hc dX11_question_12 ?_
    refine z_iconst hc dX11_question_13 ?_
    rcases z_x_cases h with ⟨u9, hr3, h⟩ | ⟨q9, hr3, h⟩
    · refine z_xcallSV [.int (zI x2), .int (zI 0), .int (zI 1)] hc hap o_X11_checkRange ml_RX11_112 (fun l hl => c_X11_checkRange_r hl  hr3) (by decide) rfl rfl (Nat.le_of_ble_eq_true rfl) (Nat.zero_le _) (Nat.zero_le _) dX11_question_14 ?_
      refine z_iload_n (i := 3) 3 hc dX11_question_17 rfl rfl ?_
      refine z_iconst hc dX11_question_18 ?_
      refine z_bipush hc dX11_question_19 rfl ?_
      rcases z_x_cases h with ⟨u9, hr5, h⟩ | ⟨q9, hr5, h⟩
      · refine z_xcallSV [.int (zI x3), .int (zI 0), .int (zI 63)] hc hap o_X11_checkRange ml_RX11_112 (fun l hl => c_X11_checkRange_r hl  hr5) (by decide) rfl rfl (Nat.le_of_ble_eq_true rfl) (Nat.zero_le _) (Nat.zero_le _) dX11_question_21 ?_
        refine z_iload 4 hc dX11_question_24 rfl ?_
        refine z_sipush hc dX11_question_26 rfl ?_
        refine z_sipush hc dX11_question_29 rfl ?_
        rcases z_x_cases h with ⟨u9, hr7, h⟩ | ⟨q9, hr7, h⟩
        · refine z_xcallSV [.int (zI x4), .int (zI (-3000)), .int (zI 3000)] hc hap o_X11_checkRange ml_RX11_112 (fun l hl => c_X11_checkRange_r hl  hr7) (by decide) rfl rfl (Nat.le_of_ble_eq_true rfl) (Nat.zero_le _) (Nat.zero_le _) dX11_question_32 ?_
          refine z_aload_n (i := 0) 0 hc dX11_question_35 rfl rfl ?_
          refine z_getA (k' := 24) hc fl_RX11_19 tT_0 (by decide) rfl rfl dX11_question_36 ?_
          refine z_getA (k' := 25) hc fl_RX11_153 tT_24 (by decide) rfl rfl dX11_question_39 ?_
          refine z_iload_n (i := 1) 1 hc dX11_question_42 rfl rfl ?_
          refine z_aald (r := 29 + 5 * x1) (nI9 := 6) hc tT_25 (by decide) (by decide) rfl (by decide) (fun j9 hj9 => by omega) dX11_question_43 h (fun g9 h => ?_)
          refine z_astore [(5, .ref (a ((29 + 5 * x1).toNat))), (0, .ref (a 0)), (1, .int (zI x1)), (2, .int (zI x2)), (3, .int (zI x3)), (4, .int (zI x4))] hc dX11_question_44 (by decide) rfl ?_
          refine z_aload 0 hc dX11_question_46 rfl ?_
          refine z_getI (kI := 29 + 5 * x1) (jI := 5) hc fl_RX11_166 (z_Sound_T (z_Sound_of g9)) (z_Sound_lt (z_Sound_of g9)) (z_Sound_c (z_Sound_of g9)) rfl rfl dX11_question_48 ?_
          refine z_iconst hc dX11_question_51 ?_
          refine z_icmp_lt (tgt := 65) hc dX11_question_52 (by decide) h (fun c52 h => ?_) (fun c52 h => ?_)
          · refine z_aload 0 hc dX11_question_65 rfl ?_
            refine z_iload_n (i := 2) 3 hc dX11_question_67 rfl rfl ?_
            refine z_iload_n (i := 3) 4 hc dX11_question_68 rfl rfl ?_
            refine z_iload 5 hc dX11_question_69 rfl ?_
            obtain ⟨st11, hr10, h⟩ := z_b_some h
            refine z_callVV [.int (zI x2), .int (zI x3), .int (zI x4)] hc hap o_X9_ask ml_RX11_171 (fun l hl => c_X9_ask hl (z_Sound_of g9) hr10) (by decide) (z_Sound_T (z_Sound_of g9)) (z_Sound_lt (z_Sound_of g9)) ⟨_, rfl, rfl⟩ rfl rfl (Nat.le_of_ble_eq_true rfl) (Nat.zero_le _) (Nat.zero_le _) dX11_question_71 ?_
            refine z_aload_n (i := 0) 1 hc dX11_question_74 rfl rfl ?_
            obtain ⟨st13, hr12, h⟩ := z_b_some h
            refine z_callVV [] hc hap o_X11_outdate ml_RX11_102 (fun l hl => c_X11_outdate hl  hr12) (by decide) tT_0 (by decide) ⟨_, rfl, rfl⟩ rfl rfl (Nat.le_of_ble_eq_true rfl) (Nat.zero_le _) (Nat.zero_le _) dX11_question_75 ?_
            refine z_aload 0 hc dX11_question_78 rfl ?_
            refine z_getI (kI := 29 + 5 * x1) (jI := 5) hc fl_RX11_166 (z_Sound_T (z_Sound_of g9)) (z_Sound_lt (z_Sound_of g9)) (z_Sound_c (z_Sound_of g9)) rfl rfl dX11_question_80 ?_
            have h := Option.some.inj h
            subst h
            exact z_retXI hc he rfl dX11_question_83
          · have h := Option.some.inj h
            subst h
            exact z_throw (text := "the sound has three questions") hc he rfl hap oT_RX11_88 (by decide +kernel) (by decide) (Nat.le_of_ble_eq_true rfl) dX11_question_55 dX11_question_58 dX11_question_59 dX11_question_61 dX11_question_64
        · obtain ⟨e9, st9⟩ := q9
          subst h
          refine z_xthrS (kd := 2) [.int (zI x4), .int (zI (-3000)), .int (zI 3000)] hc hap o_X11_checkRange ml_RX11_112 (fun l hl => c_X11_checkRange_t hl  hr7) (by decide) rfl rfl (Nat.le_of_ble_eq_true rfl) (Nat.le_refl 1) (Nat.le_refl 6) dX11_question_32 (z_outX hc he rfl)
      · obtain ⟨e9, st9⟩ := q9
        subst h
        refine z_xthrS (kd := 2) [.int (zI x3), .int (zI 0), .int (zI 63)] hc hap o_X11_checkRange ml_RX11_112 (fun l hl => c_X11_checkRange_t hl  hr5) (by decide) rfl rfl (Nat.le_of_ble_eq_true rfl) (Nat.le_refl 1) (Nat.le_refl 6) dX11_question_21 (z_outX hc he rfl)
    · obtain ⟨e9, st9⟩ := q9
      subst h
      refine z_xthrS (kd := 2) [.int (zI x2), .int (zI 0), .int (zI 1)] hc hap o_X11_checkRange ml_RX11_112 (fun l hl => c_X11_checkRange_t hl  hr3) (by decide) rfl rfl (Nat.le_of_ble_eq_true rfl) (Nat.le_refl 1) (Nat.le_refl 6) dX11_question_14 (z_outX hc he rfl)
  · obtain ⟨e9, st9⟩ := q9
    subst h
    refine z_xthrS (kd := 2) [.int (zI x1), .int (zI (st 24 1))] hc hap o_X11_checkIndex ml_RX11_105 (fun l hl => c_X11_checkIndex_t hl  hr1) (by decide) rfl rfl (Nat.le_of_ble_eq_true rfl) (Nat.le_refl 1) (Nat.le_refl 6) dX11_question_8 (z_outX hc he rfl)
set_option maxRecDepth 100000 in
set_option maxHeartbeats 4000000 in
theorem c_X11_question {l : Launch} (hl : l.stackTraces = false) {a : Nat → Nat} {x1 x2 x3 x4 : Int} {st : z_St} {o : z_R (Int × z_St)} (h : J_X11_question x1 x2 x3 x4 st = some o) : z_MX 0 l yX11_question cX11_question 6 (some .int) 9 z_T z_N a [.ref (a 0), .int (zI x1), .int (zI x2), .int (zI x3), .int (zI x4)] st o := z_ofX hl (by decide +kernel) (Nat.le_of_ble_eq_true rfl) (fun κ hc hap he => w_X11_question hc hap he h)
theorem c_X11_question_r {l : Launch} (hl : l.stackTraces = false) {a : Nat → Nat} {x1 x2 x3 x4 : Int} {st : z_St} {v9 : Int × z_St} (h : J_X11_question x1 x2 x3 x4 st = some (.inl v9)) : z_MX 0 l yX11_question cX11_question 6 (some .int) 9 z_T z_N a [.ref (a 0), .int (zI x1), .int (zI x2), .int (zI x3), .int (zI x4)] st (.inl v9) := by
  have h9 := c_X11_question (a := a) (o := .inl v9) hl h
  exact h9
theorem c_X11_question_t {l : Launch} (hl : l.stackTraces = false) {a : Nat → Nat} {x1 x2 x3 x4 : Int} {st : z_St} {e9 : Nat} {st9 : z_St} (h : J_X11_question x1 x2 x3 x4 st = some (.inr (e9, st9))) : z_MX 0 l yX11_question cX11_question 6 (some .int) 9 z_T z_N a [.ref (a 0), .int (zI x1), .int (zI x2), .int (zI x3), .int (zI x4)] st (.inr (e9, st9)) := by
  have h9 := c_X11_question (a := a) (o := .inr (e9, st9)) hl h
  exact h9
theorem dX11_type_0 : decode cX11_type 0 = .ok (.iload_n 1, 1) := by decide +kernel
theorem dX11_type_1 : decode cX11_type 1 = .ok (.bipush 97, 2) := by decide +kernel
theorem dX11_type_3 : decode cX11_type 3 = .ok (.bipush 102, 2) := by decide +kernel
theorem dX11_type_5 : decode cX11_type 5 = .ok (.invokestatic 112, 3) := by decide +kernel
theorem dX11_type_8 : decode cX11_type 8 = .ok (.aload_n 0, 1) := by decide +kernel
theorem dX11_type_9 : decode cX11_type 9 = .ok (.getfield 19, 3) := by decide +kernel
theorem dX11_type_12 : decode cX11_type 12 = .ok (.getfield 174, 3) := by decide +kernel
theorem dX11_type_15 : decode cX11_type 15 = .ok (.iconst 4, 1) := by decide +kernel
theorem dX11_type_16 : decode cX11_type 16 = .ok (.if_icmp .lt 13, 3) := by decide +kernel
theorem dX11_type_19 : decode cX11_type 19 = .ok (.new 88, 3) := by decide +kernel
theorem dX11_type_22 : decode cX11_type 22 = .ok (.dup, 1) := by decide +kernel
theorem dX11_type_23 : decode cX11_type 23 = .ok (.ldc 177, 2) := by decide +kernel
theorem dX11_type_25 : decode cX11_type 25 = .ok (.invokespecial 92, 3) := by decide +kernel
theorem dX11_type_28 : decode cX11_type 28 = .ok (.athrow, 1) := by decide +kernel
theorem dX11_type_29 : decode cX11_type 29 = .ok (.aload_n 0, 1) := by decide +kernel
theorem dX11_type_30 : decode cX11_type 30 = .ok (.getfield 19, 3) := by decide +kernel
theorem dX11_type_33 : decode cX11_type 33 = .ok (.getfield 179, 3) := by decide +kernel
theorem dX11_type_36 : decode cX11_type 36 = .ok (.aload_n 0, 1) := by decide +kernel
theorem dX11_type_37 : decode cX11_type 37 = .ok (.getfield 19, 3) := by decide +kernel
theorem dX11_type_40 : decode cX11_type 40 = .ok (.getfield 174, 3) := by decide +kernel
theorem dX11_type_43 : decode cX11_type 43 = .ok (.iload_n 1, 1) := by decide +kernel
theorem dX11_type_44 : decode cX11_type 44 = .ok (.bipush 97, 2) := by decide +kernel
theorem dX11_type_46 : decode cX11_type 46 = .ok (.isub, 1) := by decide +kernel
theorem dX11_type_47 : decode cX11_type 47 = .ok (.iastore, 1) := by decide +kernel
theorem dX11_type_48 : decode cX11_type 48 = .ok (.aload_n 0, 1) := by decide +kernel
theorem dX11_type_49 : decode cX11_type 49 = .ok (.getfield 19, 3) := by decide +kernel
theorem dX11_type_52 : decode cX11_type 52 = .ok (.dup, 1) := by decide +kernel
theorem dX11_type_53 : decode cX11_type 53 = .ok (.getfield 174, 3) := by decide +kernel
theorem dX11_type_56 : decode cX11_type 56 = .ok (.iconst 1, 1) := by decide +kernel
theorem dX11_type_57 : decode cX11_type 57 = .ok (.iadd, 1) := by decide +kernel
theorem dX11_type_58 : decode cX11_type 58 = .ok (.putfield 174, 3) := by decide +kernel
theorem dX11_type_61 : decode cX11_type 61 = .ok (.aload_n 0, 1) := by decide +kernel
theorem dX11_type_62 : decode cX11_type 62 = .ok (.getfield 19, 3) := by decide +kernel
theorem dX11_type_65 : decode cX11_type 65 = .ok (.getfield 174, 3) := by decide +kernel
theorem dX11_type_68 : decode cX11_type 68 = .ok (.ireturn, 1) := by decide +kernel
def J_X11_type (x1 : Int) (st : z_St) : Option (z_R (Int × z_St)) :=
  z_x (J_X11_checkRange x1 97 102 st) fun _ =>
    z_g (z32 (st 24 6) ∧ z32 4) (if st 24 6 < 4 then
      z_g (0 ≤ st 24 6 ∧ st 24 6 < 4) <|
      z_let (z_up st 28 (st 24 6) (x1 - 97)) fun st3 =>
      z_let (z_up st3 24 6 ((st3 24 6) + 1)) fun st4 =>
      some (.inl (st4 24 6, st4))
    else
      some (.inr (2, st)))
set_option maxRecDepth 100000 in
set_option maxHeartbeats 4000000 in
theorem w_X11_type {κ : zK} {a : Nat → Nat} {x1 : Int} {st : z_St} {o : z_R (Int × z_St)} (hc : z_C κ RX11 cX11_type 2 9 (z_mc o) (z_ms o)) (hap : z_AP κ a z_N) (he : z_EX 0 κ (some .int) z_T z_N a o) (h : J_X11_type x1 st = some o) : z_V κ z_T z_N a 0 0 0 [(0, .ref (a 0)), (1, .int (zI x1))] [] st := by
  unfold J_X11_type at h
  refine z_iload_n (i := 1) 1 hc dX11_type_0 rfl rfl ?_
  refine z_bipush hc dX11_type_1 rfl ?_
  refine z_bipush hc dX11_type_3 rfl ?_
  rcases z_x_cases h with ⟨u9, hr1, h⟩ | ⟨q9, hr1, h⟩
  · refine z_xcallSV [.int (zI x1), .int (zI 97), .int (zI 102)] hc hap o_X11_checkRange ml_RX11_112 (fun l hl => c_X11_checkRange_r hl  hr1) (by decide) rfl rfl (Nat.le_of_ble_eq_true rfl) (Nat.zero_le _) (Nat.zero_le _) dX11_type_5 ?_
    refine z_aload_n (i := 0) 0 hc dX11_type_8 rfl rfl ?_
    refine z_getA (k' := 24) hc fl_RX11_19 tT_0 (by decide) rfl rfl dX11_type_9 ?_
    refine z_getI (kI := 24) (jI := 6) hc fl_RX11_174 tT_24 (by decide) rfl rfl rfl dX11_type_12 ?_
    refine z_iconst hc dX11_type_15 ?_
    refine z_icmp_lt (tgt := 29) hc dX11_type_16 (by decide) h (fun c16 h => ?_) (fun c16 h => ?_)
    · refine z_aload_n (i := 0) 0 hc dX11_type_29 rfl rfl ?_
      refine z_getA (k' := 24) hc fl_RX11_19 tT_0 (by decide) rfl rfl dX11_type_30 ?_
      refine z_getA (k' := 28) hc fl_RX11_179 tT_24 (by decide) rfl rfl dX11_type_33 ?_
      refine z_aload_n (i := 0) 0 hc dX11_type_36 rfl rfl ?_
      refine z_getA (k' := 24) hc fl_RX11_19 tT_0 (by decide) rfl rfl dX11_type_37 ?_
      refine z_getI (kI := 24) (jI := 6) hc fl_RX11_174 tT_24 (by decide) rfl rfl rfl dX11_type_40 ?_
      refine z_iload_n (i := 1) 1 hc dX11_type_43 rfl rfl ?_
      refine z_bipush hc dX11_type_44 rfl ?_
      refine z_isub hc dX11_type_46 ?_
      refine z_iast (kI := 28) (nI9 := 4) hc hap tT_28 (by decide) rfl rfl (by decide) dX11_type_47 h (fun st3 h => ?_)
      refine z_aload_n (i := 0) 0 hc dX11_type_48 rfl rfl ?_
      refine z_getA (k' := 24) hc fl_RX11_19 tT_0 (by decide) rfl rfl dX11_type_49 ?_
      refine z_dup hc dX11_type_52 rfl ?_
      refine z_getI (kI := 24) (jI := 6) hc fl_RX11_174 tT_24 (by decide) rfl rfl rfl dX11_type_53 ?_
      refine z_iconst hc dX11_type_56 ?_
      refine z_iadd hc dX11_type_57 ?_
      refine z_putI (kI := 24) (jI := 6) hc hap fp_RX11_174 tT_24 (by decide) rfl rfl rfl dX11_type_58 h (fun st4 h => ?_)
      refine z_aload_n (i := 0) 0 hc dX11_type_61 rfl rfl ?_
      refine z_getA (k' := 24) hc fl_RX11_19 tT_0 (by decide) rfl rfl dX11_type_62 ?_
      refine z_getI (kI := 24) (jI := 6) hc fl_RX11_174 tT_24 (by decide) rfl rfl rfl dX11_type_65 ?_
      have h := Option.some.inj h
      subst h
      exact z_retXI hc he rfl dX11_type_68
    · have h := Option.some.inj h
      subst h
      exact z_throw (text := "the text has 4 letters") hc he rfl hap oT_RX11_88 (by decide +kernel) (by decide) (Nat.le_of_ble_eq_true rfl) dX11_type_19 dX11_type_22 dX11_type_23 dX11_type_25 dX11_type_28
  · obtain ⟨e9, st9⟩ := q9
    subst h
    refine z_xthrS (kd := 2) [.int (zI x1), .int (zI 97), .int (zI 102)] hc hap o_X11_checkRange ml_RX11_112 (fun l hl => c_X11_checkRange_t hl  hr1) (by decide) rfl rfl (Nat.le_of_ble_eq_true rfl) (Nat.le_refl 1) (Nat.le_refl 6) dX11_type_5 (z_outX hc he rfl)
set_option maxRecDepth 100000 in
set_option maxHeartbeats 4000000 in
theorem c_X11_type {l : Launch} (hl : l.stackTraces = false) {a : Nat → Nat} {x1 : Int} {st : z_St} {o : z_R (Int × z_St)} (h : J_X11_type x1 st = some o) : z_MX 0 l yX11_type cX11_type 2 (some .int) 9 z_T z_N a [.ref (a 0), .int (zI x1)] st o := z_ofX hl (by decide +kernel) (Nat.le_of_ble_eq_true rfl) (fun κ hc hap he => w_X11_type hc hap he h)
theorem c_X11_type_r {l : Launch} (hl : l.stackTraces = false) {a : Nat → Nat} {x1 : Int} {st : z_St} {v9 : Int × z_St} (h : J_X11_type x1 st = some (.inl v9)) : z_MX 0 l yX11_type cX11_type 2 (some .int) 9 z_T z_N a [.ref (a 0), .int (zI x1)] st (.inl v9) := by
  have h9 := c_X11_type (a := a) (o := .inl v9) hl h
  exact h9
theorem c_X11_type_t {l : Launch} (hl : l.stackTraces = false) {a : Nat → Nat} {x1 : Int} {st : z_St} {e9 : Nat} {st9 : z_St} (h : J_X11_type x1 st = some (.inr (e9, st9))) : z_MX 0 l yX11_type cX11_type 2 (some .int) 9 z_T z_N a [.ref (a 0), .int (zI x1)] st (.inr (e9, st9)) := by
  have h9 := c_X11_type (a := a) (o := .inr (e9, st9)) hl h
  exact h9
theorem dX11_word_0 : decode cX11_word 0 = .ok (.iload_n 1, 1) := by decide +kernel
theorem dX11_word_1 : decode cX11_word 1 = .ok (.iconst 0, 1) := by decide +kernel
theorem dX11_word_2 : decode cX11_word 2 = .ok (.sipush 9999, 3) := by decide +kernel
theorem dX11_word_5 : decode cX11_word 5 = .ok (.invokestatic 112, 3) := by decide +kernel
theorem dX11_word_8 : decode cX11_word 8 = .ok (.aload_n 0, 1) := by decide +kernel
theorem dX11_word_9 : decode cX11_word 9 = .ok (.getfield 19, 3) := by decide +kernel
theorem dX11_word_12 : decode cX11_word 12 = .ok (.invokevirtual 182, 3) := by decide +kernel
theorem dX11_word_15 : decode cX11_word 15 = .ok (.ifCond .eq 14, 3) := by decide +kernel
theorem dX11_word_18 : decode cX11_word 18 = .ok (.aload_n 0, 1) := by decide +kernel
theorem dX11_word_19 : decode cX11_word 19 = .ok (.getfield 19, 3) := by decide +kernel
theorem dX11_word_22 : decode cX11_word 22 = .ok (.getfield 186, 3) := by decide +kernel
theorem dX11_word_25 : decode cX11_word 25 = .ok (.iconst 5, 1) := by decide +kernel
theorem dX11_word_26 : decode cX11_word 26 = .ok (.if_icmp .lt 13, 3) := by decide +kernel
theorem dX11_word_29 : decode cX11_word 29 = .ok (.new 88, 3) := by decide +kernel
theorem dX11_word_32 : decode cX11_word 32 = .ok (.dup, 1) := by decide +kernel
theorem dX11_word_33 : decode cX11_word 33 = .ok (.ldc 189, 2) := by decide +kernel
theorem dX11_word_35 : decode cX11_word 35 = .ok (.invokespecial 92, 3) := by decide +kernel
theorem dX11_word_38 : decode cX11_word 38 = .ok (.athrow, 1) := by decide +kernel
theorem dX11_word_39 : decode cX11_word 39 = .ok (.aload_n 0, 1) := by decide +kernel
theorem dX11_word_40 : decode cX11_word 40 = .ok (.getfield 19, 3) := by decide +kernel
theorem dX11_word_43 : decode cX11_word 43 = .ok (.aload_n 0, 1) := by decide +kernel
theorem dX11_word_44 : decode cX11_word 44 = .ok (.getfield 19, 3) := by decide +kernel
theorem dX11_word_47 : decode cX11_word 47 = .ok (.getfield 186, 3) := by decide +kernel
theorem dX11_word_50 : decode cX11_word 50 = .ok (.iload_n 1, 1) := by decide +kernel
theorem dX11_word_51 : decode cX11_word 51 = .ok (.invokevirtual 191, 3) := by decide +kernel
theorem dX11_word_54 : decode cX11_word 54 = .ok (.aload_n 0, 1) := by decide +kernel
theorem dX11_word_55 : decode cX11_word 55 = .ok (.getfield 19, 3) := by decide +kernel
theorem dX11_word_58 : decode cX11_word 58 = .ok (.dup, 1) := by decide +kernel
theorem dX11_word_59 : decode cX11_word 59 = .ok (.getfield 186, 3) := by decide +kernel
theorem dX11_word_62 : decode cX11_word 62 = .ok (.iconst 1, 1) := by decide +kernel
theorem dX11_word_63 : decode cX11_word 63 = .ok (.iadd, 1) := by decide +kernel
theorem dX11_word_64 : decode cX11_word 64 = .ok (.putfield 186, 3) := by decide +kernel
theorem dX11_word_67 : decode cX11_word 67 = .ok (.aload_n 0, 1) := by decide +kernel
theorem dX11_word_68 : decode cX11_word 68 = .ok (.invokevirtual 102, 3) := by decide +kernel
theorem dX11_word_71 : decode cX11_word 71 = .ok (.aload_n 0, 1) := by decide +kernel
theorem dX11_word_72 : decode cX11_word 72 = .ok (.getfield 19, 3) := by decide +kernel
theorem dX11_word_75 : decode cX11_word 75 = .ok (.getfield 186, 3) := by decide +kernel
theorem dX11_word_78 : decode cX11_word 78 = .ok (.iconst 1, 1) := by decide +kernel
theorem dX11_word_79 : decode cX11_word 79 = .ok (.isub, 1) := by decide +kernel
theorem dX11_word_80 : decode cX11_word 80 = .ok (.ireturn, 1) := by decide +kernel
def J_X11_word_29 (st : z_St) : Option (z_R (Int × z_St)) :=
  some (.inr (2, st))
set_option maxRecDepth 100000 in
set_option maxHeartbeats 4000000 in
theorem w_X11_word_29 {κ : zK} {a : Nat → Nat} {st : z_St} {o : z_R (Int × z_St)} (hc : z_C κ RX11 cX11_word 2 10 (z_mc o) (z_ms o)) (hap : z_AP κ a z_N) (he : z_EX 0 κ (some .int) z_T z_N a o) (h : J_X11_word_29 st = some o) : z_V κ z_T z_N a 0 0 29 [] [] st := by
  unfold J_X11_word_29 at h
  have h := Option.some.inj h
  subst h
  exact z_throw (text := "no word can be made of the text") hc he rfl hap oT_RX11_88 (by decide +kernel) (by decide) (Nat.le_of_ble_eq_true rfl) dX11_word_29 dX11_word_32 dX11_word_33 dX11_word_35 dX11_word_38
def J_X11_word (x1 : Int) (st : z_St) : Option (z_R (Int × z_St)) :=
  z_x (J_X11_checkRange x1 0 9999 st) fun _ =>
    z_b (J_X4_textCanBeSaid st) fun r3 =>
    z_g (z32 r3) (if r3 = 0 then
      J_X11_word_29 st
    else
      z_g (z32 (st 24 4) ∧ z32 5) (if st 24 4 < 5 then
        z_b (J_X4_addSaying (st 24 4) x1 st) fun st6 =>
        z_let (z_up st6 24 4 ((st6 24 4) + 1)) fun st7 =>
        z_b (J_X11_outdate st7) fun st9 =>
        some (.inl ((st9 24 4) - 1, st9))
      else
        J_X11_word_29 st))
set_option maxRecDepth 100000 in
set_option maxHeartbeats 4000000 in
theorem w_X11_word {κ : zK} {a : Nat → Nat} {x1 : Int} {st : z_St} {o : z_R (Int × z_St)} (hc : z_C κ RX11 cX11_word 2 10 (z_mc o) (z_ms o)) (hap : z_AP κ a z_N) (he : z_EX 0 κ (some .int) z_T z_N a o) (h : J_X11_word x1 st = some o) : z_V κ z_T z_N a 0 0 0 [(0, .ref (a 0)), (1, .int (zI x1))] [] st := by
  unfold J_X11_word at h
  refine z_iload_n (i := 1) 1 hc dX11_word_0 rfl rfl ?_
  refine z_iconst hc dX11_word_1 ?_
  refine z_sipush hc dX11_word_2 rfl ?_
  rcases z_x_cases h with ⟨u9, hr1, h⟩ | ⟨q9, hr1, h⟩
  · refine z_xcallSV [.int (zI x1), .int (zI 0), .int (zI 9999)] hc hap o_X11_checkRange ml_RX11_112 (fun l hl => c_X11_checkRange_r hl  hr1) (by decide) rfl rfl (Nat.le_of_ble_eq_true rfl) (Nat.zero_le _) (Nat.zero_le _) dX11_word_5 ?_
    refine z_aload_n (i := 0) 0 hc dX11_word_8 rfl rfl ?_
    refine z_getA (k' := 24) hc fl_RX11_19 tT_0 (by decide) rfl rfl dX11_word_9 ?_
    obtain ⟨r3, hr3, h⟩ := z_b_some h
    refine z_callVI [] hc hap o_X4_textCanBeSaid ml_RX11_182 (fun l hl => c_X4_textCanBeSaid hl  hr3) (by decide) tT_24 (by decide) ⟨_, rfl, rfl⟩ rfl rfl (Nat.le_of_ble_eq_true rfl) (Nat.zero_le _) (Nat.zero_le _) dX11_word_12 ?_
    refine z_if_eq (tgt := 29) hc dX11_word_15 (by decide) h (fun c15 h => ?_) (fun c15 h => ?_)
    · refine z_sub [] [] rfl ?_
      exact w_X11_word_29 hc hap he h
    · refine z_aload_n (i := 0) 0 hc dX11_word_18 rfl rfl ?_
      refine z_getA (k' := 24) hc fl_RX11_19 tT_0 (by decide) rfl rfl dX11_word_19 ?_
      refine z_getI (kI := 24) (jI := 4) hc fl_RX11_186 tT_24 (by decide) rfl rfl rfl dX11_word_22 ?_
      refine z_iconst hc dX11_word_25 ?_
      refine z_icmp_lt (tgt := 39) hc dX11_word_26 (by decide) h (fun c26 h => ?_) (fun c26 h => ?_)
      · refine z_aload_n (i := 0) 0 hc dX11_word_39 rfl rfl ?_
        refine z_getA (k' := 24) hc fl_RX11_19 tT_0 (by decide) rfl rfl dX11_word_40 ?_
        refine z_aload_n (i := 0) 0 hc dX11_word_43 rfl rfl ?_
        refine z_getA (k' := 24) hc fl_RX11_19 tT_0 (by decide) rfl rfl dX11_word_44 ?_
        refine z_getI (kI := 24) (jI := 4) hc fl_RX11_186 tT_24 (by decide) rfl rfl rfl dX11_word_47 ?_
        refine z_iload_n (i := 1) 1 hc dX11_word_50 rfl rfl ?_
        obtain ⟨st6, hr5, h⟩ := z_b_some h
        refine z_callVV [.int (zI (st 24 4)), .int (zI x1)] hc hap o_X4_addSaying ml_RX11_191 (fun l hl => c_X4_addSaying hl  hr5) (by decide) tT_24 (by decide) ⟨_, rfl, rfl⟩ rfl rfl (Nat.le_of_ble_eq_true rfl) (Nat.zero_le _) (Nat.zero_le _) dX11_word_51 ?_
        refine z_aload_n (i := 0) 0 hc dX11_word_54 rfl rfl ?_
        refine z_getA (k' := 24) hc fl_RX11_19 tT_0 (by decide) rfl rfl dX11_word_55 ?_
        refine z_dup hc dX11_word_58 rfl ?_
        refine z_getI (kI := 24) (jI := 4) hc fl_RX11_186 tT_24 (by decide) rfl rfl rfl dX11_word_59 ?_
        refine z_iconst hc dX11_word_62 ?_
        refine z_iadd hc dX11_word_63 ?_
        refine z_putI (kI := 24) (jI := 4) hc hap fp_RX11_186 tT_24 (by decide) rfl rfl rfl dX11_word_64 h (fun st7 h => ?_)
        refine z_aload_n (i := 0) 0 hc dX11_word_67 rfl rfl ?_
        obtain ⟨st9, hr8, h⟩ := z_b_some h
        refine z_callVV [] hc hap o_X11_outdate ml_RX11_102 (fun l hl => c_X11_outdate hl  hr8) (by decide) tT_0 (by decide) ⟨_, rfl, rfl⟩ rfl rfl (Nat.le_of_ble_eq_true rfl) (Nat.zero_le _) (Nat.zero_le _) dX11_word_68 ?_
        refine z_aload_n (i := 0) 0 hc dX11_word_71 rfl rfl ?_
        refine z_getA (k' := 24) hc fl_RX11_19 tT_0 (by decide) rfl rfl dX11_word_72 ?_
        refine z_getI (kI := 24) (jI := 4) hc fl_RX11_186 tT_24 (by decide) rfl rfl rfl dX11_word_75 ?_
        refine z_iconst hc dX11_word_78 ?_
        refine z_isub hc dX11_word_79 ?_
        have h := Option.some.inj h
        subst h
        exact z_retXI hc he rfl dX11_word_80
      · refine z_sub [] [] rfl ?_
        exact w_X11_word_29 hc hap he h
  · obtain ⟨e9, st9⟩ := q9
    subst h
    refine z_xthrS (kd := 2) [.int (zI x1), .int (zI 0), .int (zI 9999)] hc hap o_X11_checkRange ml_RX11_112 (fun l hl => c_X11_checkRange_t hl  hr1) (by decide) rfl rfl (Nat.le_of_ble_eq_true rfl) (Nat.le_refl 1) (Nat.le_refl 6) dX11_word_5 (z_outX hc he rfl)
set_option maxRecDepth 100000 in
set_option maxHeartbeats 4000000 in
theorem c_X11_word {l : Launch} (hl : l.stackTraces = false) {a : Nat → Nat} {x1 : Int} {st : z_St} {o : z_R (Int × z_St)} (h : J_X11_word x1 st = some o) : z_MX 0 l yX11_word cX11_word 2 (some .int) 10 z_T z_N a [.ref (a 0), .int (zI x1)] st o := z_ofX hl (by decide +kernel) (Nat.le_of_ble_eq_true rfl) (fun κ hc hap he => w_X11_word hc hap he h)
theorem c_X11_word_r {l : Launch} (hl : l.stackTraces = false) {a : Nat → Nat} {x1 : Int} {st : z_St} {v9 : Int × z_St} (h : J_X11_word x1 st = some (.inl v9)) : z_MX 0 l yX11_word cX11_word 2 (some .int) 10 z_T z_N a [.ref (a 0), .int (zI x1)] st (.inl v9) := by
  have h9 := c_X11_word (a := a) (o := .inl v9) hl h
  exact h9
theorem c_X11_word_t {l : Launch} (hl : l.stackTraces = false) {a : Nat → Nat} {x1 : Int} {st : z_St} {e9 : Nat} {st9 : z_St} (h : J_X11_word x1 st = some (.inr (e9, st9))) : z_MX 0 l yX11_word cX11_word 2 (some .int) 10 z_T z_N a [.ref (a 0), .int (zI x1)] st (.inr (e9, st9)) := by
  have h9 := c_X11_word (a := a) (o := .inr (e9, st9)) hl h
  exact h9
theorem dX11_saying_0 : decode cX11_saying 0 = .ok (.iload_n 1, 1) := by decide +kernel
theorem dX11_saying_1 : decode cX11_saying 1 = .ok (.aload_n 0, 1) := by decide +kernel
theorem dX11_saying_2 : decode cX11_saying 2 = .ok (.getfield 19, 3) := by decide +kernel
theorem dX11_saying_5 : decode cX11_saying 5 = .ok (.getfield 186, 3) := by decide +kernel
theorem dX11_saying_8 : decode cX11_saying 8 = .ok (.invokestatic 105, 3) := by decide +kernel
theorem dX11_saying_11 : decode cX11_saying 11 = .ok (.iload_n 2, 1) := by decide +kernel
theorem dX11_saying_12 : decode cX11_saying 12 = .ok (.iconst 0, 1) := by decide +kernel
theorem dX11_saying_13 : decode cX11_saying 13 = .ok (.sipush 9999, 3) := by decide +kernel
theorem dX11_saying_16 : decode cX11_saying 16 = .ok (.invokestatic 112, 3) := by decide +kernel
theorem dX11_saying_19 : decode cX11_saying 19 = .ok (.aload_n 0, 1) := by decide +kernel
theorem dX11_saying_20 : decode cX11_saying 20 = .ok (.getfield 19, 3) := by decide +kernel
theorem dX11_saying_23 : decode cX11_saying 23 = .ok (.invokevirtual 182, 3) := by decide +kernel
theorem dX11_saying_26 : decode cX11_saying 26 = .ok (.ifCond .eq 16, 3) := by decide +kernel
theorem dX11_saying_29 : decode cX11_saying 29 = .ok (.aload_n 0, 1) := by decide +kernel
theorem dX11_saying_30 : decode cX11_saying 30 = .ok (.getfield 19, 3) := by decide +kernel
theorem dX11_saying_33 : decode cX11_saying 33 = .ok (.getfield 194, 3) := by decide +kernel
theorem dX11_saying_36 : decode cX11_saying 36 = .ok (.iload_n 1, 1) := by decide +kernel
theorem dX11_saying_37 : decode cX11_saying 37 = .ok (.iaload, 1) := by decide +kernel
theorem dX11_saying_38 : decode cX11_saying 38 = .ok (.iconst 2, 1) := by decide +kernel
theorem dX11_saying_39 : decode cX11_saying 39 = .ok (.if_icmp .lt 13, 3) := by decide +kernel
theorem dX11_saying_42 : decode cX11_saying 42 = .ok (.new 88, 3) := by decide +kernel
theorem dX11_saying_45 : decode cX11_saying 45 = .ok (.dup, 1) := by decide +kernel
theorem dX11_saying_46 : decode cX11_saying 46 = .ok (.ldc 197, 2) := by decide +kernel
theorem dX11_saying_48 : decode cX11_saying 48 = .ok (.invokespecial 92, 3) := by decide +kernel
theorem dX11_saying_51 : decode cX11_saying 51 = .ok (.athrow, 1) := by decide +kernel
theorem dX11_saying_52 : decode cX11_saying 52 = .ok (.aload_n 0, 1) := by decide +kernel
theorem dX11_saying_53 : decode cX11_saying 53 = .ok (.getfield 19, 3) := by decide +kernel
theorem dX11_saying_56 : decode cX11_saying 56 = .ok (.getfield 174, 3) := by decide +kernel
theorem dX11_saying_59 : decode cX11_saying 59 = .ok (.istore_n 3, 1) := by decide +kernel
theorem dX11_saying_60 : decode cX11_saying 60 = .ok (.aload_n 0, 1) := by decide +kernel
theorem dX11_saying_61 : decode cX11_saying 61 = .ok (.getfield 19, 3) := by decide +kernel
theorem dX11_saying_64 : decode cX11_saying 64 = .ok (.iload_n 1, 1) := by decide +kernel
theorem dX11_saying_65 : decode cX11_saying 65 = .ok (.iload_n 2, 1) := by decide +kernel
theorem dX11_saying_66 : decode cX11_saying 66 = .ok (.invokevirtual 191, 3) := by decide +kernel
theorem dX11_saying_69 : decode cX11_saying 69 = .ok (.aload_n 0, 1) := by decide +kernel
theorem dX11_saying_70 : decode cX11_saying 70 = .ok (.invokevirtual 102, 3) := by decide +kernel
theorem dX11_saying_73 : decode cX11_saying 73 = .ok (.iload_n 3, 1) := by decide +kernel
theorem dX11_saying_74 : decode cX11_saying 74 = .ok (.ireturn, 1) := by decide +kernel
def J_X11_saying_42 (st : z_St) : Option (z_R (Int × z_St)) :=
  some (.inr (2, st))
set_option maxRecDepth 100000 in
set_option maxHeartbeats 4000000 in
theorem w_X11_saying_42 {κ : zK} {a : Nat → Nat} {st : z_St} {o : z_R (Int × z_St)} (hc : z_C κ RX11 cX11_saying 4 10 (z_mc o) (z_ms o)) (hap : z_AP κ a z_N) (he : z_EX 0 κ (some .int) z_T z_N a o) (h : J_X11_saying_42 st = some o) : z_V κ z_T z_N a 0 0 42 [] [] st := by
  unfold J_X11_saying_42 at h
  have h := Option.some.inj h
  subst h
  exact z_throw (text := "no second saying can be made of the text") hc he rfl hap oT_RX11_88 (by decide +kernel) (by decide) (Nat.le_of_ble_eq_true rfl) dX11_saying_42 dX11_saying_45 dX11_saying_46 dX11_saying_48 dX11_saying_51
def J_X11_saying (x1 x2 : Int) (st : z_St) : Option (z_R (Int × z_St)) :=
  z_x (J_X11_checkIndex x1 (st 24 4) st) fun _ =>
    z_x (J_X11_checkRange x2 0 9999 st) fun _ =>
      z_b (J_X4_textCanBeSaid st) fun r5 =>
      z_g (z32 r5) (if r5 = 0 then
        J_X11_saying_42 st
      else
        z_g (0 ≤ x1 ∧ x1 < 5) <|
        z_g (z32 (st 27 x1) ∧ z32 2) (if st 27 x1 < 2 then
          z_b (J_X4_addSaying x1 x2 st) fun st9 =>
          z_b (J_X11_outdate st9) fun st11 =>
          some (.inl (st 24 6, st11))
        else
          J_X11_saying_42 st))
set_option maxRecDepth 100000 in
set_option maxHeartbeats 4000000 in
theorem w_X11_saying {κ : zK} {a : Nat → Nat} {x1 x2 : Int} {st : z_St} {o : z_R (Int × z_St)} (hc : z_C κ RX11 cX11_saying 4 10 (z_mc o) (z_ms o)) (hap : z_AP κ a z_N) (he : z_EX 0 κ (some .int) z_T z_N a o) (h : J_X11_saying x1 x2 st = some o) : z_V κ z_T z_N a 0 0 0 [(0, .ref (a 0)), (1, .int (zI x1)), (2, .int (zI x2))] [] st := by
  unfold J_X11_saying at h
  refine z_iload_n (i := 1) 1 hc dX11_saying_0 rfl rfl ?_
  refine z_aload_n (i := 0) 0 hc dX11_saying_1 rfl rfl ?_
  refine z_getA (k' := 24) hc fl_RX11_19 tT_0 (by decide) rfl rfl dX11_saying_2 ?_
  refine z_getI (kI := 24) (jI := 4) hc fl_RX11_186 tT_24 (by decide) rfl rfl rfl dX11_saying_5 ?_
  rcases z_x_cases h with ⟨u9, hr1, h⟩ | ⟨q9, hr1, h⟩
  · refine z_xcallSV [.int (zI x1), .int (zI (st 24 4))] hc hap o_X11_checkIndex ml_RX11_105 (fun l hl => c_X11_checkIndex_r hl  hr1) (by decide) rfl rfl (Nat.le_of_ble_eq_true rfl) (Nat.zero_le _) (Nat.zero_le _) dX11_saying_8 ?_
    refine z_iload_n (i := 2) 2 hc dX11_saying_11 rfl rfl ?_
    refine z_iconst hc dX11_saying_12 ?_
    refine z_sipush hc dX11_saying_13 rfl ?_
    rcases z_x_cases h with ⟨u9, hr3, h⟩ | ⟨q9, hr3, h⟩
    · refine z_xcallSV [.int (zI x2), .int (zI 0), .int (zI 9999)] hc hap o_X11_checkRange ml_RX11_112 (fun l hl => c_X11_checkRange_r hl  hr3) (by decide) rfl rfl (Nat.le_of_ble_eq_true rfl) (Nat.zero_le _) (Nat.zero_le _) dX11_saying_16 ?_
      refine z_aload_n (i := 0) 0 hc dX11_saying_19 rfl rfl ?_
      refine z_getA (k' := 24) hc fl_RX11_19 tT_0 (by decide) rfl rfl dX11_saying_20 ?_
      obtain ⟨r5, hr5, h⟩ := z_b_some h
      refine z_callVI [] hc hap o_X4_textCanBeSaid ml_RX11_182 (fun l hl => c_X4_textCanBeSaid hl  hr5) (by decide) tT_24 (by decide) ⟨_, rfl, rfl⟩ rfl rfl (Nat.le_of_ble_eq_true rfl) (Nat.zero_le _) (Nat.zero_le _) dX11_saying_23 ?_
      refine z_if_eq (tgt := 42) hc dX11_saying_26 (by decide) h (fun c26 h => ?_) (fun c26 h => ?_)
      · refine z_sub [] [] rfl ?_
        exact w_X11_saying_42 hc hap he h
      · refine z_aload_n (i := 0) 0 hc dX11_saying_29 rfl rfl ?_
        refine z_getA (k' := 24) hc fl_RX11_19 tT_0 (by decide) rfl rfl dX11_saying_30 ?_
        refine z_getA (k' := 27) hc fl_RX11_194 tT_24 (by decide) rfl rfl dX11_saying_33 ?_
        refine z_iload_n (i := 1) 1 hc dX11_saying_36 rfl rfl ?_
        refine z_iald (kI := 27) (nI9 := 5) hc tT_27 (by decide) rfl rfl (by decide) dX11_saying_37 h (fun g7 h => ?_)
        refine z_iconst hc dX11_saying_38 ?_
        refine z_icmp_lt (tgt := 52) hc dX11_saying_39 (by decide) h (fun c39 h => ?_) (fun c39 h => ?_)
        · refine z_aload_n (i := 0) 0 hc dX11_saying_52 rfl rfl ?_
          refine z_getA (k' := 24) hc fl_RX11_19 tT_0 (by decide) rfl rfl dX11_saying_53 ?_
          refine z_getI (kI := 24) (jI := 6) hc fl_RX11_174 tT_24 (by decide) rfl rfl rfl dX11_saying_56 ?_
          refine z_istore_n (i := 3) [(3, .int (zI (st 24 6))), (0, .ref (a 0)), (1, .int (zI x1)), (2, .int (zI x2))] hc dX11_saying_59 rfl (by decide) rfl ?_
          refine z_aload_n (i := 0) 1 hc dX11_saying_60 rfl rfl ?_
          refine z_getA (k' := 24) hc fl_RX11_19 tT_0 (by decide) rfl rfl dX11_saying_61 ?_
          refine z_iload_n (i := 1) 2 hc dX11_saying_64 rfl rfl ?_
          refine z_iload_n (i := 2) 3 hc dX11_saying_65 rfl rfl ?_
          obtain ⟨st9, hr8, h⟩ := z_b_some h
          refine z_callVV [.int (zI x1), .int (zI x2)] hc hap o_X4_addSaying ml_RX11_191 (fun l hl => c_X4_addSaying hl  hr8) (by decide) tT_24 (by decide) ⟨_, rfl, rfl⟩ rfl rfl (Nat.le_of_ble_eq_true rfl) (Nat.zero_le _) (Nat.zero_le _) dX11_saying_66 ?_
          refine z_aload_n (i := 0) 1 hc dX11_saying_69 rfl rfl ?_
          obtain ⟨st11, hr10, h⟩ := z_b_some h
          refine z_callVV [] hc hap o_X11_outdate ml_RX11_102 (fun l hl => c_X11_outdate hl  hr10) (by decide) tT_0 (by decide) ⟨_, rfl, rfl⟩ rfl rfl (Nat.le_of_ble_eq_true rfl) (Nat.zero_le _) (Nat.zero_le _) dX11_saying_70 ?_
          refine z_iload_n (i := 3) 0 hc dX11_saying_73 rfl rfl ?_
          have h := Option.some.inj h
          subst h
          exact z_retXI hc he rfl dX11_saying_74
        · refine z_sub [] [] rfl ?_
          exact w_X11_saying_42 hc hap he h
    · obtain ⟨e9, st9⟩ := q9
      subst h
      refine z_xthrS (kd := 2) [.int (zI x2), .int (zI 0), .int (zI 9999)] hc hap o_X11_checkRange ml_RX11_112 (fun l hl => c_X11_checkRange_t hl  hr3) (by decide) rfl rfl (Nat.le_of_ble_eq_true rfl) (Nat.le_refl 1) (Nat.le_refl 6) dX11_saying_16 (z_outX hc he rfl)
  · obtain ⟨e9, st9⟩ := q9
    subst h
    refine z_xthrS (kd := 2) [.int (zI x1), .int (zI (st 24 4))] hc hap o_X11_checkIndex ml_RX11_105 (fun l hl => c_X11_checkIndex_t hl  hr1) (by decide) rfl rfl (Nat.le_of_ble_eq_true rfl) (Nat.le_refl 1) (Nat.le_refl 6) dX11_saying_8 (z_outX hc he rfl)
set_option maxRecDepth 100000 in
set_option maxHeartbeats 4000000 in
theorem c_X11_saying {l : Launch} (hl : l.stackTraces = false) {a : Nat → Nat} {x1 x2 : Int} {st : z_St} {o : z_R (Int × z_St)} (h : J_X11_saying x1 x2 st = some o) : z_MX 0 l yX11_saying cX11_saying 4 (some .int) 10 z_T z_N a [.ref (a 0), .int (zI x1), .int (zI x2)] st o := z_ofX hl (by decide +kernel) (Nat.le_of_ble_eq_true rfl) (fun κ hc hap he => w_X11_saying hc hap he h)
theorem c_X11_saying_r {l : Launch} (hl : l.stackTraces = false) {a : Nat → Nat} {x1 x2 : Int} {st : z_St} {v9 : Int × z_St} (h : J_X11_saying x1 x2 st = some (.inl v9)) : z_MX 0 l yX11_saying cX11_saying 4 (some .int) 10 z_T z_N a [.ref (a 0), .int (zI x1), .int (zI x2)] st (.inl v9) := by
  have h9 := c_X11_saying (a := a) (o := .inl v9) hl h
  exact h9
theorem c_X11_saying_t {l : Launch} (hl : l.stackTraces = false) {a : Nat → Nat} {x1 x2 : Int} {st : z_St} {e9 : Nat} {st9 : z_St} (h : J_X11_saying x1 x2 st = some (.inr (e9, st9))) : z_MX 0 l yX11_saying cX11_saying 4 (some .int) 10 z_T z_N a [.ref (a 0), .int (zI x1), .int (zI x2)] st (.inr (e9, st9)) := by
  have h9 := c_X11_saying (a := a) (o := .inr (e9, st9)) hl h
  exact h9
theorem dX11_form_0 : decode cX11_form 0 = .ok (.iload_n 1, 1) := by decide +kernel
theorem dX11_form_1 : decode cX11_form 1 = .ok (.aload_n 0, 1) := by decide +kernel
theorem dX11_form_2 : decode cX11_form 2 = .ok (.getfield 19, 3) := by decide +kernel
theorem dX11_form_5 : decode cX11_form 5 = .ok (.getfield 186, 3) := by decide +kernel
theorem dX11_form_8 : decode cX11_form 8 = .ok (.invokestatic 105, 3) := by decide +kernel
theorem dX11_form_11 : decode cX11_form 11 = .ok (.iload_n 2, 1) := by decide +kernel
theorem dX11_form_12 : decode cX11_form 12 = .ok (.aload_n 0, 1) := by decide +kernel
theorem dX11_form_13 : decode cX11_form 13 = .ok (.getfield 19, 3) := by decide +kernel
theorem dX11_form_16 : decode cX11_form 16 = .ok (.getfield 194, 3) := by decide +kernel
theorem dX11_form_19 : decode cX11_form 19 = .ok (.iload_n 1, 1) := by decide +kernel
theorem dX11_form_20 : decode cX11_form 20 = .ok (.iaload, 1) := by decide +kernel
theorem dX11_form_21 : decode cX11_form 21 = .ok (.invokestatic 105, 3) := by decide +kernel
theorem dX11_form_24 : decode cX11_form 24 = .ok (.aload_n 0, 1) := by decide +kernel
theorem dX11_form_25 : decode cX11_form 25 = .ok (.getfield 19, 3) := by decide +kernel
theorem dX11_form_28 : decode cX11_form 28 = .ok (.iload_n 1, 1) := by decide +kernel
theorem dX11_form_29 : decode cX11_form 29 = .ok (.iload_n 2, 1) := by decide +kernel
theorem dX11_form_30 : decode cX11_form 30 = .ok (.invokevirtual 199, 3) := by decide +kernel
theorem dX11_form_33 : decode cX11_form 33 = .ok (.astore 4, 2) := by decide +kernel
theorem dX11_form_35 : decode cX11_form 35 = .ok (.iload_n 3, 1) := by decide +kernel
theorem dX11_form_36 : decode cX11_form 36 = .ok (.aload 4, 2) := by decide +kernel
theorem dX11_form_38 : decode cX11_form 38 = .ok (.getfield 203, 3) := by decide +kernel
theorem dX11_form_41 : decode cX11_form 41 = .ok (.invokestatic 105, 3) := by decide +kernel
theorem dX11_form_44 : decode cX11_form 44 = .ok (.aload_n 0, 1) := by decide +kernel
theorem dX11_form_45 : decode cX11_form 45 = .ok (.getfield 19, 3) := by decide +kernel
theorem dX11_form_48 : decode cX11_form 48 = .ok (.aload 4, 2) := by decide +kernel
theorem dX11_form_50 : decode cX11_form 50 = .ok (.iload_n 3, 1) := by decide +kernel
theorem dX11_form_51 : decode cX11_form 51 = .ok (.invokevirtual 208, 3) := by decide +kernel
theorem dX11_form_54 : decode cX11_form 54 = .ok (.ireturn, 1) := by decide +kernel
def J_X11_form (x1 x2 x3 : Int) (st : z_St) : Option (z_R Int) :=
  z_x (J_X11_checkIndex x1 (st 24 4) st) fun _ =>
    z_g (0 ≤ x1 ∧ x1 < 5) <|
    z_x (J_X11_checkIndex x2 (st 27 x1) st) fun _ =>
      z_b (J_X4_sayingOf x1 x2 st) fun r6 =>
      z_g (z_isSaying r6) <|
      z_x (J_X11_checkIndex x3 (st r6 2) st) fun _ =>
        z_b (J_X4_formAt r6 x3 st) fun r11 =>
        some (.inl r11)
set_option maxRecDepth 100000 in
set_option maxHeartbeats 4000000 in
theorem w_X11_form {κ : zK} {a : Nat → Nat} {x1 x2 x3 : Int} {st : z_St} {o : z_R Int} (hc : z_C κ RX11 cX11_form 5 10 (z_mc (z_cvR st o)) (z_ms (z_cvR st o))) (hap : z_AP κ a z_N) (he : z_EX 0 κ (some .int) z_T z_N a (z_cvR st o)) (h : J_X11_form x1 x2 x3 st = some o) : z_V κ z_T z_N a 0 0 0 [(0, .ref (a 0)), (1, .int (zI x1)), (2, .int (zI x2)), (3, .int (zI x3))] [] st := by
  unfold J_X11_form at h
  refine z_iload_n (i := 1) 1 hc dX11_form_0 rfl rfl ?_
  refine z_aload_n (i := 0) 0 hc dX11_form_1 rfl rfl ?_
  refine z_getA (k' := 24) hc fl_RX11_19 tT_0 (by decide) rfl rfl dX11_form_2 ?_
  refine z_getI (kI := 24) (jI := 4) hc fl_RX11_186 tT_24 (by decide) rfl rfl rfl dX11_form_5 ?_
  rcases z_x_cases h with ⟨u9, hr1, h⟩ | ⟨q9, hr1, h⟩
  · refine z_xcallSV [.int (zI x1), .int (zI (st 24 4))] hc hap o_X11_checkIndex ml_RX11_105 (fun l hl => c_X11_checkIndex_r hl  hr1) (by decide) rfl rfl (Nat.le_of_ble_eq_true rfl) (Nat.zero_le _) (Nat.zero_le _) dX11_form_8 ?_
    refine z_iload_n (i := 2) 2 hc dX11_form_11 rfl rfl ?_
    refine z_aload_n (i := 0) 0 hc dX11_form_12 rfl rfl ?_
    refine z_getA (k' := 24) hc fl_RX11_19 tT_0 (by decide) rfl rfl dX11_form_13 ?_
    refine z_getA (k' := 27) hc fl_RX11_194 tT_24 (by decide) rfl rfl dX11_form_16 ?_
    refine z_iload_n (i := 1) 1 hc dX11_form_19 rfl rfl ?_
    refine z_iald (kI := 27) (nI9 := 5) hc tT_27 (by decide) rfl rfl (by decide) dX11_form_20 h (fun g3 h => ?_)
    rcases z_x_cases h with ⟨u9, hr4, h⟩ | ⟨q9, hr4, h⟩
    · refine z_xcallSV [.int (zI x2), .int (zI (st 27 x1))] hc hap o_X11_checkIndex ml_RX11_105 (fun l hl => c_X11_checkIndex_r hl  hr4) (by decide) rfl rfl (Nat.le_of_ble_eq_true rfl) (Nat.zero_le _) (Nat.zero_le _) dX11_form_21 ?_
      refine z_aload_n (i := 0) 0 hc dX11_form_24 rfl rfl ?_
      refine z_getA (k' := 24) hc fl_RX11_19 tT_0 (by decide) rfl rfl dX11_form_25 ?_
      refine z_iload_n (i := 1) 1 hc dX11_form_28 rfl rfl ?_
      refine z_iload_n (i := 2) 2 hc dX11_form_29 rfl rfl ?_
      obtain ⟨r6, hr6, h⟩ := z_b_some h
      refine z_callVA [.int (zI x1), .int (zI x2)] hc hap o_X4_sayingOf ml_RX11_199 (fun l hl => c_X4_sayingOf hl  hr6) (by decide) tT_24 (by decide) ⟨_, rfl, rfl⟩ rfl rfl (Nat.le_of_ble_eq_true rfl) (Nat.zero_le _) (Nat.zero_le _) dX11_form_30 ?_
      obtain ⟨g8, h⟩ := z_g_some h
      refine z_astore [(4, .ref (a r6.toNat)), (0, .ref (a 0)), (1, .int (zI x1)), (2, .int (zI x2)), (3, .int (zI x3))] hc dX11_form_33 (by decide) rfl ?_
      refine z_iload_n (i := 3) 4 hc dX11_form_35 rfl rfl ?_
      refine z_aload 0 hc dX11_form_36 rfl ?_
      refine z_getI (kI := r6) (jI := 2) hc fl_RX11_203 (z_Saying_T g8) (z_Saying_lt g8) (z_Saying_c g8) rfl rfl dX11_form_38 ?_
      rcases z_x_cases h with ⟨u9, hr9, h⟩ | ⟨q9, hr9, h⟩
      · refine z_xcallSV [.int (zI x3), .int (zI (st r6 2))] hc hap o_X11_checkIndex ml_RX11_105 (fun l hl => c_X11_checkIndex_r hl  hr9) (by decide) rfl rfl (Nat.le_of_ble_eq_true rfl) (Nat.zero_le _) (Nat.zero_le _) dX11_form_41 ?_
        refine z_aload_n (i := 0) 1 hc dX11_form_44 rfl rfl ?_
        refine z_getA (k' := 24) hc fl_RX11_19 tT_0 (by decide) rfl rfl dX11_form_45 ?_
        refine z_aload 0 hc dX11_form_48 rfl ?_
        refine z_iload_n (i := 3) 4 hc dX11_form_50 rfl rfl ?_
        obtain ⟨r11, hr11, h⟩ := z_b_some h
        refine z_callVI [.ref (a r6.toNat), .int (zI x3)] hc hap o_X4_formAt ml_RX11_208 (fun l hl => c_X4_formAt hl g8 hr11) (by decide) tT_24 (by decide) ⟨_, rfl, rfl⟩ rfl rfl (Nat.le_of_ble_eq_true rfl) (Nat.zero_le _) (Nat.zero_le _) dX11_form_51 ?_
        have h := Option.some.inj h
        subst h
        exact z_retXI hc he rfl dX11_form_54
      · obtain ⟨e9, st9⟩ := q9
        subst h
        refine z_xthrS (kd := 2) [.int (zI x3), .int (zI (st r6 2))] hc hap o_X11_checkIndex ml_RX11_105 (fun l hl => c_X11_checkIndex_t hl  hr9) (by decide) rfl rfl (Nat.le_of_ble_eq_true rfl) (Nat.le_refl 1) (Nat.le_refl 6) dX11_form_41 (z_outX hc he rfl)
    · obtain ⟨e9, st9⟩ := q9
      subst h
      refine z_xthrS (kd := 2) [.int (zI x2), .int (zI (st 27 x1))] hc hap o_X11_checkIndex ml_RX11_105 (fun l hl => c_X11_checkIndex_t hl  hr4) (by decide) rfl rfl (Nat.le_of_ble_eq_true rfl) (Nat.le_refl 1) (Nat.le_refl 6) dX11_form_21 (z_outX hc he rfl)
  · obtain ⟨e9, st9⟩ := q9
    subst h
    refine z_xthrS (kd := 2) [.int (zI x1), .int (zI (st 24 4))] hc hap o_X11_checkIndex ml_RX11_105 (fun l hl => c_X11_checkIndex_t hl  hr1) (by decide) rfl rfl (Nat.le_of_ble_eq_true rfl) (Nat.le_refl 1) (Nat.le_refl 6) dX11_form_8 (z_outX hc he rfl)
set_option maxRecDepth 100000 in
set_option maxHeartbeats 4000000 in
theorem c_X11_form {l : Launch} (hl : l.stackTraces = false) {a : Nat → Nat} {x1 x2 x3 : Int} {st : z_St} {o : z_R Int} (h : J_X11_form x1 x2 x3 st = some o) : z_MX 0 l yX11_form cX11_form 5 (some .int) 10 z_T z_N a [.ref (a 0), .int (zI x1), .int (zI x2), .int (zI x3)] st (z_cvR st o) := z_ofX hl (by decide +kernel) (Nat.le_of_ble_eq_true rfl) (fun κ hc hap he => w_X11_form hc hap he h)
theorem c_X11_form_r {l : Launch} (hl : l.stackTraces = false) {a : Nat → Nat} {x1 x2 x3 : Int} {st : z_St} {v9 : Int} (h : J_X11_form x1 x2 x3 st = some (.inl v9)) : z_MX 0 l yX11_form cX11_form 5 (some .int) 10 z_T z_N a [.ref (a 0), .int (zI x1), .int (zI x2), .int (zI x3)] st (.inl (v9, st)) := by
  have h9 := c_X11_form (a := a) (o := .inl v9) hl h
  exact h9
theorem c_X11_form_t {l : Launch} (hl : l.stackTraces = false) {a : Nat → Nat} {x1 x2 x3 : Int} {st : z_St} {e9 : Nat} {st9 : z_St} (h : J_X11_form x1 x2 x3 st = some (.inr (e9, st9))) : z_MX 0 l yX11_form cX11_form 5 (some .int) 10 z_T z_N a [.ref (a 0), .int (zI x1), .int (zI x2), .int (zI x3)] st (.inr (e9, st9)) := by
  have h9 := c_X11_form (a := a) (o := .inr (e9, st9)) hl h
  exact h9
theorem dX11_cost_0 : decode cX11_cost 0 = .ok (.iload_n 1, 1) := by decide +kernel
theorem dX11_cost_1 : decode cX11_cost 1 = .ok (.aload_n 0, 1) := by decide +kernel
theorem dX11_cost_2 : decode cX11_cost 2 = .ok (.getfield 12, 3) := by decide +kernel
theorem dX11_cost_5 : decode cX11_cost 5 = .ok (.getfield 84, 3) := by decide +kernel
theorem dX11_cost_8 : decode cX11_cost 8 = .ok (.invokestatic 105, 3) := by decide +kernel
theorem dX11_cost_11 : decode cX11_cost 11 = .ok (.iload_n 2, 1) := by decide +kernel
theorem dX11_cost_12 : decode cX11_cost 12 = .ok (.aload_n 0, 1) := by decide +kernel
theorem dX11_cost_13 : decode cX11_cost 13 = .ok (.getfield 19, 3) := by decide +kernel
theorem dX11_cost_16 : decode cX11_cost 16 = .ok (.getfield 148, 3) := by decide +kernel
theorem dX11_cost_19 : decode cX11_cost 19 = .ok (.invokestatic 105, 3) := by decide +kernel
theorem dX11_cost_22 : decode cX11_cost 22 = .ok (.iload_n 3, 1) := by decide +kernel
theorem dX11_cost_23 : decode cX11_cost 23 = .ok (.iconst 0, 1) := by decide +kernel
theorem dX11_cost_24 : decode cX11_cost 24 = .ok (.aload_n 0, 1) := by decide +kernel
theorem dX11_cost_25 : decode cX11_cost 25 = .ok (.getfield 19, 3) := by decide +kernel
theorem dX11_cost_28 : decode cX11_cost 28 = .ok (.getfield 153, 3) := by decide +kernel
theorem dX11_cost_31 : decode cX11_cost 31 = .ok (.iload_n 2, 1) := by decide +kernel
theorem dX11_cost_32 : decode cX11_cost 32 = .ok (.aaload, 1) := by decide +kernel
theorem dX11_cost_33 : decode cX11_cost 33 = .ok (.getfield 166, 3) := by decide +kernel
theorem dX11_cost_36 : decode cX11_cost 36 = .ok (.invokestatic 112, 3) := by decide +kernel
theorem dX11_cost_39 : decode cX11_cost 39 = .ok (.aload_n 0, 1) := by decide +kernel
theorem dX11_cost_40 : decode cX11_cost 40 = .ok (.getfield 12, 3) := by decide +kernel
theorem dX11_cost_43 : decode cX11_cost 43 = .ok (.iload_n 1, 1) := by decide +kernel
theorem dX11_cost_44 : decode cX11_cost 44 = .ok (.aload_n 0, 1) := by decide +kernel
theorem dX11_cost_45 : decode cX11_cost 45 = .ok (.getfield 19, 3) := by decide +kernel
theorem dX11_cost_48 : decode cX11_cost 48 = .ok (.getfield 153, 3) := by decide +kernel
theorem dX11_cost_51 : decode cX11_cost 51 = .ok (.iload_n 2, 1) := by decide +kernel
theorem dX11_cost_52 : decode cX11_cost 52 = .ok (.aaload, 1) := by decide +kernel
theorem dX11_cost_53 : decode cX11_cost 53 = .ok (.iload_n 3, 1) := by decide +kernel
theorem dX11_cost_54 : decode cX11_cost 54 = .ok (.invokevirtual 212, 3) := by decide +kernel
theorem dX11_cost_57 : decode cX11_cost 57 = .ok (.lreturn, 1) := by decide +kernel
def J_X11_cost (x1 x2 x3 : Int) (st : z_St) : Option (z_R Int) :=
  z_x (J_X11_checkIndex x1 (st 1 2) st) fun _ =>
    z_x (J_X11_checkIndex x2 (st 24 1) st) fun _ =>
      z_g (0 ≤ x2 ∧ x2 < 6) <|
      z_x (J_X11_checkRange x3 0 (st (29 + 5 * x2) 5) st) fun _ =>
        z_g (0 ≤ x2 ∧ x2 < 6) <|
        z_b (J_X1_costBy x1 (29 + 5 * x2) x3 st) fun r9 =>
        some (.inl r9)
set_option maxRecDepth 100000 in
set_option maxHeartbeats 4000000 in
theorem w_X11_cost {κ : zK} {a : Nat → Nat} {x1 x2 x3 : Int} {st : z_St} {o : z_R Int} (hc : z_C κ RX11 cX11_cost 4 10 (z_mc (z_cvR st o)) (z_ms (z_cvR st o))) (hap : z_AP κ a z_N) (he : z_EX 1 κ (some .long) z_T z_N a (z_cvR st o)) (h : J_X11_cost x1 x2 x3 st = some o) : z_V κ z_T z_N a 0 0 0 [(0, .ref (a 0)), (1, .int (zI x1)), (2, .int (zI x2)), (3, .int (zI x3))] [] st := by
  unfold J_X11_cost at h
  refine z_iload_n (i := 1) 1 hc dX11_cost_0 rfl rfl ?_
  refine z_aload_n (i := 0) 0 hc dX11_cost_1 rfl rfl ?_
  refine z_getA (k' := 1) hc fl_RX11_12 tT_0 (by decide) rfl rfl dX11_cost_2 ?_
  refine z_getI (kI := 1) (jI := 2) hc fl_RX11_84 tT_1 (by decide) rfl rfl rfl dX11_cost_5 ?_
  rcases z_x_cases h with ⟨u9, hr1, h⟩ | ⟨q9, hr1, h⟩
  · refine z_xcallSV [.int (zI x1), .int (zI (st 1 2))] hc hap o_X11_checkIndex ml_RX11_105 (fun l hl => c_X11_checkIndex_r hl  hr1) (by decide) rfl rfl (Nat.le_of_ble_eq_true rfl) (Nat.zero_le _) (Nat.zero_le _) dX11_cost_8 ?_
    refine z_iload_n (i := 2) 2 hc dX11_cost_11 rfl rfl ?_
    refine z_aload_n (i := 0) 0 hc dX11_cost_12 rfl rfl ?_
    refine z_getA (k' := 24) hc fl_RX11_19 tT_0 (by decide) rfl rfl dX11_cost_13 ?_
    refine z_getI (kI := 24) (jI := 1) hc fl_RX11_148 tT_24 (by decide) rfl rfl rfl dX11_cost_16 ?_
    rcases z_x_cases h with ⟨u9, hr3, h⟩ | ⟨q9, hr3, h⟩
    · refine z_xcallSV [.int (zI x2), .int (zI (st 24 1))] hc hap o_X11_checkIndex ml_RX11_105 (fun l hl => c_X11_checkIndex_r hl  hr3) (by decide) rfl rfl (Nat.le_of_ble_eq_true rfl) (Nat.zero_le _) (Nat.zero_le _) dX11_cost_19 ?_
      refine z_iload_n (i := 3) 3 hc dX11_cost_22 rfl rfl ?_
      refine z_iconst hc dX11_cost_23 ?_
      refine z_aload_n (i := 0) 0 hc dX11_cost_24 rfl rfl ?_
      refine z_getA (k' := 24) hc fl_RX11_19 tT_0 (by decide) rfl rfl dX11_cost_25 ?_
      refine z_getA (k' := 25) hc fl_RX11_153 tT_24 (by decide) rfl rfl dX11_cost_28 ?_
      refine z_iload_n (i := 2) 2 hc dX11_cost_31 rfl rfl ?_
      refine z_aald (r := 29 + 5 * x2) (nI9 := 6) hc tT_25 (by decide) (by decide) rfl (by decide) (fun j9 hj9 => by omega) dX11_cost_32 h (fun g5 h => ?_)
      refine z_getI (kI := 29 + 5 * x2) (jI := 5) hc fl_RX11_166 (z_Sound_T (z_Sound_of g5)) (z_Sound_lt (z_Sound_of g5)) (z_Sound_c (z_Sound_of g5)) rfl rfl dX11_cost_33 ?_
      rcases z_x_cases h with ⟨u9, hr6, h⟩ | ⟨q9, hr6, h⟩
      · refine z_xcallSV [.int (zI x3), .int (zI 0), .int (zI (st (29 + 5 * x2) 5))] hc hap o_X11_checkRange ml_RX11_112 (fun l hl => c_X11_checkRange_r hl  hr6) (by decide) rfl rfl (Nat.le_of_ble_eq_true rfl) (Nat.zero_le _) (Nat.zero_le _) dX11_cost_36 ?_
        refine z_aload_n (i := 0) 0 hc dX11_cost_39 rfl rfl ?_
        refine z_getA (k' := 1) hc fl_RX11_12 tT_0 (by decide) rfl rfl dX11_cost_40 ?_
        refine z_iload_n (i := 1) 1 hc dX11_cost_43 rfl rfl ?_
        refine z_aload_n (i := 0) 0 hc dX11_cost_44 rfl rfl ?_
        refine z_getA (k' := 24) hc fl_RX11_19 tT_0 (by decide) rfl rfl dX11_cost_45 ?_
        refine z_getA (k' := 25) hc fl_RX11_153 tT_24 (by decide) rfl rfl dX11_cost_48 ?_
        refine z_iload_n (i := 2) 2 hc dX11_cost_51 rfl rfl ?_
        refine z_aald (r := 29 + 5 * x2) (nI9 := 6) hc tT_25 (by decide) (by decide) rfl (by decide) (fun j9 hj9 => by omega) dX11_cost_52 h (fun g8 h => ?_)
        refine z_iload_n (i := 3) 3 hc dX11_cost_53 rfl rfl ?_
        obtain ⟨r9, hr9, h⟩ := z_b_some h
        refine z_callVJ [.int (zI x1), .ref (a ((29 + 5 * x2).toNat)), .int (zI x3)] hc hap o_X1_costBy ml_RX11_212 (fun l hl => c_X1_costBy hl (z_Sound_of g8) hr9) (by decide) tT_1 (by decide) ⟨_, rfl, rfl⟩ rfl rfl (Nat.le_of_ble_eq_true rfl) (Nat.zero_le _) (Nat.zero_le _) dX11_cost_54 ?_
        have h := Option.some.inj h
        subst h
        exact z_retXJ hc he rfl dX11_cost_57
      · obtain ⟨e9, st9⟩ := q9
        subst h
        refine z_xthrS (kd := 2) [.int (zI x3), .int (zI 0), .int (zI (st (29 + 5 * x2) 5))] hc hap o_X11_checkRange ml_RX11_112 (fun l hl => c_X11_checkRange_t hl  hr6) (by decide) rfl rfl (Nat.le_of_ble_eq_true rfl) (Nat.le_refl 1) (Nat.le_refl 6) dX11_cost_36 (z_outX hc he rfl)
    · obtain ⟨e9, st9⟩ := q9
      subst h
      refine z_xthrS (kd := 2) [.int (zI x2), .int (zI (st 24 1))] hc hap o_X11_checkIndex ml_RX11_105 (fun l hl => c_X11_checkIndex_t hl  hr3) (by decide) rfl rfl (Nat.le_of_ble_eq_true rfl) (Nat.le_refl 1) (Nat.le_refl 6) dX11_cost_19 (z_outX hc he rfl)
  · obtain ⟨e9, st9⟩ := q9
    subst h
    refine z_xthrS (kd := 2) [.int (zI x1), .int (zI (st 1 2))] hc hap o_X11_checkIndex ml_RX11_105 (fun l hl => c_X11_checkIndex_t hl  hr1) (by decide) rfl rfl (Nat.le_of_ble_eq_true rfl) (Nat.le_refl 1) (Nat.le_refl 6) dX11_cost_8 (z_outX hc he rfl)
set_option maxRecDepth 100000 in
set_option maxHeartbeats 4000000 in
theorem c_X11_cost {l : Launch} (hl : l.stackTraces = false) {a : Nat → Nat} {x1 x2 x3 : Int} {st : z_St} {o : z_R Int} (h : J_X11_cost x1 x2 x3 st = some o) : z_MX 1 l yX11_cost cX11_cost 4 (some .long) 10 z_T z_N a [.ref (a 0), .int (zI x1), .int (zI x2), .int (zI x3)] st (z_cvR st o) := z_ofX hl (by decide +kernel) (Nat.le_of_ble_eq_true rfl) (fun κ hc hap he => w_X11_cost hc hap he h)
theorem c_X11_cost_r {l : Launch} (hl : l.stackTraces = false) {a : Nat → Nat} {x1 x2 x3 : Int} {st : z_St} {v9 : Int} (h : J_X11_cost x1 x2 x3 st = some (.inl v9)) : z_MX 1 l yX11_cost cX11_cost 4 (some .long) 10 z_T z_N a [.ref (a 0), .int (zI x1), .int (zI x2), .int (zI x3)] st (.inl (v9, st)) := by
  have h9 := c_X11_cost (a := a) (o := .inl v9) hl h
  exact h9
theorem c_X11_cost_t {l : Launch} (hl : l.stackTraces = false) {a : Nat → Nat} {x1 x2 x3 : Int} {st : z_St} {e9 : Nat} {st9 : z_St} (h : J_X11_cost x1 x2 x3 st = some (.inr (e9, st9))) : z_MX 1 l yX11_cost cX11_cost 4 (some .long) 10 z_T z_N a [.ref (a 0), .int (zI x1), .int (zI x2), .int (zI x3)] st (.inr (e9, st9)) := by
  have h9 := c_X11_cost (a := a) (o := .inr (e9, st9)) hl h
  exact h9
theorem dX11_readyTable_0 : decode cX11_readyTable 0 = .ok (.aload_n 0, 1) := by decide +kernel
theorem dX11_readyTable_1 : decode cX11_readyTable 1 = .ok (.getfield 33, 3) := by decide +kernel
theorem dX11_readyTable_4 : decode cX11_readyTable 4 = .ok (.getfield 331, 3) := by decide +kernel
theorem dX11_readyTable_7 : decode cX11_readyTable 7 = .ok (.ifCond .ne 22, 3) := by decide +kernel
theorem dX11_readyTable_10 : decode cX11_readyTable 10 = .ok (.aload_n 0, 1) := by decide +kernel
theorem dX11_readyTable_11 : decode cX11_readyTable 11 = .ok (.getfield 33, 3) := by decide +kernel
theorem dX11_readyTable_14 : decode cX11_readyTable 14 = .ok (.aload_n 0, 1) := by decide +kernel
theorem dX11_readyTable_15 : decode cX11_readyTable 15 = .ok (.getfield 12, 3) := by decide +kernel
theorem dX11_readyTable_18 : decode cX11_readyTable 18 = .ok (.aload_n 0, 1) := by decide +kernel
theorem dX11_readyTable_19 : decode cX11_readyTable 19 = .ok (.getfield 19, 3) := by decide +kernel
theorem dX11_readyTable_22 : decode cX11_readyTable 22 = .ok (.aload_n 0, 1) := by decide +kernel
theorem dX11_readyTable_23 : decode cX11_readyTable 23 = .ok (.getfield 26, 3) := by decide +kernel
theorem dX11_readyTable_26 : decode cX11_readyTable 26 = .ok (.invokevirtual 338, 3) := by decide +kernel
theorem dX11_readyTable_29 : decode cX11_readyTable 29 = .ok (.return_, 1) := by decide +kernel
def J_X11_readyTable_29 (st : z_St) : Option (z_St) :=
  some st
set_option maxRecDepth 100000 in
set_option maxHeartbeats 4000000 in
theorem w_X11_readyTable_29 {κ : zK} {a : Nat → Nat} {st : z_St} {o : z_St} (hc : z_C κ RX11 cX11_readyTable 1 12 0 0) (hap : z_AP κ a z_N) (he : z_E 2 κ none z_T z_N a 0 o) (h : J_X11_readyTable_29 st = some o) : z_V κ z_T z_N a 0 0 29 [] [] st := by
  unfold J_X11_readyTable_29 at h
  have h := Option.some.inj h
  subst h
  exact z_retV hc he dX11_readyTable_29
def J_X11_readyTable (st : z_St) : Option (z_St) :=
  z_g (z32 (st 99 4)) (if st 99 4 = 0 then
    z_b (J_X0_fill st) fun st2 =>
    J_X11_readyTable_29 st2
  else
    J_X11_readyTable_29 st)
set_option maxRecDepth 100000 in
set_option maxHeartbeats 4000000 in
theorem w_X11_readyTable {κ : zK} {a : Nat → Nat} {st : z_St} {o : z_St} (hc : z_C κ RX11 cX11_readyTable 1 12 0 0) (hap : z_AP κ a z_N) (he : z_E 2 κ none z_T z_N a 0 o) (h : J_X11_readyTable st = some o) : z_V κ z_T z_N a 0 0 0 [(0, .ref (a 0))] [] st := by
  unfold J_X11_readyTable at h
  refine z_aload_n (i := 0) 0 hc dX11_readyTable_0 rfl rfl ?_
  refine z_getA (k' := 99) hc fl_RX11_33 tT_0 (by decide) rfl rfl dX11_readyTable_1 ?_
  refine z_getZ (kI := 99) (jI := 4) hc fl_RX11_331 tT_99 (by decide) rfl rfl rfl dX11_readyTable_4 ?_
  refine z_if_ne (tgt := 29) hc dX11_readyTable_7 (by decide) h (fun c7 h => ?_) (fun c7 h => ?_)
  · refine z_aload_n (i := 0) 0 hc dX11_readyTable_10 rfl rfl ?_
    refine z_getA (k' := 99) hc fl_RX11_33 tT_0 (by decide) rfl rfl dX11_readyTable_11 ?_
    refine z_aload_n (i := 0) 0 hc dX11_readyTable_14 rfl rfl ?_
    refine z_getA (k' := 1) hc fl_RX11_12 tT_0 (by decide) rfl rfl dX11_readyTable_15 ?_
    refine z_aload_n (i := 0) 0 hc dX11_readyTable_18 rfl rfl ?_
    refine z_getA (k' := 24) hc fl_RX11_19 tT_0 (by decide) rfl rfl dX11_readyTable_19 ?_
    refine z_aload_n (i := 0) 0 hc dX11_readyTable_22 rfl rfl ?_
    refine z_getA (k' := 89) hc fl_RX11_26 tT_0 (by decide) rfl rfl dX11_readyTable_23 ?_
    obtain ⟨st2, hr1, h⟩ := z_b_some h
    refine z_callVV [.ref (a 1), .ref (a 24), .ref (a 89)] hc hap o_X0_fill ml_RX11_338 (fun l hl => c_X0_fill hl  hr1) (by decide) tT_99 (by decide) ⟨_, rfl, rfl⟩ rfl rfl (Nat.le_of_ble_eq_true rfl) (Nat.zero_le _) (Nat.zero_le _) dX11_readyTable_26 ?_
    refine z_sub [] [] rfl ?_
    exact w_X11_readyTable_29 hc hap he h
  · refine z_sub [] [] rfl ?_
    exact w_X11_readyTable_29 hc hap he h
set_option maxRecDepth 100000 in
set_option maxHeartbeats 4000000 in
theorem c_X11_readyTable {l : Launch} (hl : l.stackTraces = false) {a : Nat → Nat} {st : z_St} {o : z_St} (h : J_X11_readyTable st = some o) : z_M 2 l yX11_readyTable cX11_readyTable 1 none 12 z_T z_N a [.ref (a 0)] st 0 o := z_of hl (by decide +kernel) (Nat.le_of_ble_eq_true rfl) (fun κ hc hap he => w_X11_readyTable hc hap he h)
theorem dX11_orNone_0 : decode cX11_orNone 0 = .ok (.lload_n 0, 1) := by decide +kernel
theorem dX11_orNone_1 : decode cX11_orNone 1 = .ok (.ldc2_w 351, 3) := by decide +kernel
theorem dX11_orNone_4 : decode cX11_orNone 4 = .ok (.lcmp, 1) := by decide +kernel
theorem dX11_orNone_5 : decode cX11_orNone 5 = .ok (.ifCond .lt 9, 3) := by decide +kernel
theorem dX11_orNone_8 : decode cX11_orNone 8 = .ok (.ldc2_w 353, 3) := by decide +kernel
theorem dX11_orNone_11 : decode cX11_orNone 11 = .ok (.goto 4, 3) := by decide +kernel
theorem dX11_orNone_14 : decode cX11_orNone 14 = .ok (.lload_n 0, 1) := by decide +kernel
theorem dX11_orNone_15 : decode cX11_orNone 15 = .ok (.lreturn, 1) := by decide +kernel
def J_X11_orNone_15 (s0 : Int) (st : z_St) : Option (Int) :=
  some s0
set_option maxRecDepth 100000 in
set_option maxHeartbeats 4000000 in
theorem w_X11_orNone_15 {κ : zK} {a : Nat → Nat} {s0 : Int} {st : z_St} {o : Int} (hc : z_C κ RX11 cX11_orNone 2 8 0 0) (hap : z_AP κ a z_N) (he : z_E 1 κ (some .long) z_T z_N a o st) (h : J_X11_orNone_15 s0 st = some o) : z_V κ z_T z_N a 0 0 15 [] [.long (zJ s0)] st := by
  unfold J_X11_orNone_15 at h
  have h := Option.some.inj h
  subst h
  exact z_retJ hc he dX11_orNone_15
def J_X11_orNone (x0 : Int) (st : z_St) : Option (Int) :=
  z_g (z64 x0 ∧ z64 1152921504606846976) (if x0 < 1152921504606846976 then
    J_X11_orNone_15 x0 st
  else
    J_X11_orNone_15 (-1) st)
set_option maxRecDepth 100000 in
set_option maxHeartbeats 4000000 in
theorem w_X11_orNone {κ : zK} {a : Nat → Nat} {x0 : Int} {st : z_St} {o : Int} (hc : z_C κ RX11 cX11_orNone 2 8 0 0) (hap : z_AP κ a z_N) (he : z_E 1 κ (some .long) z_T z_N a o st) (h : J_X11_orNone x0 st = some o) : z_V κ z_T z_N a 0 0 0 [(0, .long (zJ x0))] [] st := by
  unfold J_X11_orNone at h
  refine z_lload_n (i := 0) 0 hc dX11_orNone_0 rfl rfl ?_
  refine z_ldc2 1152921504606846976 hc kc_RX11_351 dX11_orNone_1 rfl ?_
  refine z_lcmp_lt (tgt := 14) hc dX11_orNone_4 dX11_orNone_5 (by decide) h (fun c4 h => ?_) (fun c4 h => ?_)
  · refine z_lload_n (i := 0) 0 hc dX11_orNone_14 rfl rfl ?_
    refine z_sub [] [] rfl ?_
    exact w_X11_orNone_15 hc hap he h
  · refine z_ldc2 (-1) hc kc_RX11_353 dX11_orNone_8 rfl ?_
    refine z_goto (tgt := 15) hc dX11_orNone_11 (by decide) ?_
    refine z_sub [] [] rfl ?_
    exact w_X11_orNone_15 hc hap he h
set_option maxRecDepth 100000 in
set_option maxHeartbeats 4000000 in
theorem c_X11_orNone {l : Launch} (hl : l.stackTraces = false) {a : Nat → Nat} {x0 : Int} {st : z_St} {o : Int} (h : J_X11_orNone x0 st = some o) : z_M 1 l yX11_orNone cX11_orNone 2 (some .long) 8 z_T z_N a [.long (zJ x0)] st o st := z_of hl (by decide +kernel) (Nat.le_of_ble_eq_true rfl) (fun κ hc hap he => w_X11_orNone hc hap he h)
theorem dX11_over_0 : decode cX11_over 0 = .ok (.iload_n 1, 1) := by decide +kernel
theorem dX11_over_1 : decode cX11_over 1 = .ok (.aload_n 0, 1) := by decide +kernel
theorem dX11_over_2 : decode cX11_over 2 = .ok (.getfield 19, 3) := by decide +kernel
theorem dX11_over_5 : decode cX11_over 5 = .ok (.getfield 186, 3) := by decide +kernel
theorem dX11_over_8 : decode cX11_over 8 = .ok (.invokestatic 105, 3) := by decide +kernel
theorem dX11_over_11 : decode cX11_over 11 = .ok (.iload_n 2, 1) := by decide +kernel
theorem dX11_over_12 : decode cX11_over 12 = .ok (.iconst 0, 1) := by decide +kernel
theorem dX11_over_13 : decode cX11_over 13 = .ok (.aload_n 0, 1) := by decide +kernel
theorem dX11_over_14 : decode cX11_over 14 = .ok (.getfield 12, 3) := by decide +kernel
theorem dX11_over_17 : decode cX11_over 17 = .ok (.getfield 84, 3) := by decide +kernel
theorem dX11_over_20 : decode cX11_over 20 = .ok (.iconst 1, 1) := by decide +kernel
theorem dX11_over_21 : decode cX11_over 21 = .ok (.isub, 1) := by decide +kernel
theorem dX11_over_22 : decode cX11_over 22 = .ok (.invokestatic 112, 3) := by decide +kernel
theorem dX11_over_25 : decode cX11_over 25 = .ok (.iload_n 3, 1) := by decide +kernel
theorem dX11_over_26 : decode cX11_over 26 = .ok (.iload_n 2, 1) := by decide +kernel
theorem dX11_over_27 : decode cX11_over 27 = .ok (.iconst 1, 1) := by decide +kernel
theorem dX11_over_28 : decode cX11_over 28 = .ok (.iadd, 1) := by decide +kernel
theorem dX11_over_29 : decode cX11_over 29 = .ok (.aload_n 0, 1) := by decide +kernel
theorem dX11_over_30 : decode cX11_over 30 = .ok (.getfield 12, 3) := by decide +kernel
theorem dX11_over_33 : decode cX11_over 33 = .ok (.getfield 84, 3) := by decide +kernel
theorem dX11_over_36 : decode cX11_over 36 = .ok (.invokestatic 112, 3) := by decide +kernel
theorem dX11_over_39 : decode cX11_over 39 = .ok (.aload_n 0, 1) := by decide +kernel
theorem dX11_over_40 : decode cX11_over 40 = .ok (.invokevirtual 216, 3) := by decide +kernel
theorem dX11_over_43 : decode cX11_over 43 = .ok (.aload_n 0, 1) := by decide +kernel
theorem dX11_over_44 : decode cX11_over 44 = .ok (.getfield 33, 3) := by decide +kernel
theorem dX11_over_47 : decode cX11_over 47 = .ok (.iload_n 1, 1) := by decide +kernel
theorem dX11_over_48 : decode cX11_over 48 = .ok (.iload_n 2, 1) := by decide +kernel
theorem dX11_over_49 : decode cX11_over 49 = .ok (.iload_n 3, 1) := by decide +kernel
theorem dX11_over_50 : decode cX11_over 50 = .ok (.invokevirtual 219, 3) := by decide +kernel
theorem dX11_over_53 : decode cX11_over 53 = .ok (.invokestatic 223, 3) := by decide +kernel
theorem dX11_over_56 : decode cX11_over 56 = .ok (.lreturn, 1) := by decide +kernel
def J_X11_over (x1 x2 x3 : Int) (st : z_St) : Option (z_R (Int × z_St)) :=
  z_x (J_X11_checkIndex x1 (st 24 4) st) fun _ =>
    z_x (J_X11_checkRange x2 0 ((st 1 2) - 1) st) fun _ =>
      z_x (J_X11_checkRange x3 (x2 + 1) (st 1 2) st) fun _ =>
        z_b (J_X11_readyTable st) fun st8 =>
        z_b (J_X0_span x1 x2 x3 st8) fun r9 =>
        z_b (J_X11_orNone r9 st8) fun r11 =>
        some (.inl (r11, st8))
set_option maxRecDepth 100000 in
set_option maxHeartbeats 4000000 in
theorem w_X11_over {κ : zK} {a : Nat → Nat} {x1 x2 x3 : Int} {st : z_St} {o : z_R (Int × z_St)} (hc : z_C κ RX11 cX11_over 4 13 (z_mc o) (z_ms o)) (hap : z_AP κ a z_N) (he : z_EX 1 κ (some .long) z_T z_N a o) (h : J_X11_over x1 x2 x3 st = some o) : z_V κ z_T z_N a 0 0 0 [(0, .ref (a 0)), (1, .int (zI x1)), (2, .int (zI x2)), (3, .int (zI x3))] [] st := by
  unfold J_X11_over at h
  refine z_iload_n (i := 1) 1 hc dX11_over_0 rfl rfl ?_
  refine z_aload_n (i := 0) 0 hc dX11_over_1 rfl rfl ?_
  refine z_getA (k' := 24) hc fl_RX11_19 tT_0 (by decide) rfl rfl dX11_over_2 ?_
  refine z_getI (kI := 24) (jI := 4) hc fl_RX11_186 tT_24 (by decide) rfl rfl rfl dX11_over_5 ?_
  rcases z_x_cases h with ⟨u9, hr1, h⟩ | ⟨q9, hr1, h⟩
  · refine z_xcallSV [.int (zI x1), .int (zI (st 24 4))] hc hap o_X11_checkIndex ml_RX11_105 (fun l hl => c_X11_checkIndex_r hl  hr1) (by decide) rfl rfl (Nat.le_of_ble_eq_true rfl) (Nat.zero_le _) (Nat.zero_le _) dX11_over_8 ?_
    refine z_iload_n (i := 2) 2 hc dX11_over_11 rfl rfl ?_
    refine z_iconst hc dX11_over_12 ?_
    refine z_aload_n (i := 0) 0 hc dX11_over_13 rfl rfl ?_
    refine z_getA (k' := 1) hc fl_RX11_12 tT_0 (by decide) rfl rfl dX11_over_14 ?_
    refine z_getI (kI := 1) (jI := 2) hc fl_RX11_84 tT_1 (by decide) rfl rfl rfl dX11_over_17 ?_
    refine z_iconst hc dX11_over_20 ?_
    refine z_isub hc dX11_over_21 ?_
    rcases z_x_cases h with ⟨u9, hr3, h⟩ | ⟨q9, hr3, h⟩
    · refine z_xcallSV [.int (zI x2), .int (zI 0), .int (zI ((st 1 2) - 1))] hc hap o_X11_checkRange ml_RX11_112 (fun l hl => c_X11_checkRange_r hl  hr3) (by decide) rfl rfl (Nat.le_of_ble_eq_true rfl) (Nat.zero_le _) (Nat.zero_le _) dX11_over_22 ?_
      refine z_iload_n (i := 3) 3 hc dX11_over_25 rfl rfl ?_
      refine z_iload_n (i := 2) 2 hc dX11_over_26 rfl rfl ?_
      refine z_iconst hc dX11_over_27 ?_
      refine z_iadd hc dX11_over_28 ?_
      refine z_aload_n (i := 0) 0 hc dX11_over_29 rfl rfl ?_
      refine z_getA (k' := 1) hc fl_RX11_12 tT_0 (by decide) rfl rfl dX11_over_30 ?_
      refine z_getI (kI := 1) (jI := 2) hc fl_RX11_84 tT_1 (by decide) rfl rfl rfl dX11_over_33 ?_
      rcases z_x_cases h with ⟨u9, hr5, h⟩ | ⟨q9, hr5, h⟩
      · refine z_xcallSV [.int (zI x3), .int (zI (x2 + 1)), .int (zI (st 1 2))] hc hap o_X11_checkRange ml_RX11_112 (fun l hl => c_X11_checkRange_r hl  hr5) (by decide) rfl rfl (Nat.le_of_ble_eq_true rfl) (Nat.zero_le _) (Nat.zero_le _) dX11_over_36 ?_
        refine z_aload_n (i := 0) 0 hc dX11_over_39 rfl rfl ?_
        obtain ⟨st8, hr7, h⟩ := z_b_some h
        refine z_callVV [] hc hap o_X11_readyTable ml_RX11_216 (fun l hl => c_X11_readyTable hl  hr7) (by decide) tT_0 (by decide) ⟨_, rfl, rfl⟩ rfl rfl (Nat.le_of_ble_eq_true rfl) (Nat.zero_le _) (Nat.zero_le _) dX11_over_40 ?_
        refine z_aload_n (i := 0) 0 hc dX11_over_43 rfl rfl ?_
        refine z_getA (k' := 99) hc fl_RX11_33 tT_0 (by decide) rfl rfl dX11_over_44 ?_
        refine z_iload_n (i := 1) 1 hc dX11_over_47 rfl rfl ?_
        refine z_iload_n (i := 2) 2 hc dX11_over_48 rfl rfl ?_
        refine z_iload_n (i := 3) 3 hc dX11_over_49 rfl rfl ?_
        obtain ⟨r9, hr9, h⟩ := z_b_some h
        refine z_callVJ [.int (zI x1), .int (zI x2), .int (zI x3)] hc hap o_X0_span ml_RX11_219 (fun l hl => c_X0_span hl  hr9) (by decide) tT_99 (by decide) ⟨_, rfl, rfl⟩ rfl rfl (Nat.le_of_ble_eq_true rfl) (Nat.zero_le _) (Nat.zero_le _) dX11_over_50 ?_
        obtain ⟨r11, hr11, h⟩ := z_b_some h
        refine z_callSJ [.long (zJ r9)] hc hap o_X11_orNone ml_RX11_223 (fun l hl => c_X11_orNone hl  hr11) (by decide) rfl rfl (Nat.le_of_ble_eq_true rfl) (Nat.zero_le _) (Nat.zero_le _) dX11_over_53 ?_
        have h := Option.some.inj h
        subst h
        exact z_retXJ hc he rfl dX11_over_56
      · obtain ⟨e9, st9⟩ := q9
        subst h
        refine z_xthrS (kd := 2) [.int (zI x3), .int (zI (x2 + 1)), .int (zI (st 1 2))] hc hap o_X11_checkRange ml_RX11_112 (fun l hl => c_X11_checkRange_t hl  hr5) (by decide) rfl rfl (Nat.le_of_ble_eq_true rfl) (Nat.le_refl 1) (Nat.le_refl 6) dX11_over_36 (z_outX hc he rfl)
    · obtain ⟨e9, st9⟩ := q9
      subst h
      refine z_xthrS (kd := 2) [.int (zI x2), .int (zI 0), .int (zI ((st 1 2) - 1))] hc hap o_X11_checkRange ml_RX11_112 (fun l hl => c_X11_checkRange_t hl  hr3) (by decide) rfl rfl (Nat.le_of_ble_eq_true rfl) (Nat.le_refl 1) (Nat.le_refl 6) dX11_over_22 (z_outX hc he rfl)
  · obtain ⟨e9, st9⟩ := q9
    subst h
    refine z_xthrS (kd := 2) [.int (zI x1), .int (zI (st 24 4))] hc hap o_X11_checkIndex ml_RX11_105 (fun l hl => c_X11_checkIndex_t hl  hr1) (by decide) rfl rfl (Nat.le_of_ble_eq_true rfl) (Nat.le_refl 1) (Nat.le_refl 6) dX11_over_8 (z_outX hc he rfl)
set_option maxRecDepth 100000 in
set_option maxHeartbeats 4000000 in
theorem c_X11_over {l : Launch} (hl : l.stackTraces = false) {a : Nat → Nat} {x1 x2 x3 : Int} {st : z_St} {o : z_R (Int × z_St)} (h : J_X11_over x1 x2 x3 st = some o) : z_MX 1 l yX11_over cX11_over 4 (some .long) 13 z_T z_N a [.ref (a 0), .int (zI x1), .int (zI x2), .int (zI x3)] st o := z_ofX hl (by decide +kernel) (Nat.le_of_ble_eq_true rfl) (fun κ hc hap he => w_X11_over hc hap he h)
theorem c_X11_over_r {l : Launch} (hl : l.stackTraces = false) {a : Nat → Nat} {x1 x2 x3 : Int} {st : z_St} {v9 : Int × z_St} (h : J_X11_over x1 x2 x3 st = some (.inl v9)) : z_MX 1 l yX11_over cX11_over 4 (some .long) 13 z_T z_N a [.ref (a 0), .int (zI x1), .int (zI x2), .int (zI x3)] st (.inl v9) := by
  have h9 := c_X11_over (a := a) (o := .inl v9) hl h
  exact h9
theorem c_X11_over_t {l : Launch} (hl : l.stackTraces = false) {a : Nat → Nat} {x1 x2 x3 : Int} {st : z_St} {e9 : Nat} {st9 : z_St} (h : J_X11_over x1 x2 x3 st = some (.inr (e9, st9))) : z_MX 1 l yX11_over cX11_over 4 (some .long) 13 z_T z_N a [.ref (a 0), .int (zI x1), .int (zI x2), .int (zI x3)] st (.inr (e9, st9)) := by
  have h9 := c_X11_over (a := a) (o := .inr (e9, st9)) hl h
  exact h9
theorem dX11_checkRow_0 : decode cX11_checkRow 0 = .ok (.iload_n 1, 1) := by decide +kernel
theorem dX11_checkRow_1 : decode cX11_checkRow 1 = .ok (.iconst 1, 1) := by decide +kernel
theorem dX11_checkRow_2 : decode cX11_checkRow 2 = .ok (.sipush 9999, 3) := by decide +kernel
theorem dX11_checkRow_5 : decode cX11_checkRow 5 = .ok (.invokestatic 112, 3) := by decide +kernel
theorem dX11_checkRow_8 : decode cX11_checkRow 8 = .ok (.iload_n 1, 1) := by decide +kernel
theorem dX11_checkRow_9 : decode cX11_checkRow 9 = .ok (.istore_n 2, 1) := by decide +kernel
theorem dX11_checkRow_10 : decode cX11_checkRow 10 = .ok (.iload_n 2, 1) := by decide +kernel
theorem dX11_checkRow_11 : decode cX11_checkRow 11 = .ok (.ifCond .le 26, 3) := by decide +kernel
theorem dX11_checkRow_14 : decode cX11_checkRow 14 = .ok (.iload_n 2, 1) := by decide +kernel
theorem dX11_checkRow_15 : decode cX11_checkRow 15 = .ok (.bipush 10, 2) := by decide +kernel
theorem dX11_checkRow_17 : decode cX11_checkRow 17 = .ok (.irem, 1) := by decide +kernel
theorem dX11_checkRow_18 : decode cX11_checkRow 18 = .ok (.iconst 1, 1) := by decide +kernel
theorem dX11_checkRow_19 : decode cX11_checkRow 19 = .ok (.aload_n 0, 1) := by decide +kernel
theorem dX11_checkRow_20 : decode cX11_checkRow 20 = .ok (.getfield 19, 3) := by decide +kernel
theorem dX11_checkRow_23 : decode cX11_checkRow 23 = .ok (.getfield 186, 3) := by decide +kernel
theorem dX11_checkRow_26 : decode cX11_checkRow 26 = .ok (.invokestatic 112, 3) := by decide +kernel
theorem dX11_checkRow_29 : decode cX11_checkRow 29 = .ok (.iload_n 2, 1) := by decide +kernel
theorem dX11_checkRow_30 : decode cX11_checkRow 30 = .ok (.bipush 10, 2) := by decide +kernel
theorem dX11_checkRow_32 : decode cX11_checkRow 32 = .ok (.idiv, 1) := by decide +kernel
theorem dX11_checkRow_33 : decode cX11_checkRow 33 = .ok (.istore_n 2, 1) := by decide +kernel
theorem dX11_checkRow_34 : decode cX11_checkRow 34 = .ok (.goto (-24), 3) := by decide +kernel
theorem dX11_checkRow_37 : decode cX11_checkRow 37 = .ok (.return_, 1) := by decide +kernel
def J_X11_checkRow_b10 (v2 : Int) (st : z_St) : Option (Int ⊕ (Unit ⊕ (Nat × z_St))) :=
  z_g (z32 v2) (if 0 < v2 then
    z_g (z32 v2 ∧ z32 10 ∧ (10 : Int) ≠ 0) <|
    z_xl (J_X11_checkRange (v2.tmod 10) 1 (st 24 4) st) (fun q9 => some (.inr (.inr q9))) fun _ =>
      z_g (z32 v2 ∧ z32 10 ∧ (10 : Int) ≠ 0) <|
      some (.inl (v2.tdiv 10))
  else
    some (.inr (.inl ())))
set_option maxRecDepth 100000 in
set_option maxHeartbeats 4000000 in
theorem w_X11_checkRow_b10 {κ : zK} {a : Nat → Nat} {v2 : Int} {st : z_St} {mc9 ms9 : Nat} {o : Int ⊕ (Unit ⊕ (Nat × z_St))} (hc : z_C κ RX11 cX11_checkRow 3 9 mc9 ms9) (hap : z_AP κ a z_N) (k1 : ∀ s9 : Int, o = .inl s9 → z_V κ z_T z_N a 0 0 10 [(0, .ref (a 0)), (2, .int (zI s9))] [] st) (k2 : ∀ x9 : (Unit ⊕ (Nat × z_St)), o = .inr x9 → (match x9 with | .inl y9 => z_V κ z_T z_N a 0 0 37 [] [] st | .inr y9 => 1 ≤ mc9 ∧ 6 ≤ ms9 ∧ ∀ (pc9 : Nat) (L9 : List (Nat × Value)), z_VX κ z_T z_N a 1 6 pc9 L9 (z_en y9.1) y9.2)) (h : J_X11_checkRow_b10 v2 st = some o) : z_V κ z_T z_N a 0 0 10 [(0, .ref (a 0)), (2, .int (zI v2))] [] st := by
  unfold J_X11_checkRow_b10 at h
  refine z_iload_n (i := 2) 1 hc dX11_checkRow_10 rfl rfl ?_
  refine z_if_le (tgt := 37) hc dX11_checkRow_11 (by decide) h (fun c11 h => ?_) (fun c11 h => ?_)
  · refine z_iload_n (i := 2) 1 hc dX11_checkRow_14 rfl rfl ?_
    refine z_bipush hc dX11_checkRow_15 rfl ?_
    refine z_irem hc dX11_checkRow_17 h (fun h => ?_)
    refine z_iconst hc dX11_checkRow_18 ?_
    refine z_aload_n (i := 0) 0 hc dX11_checkRow_19 rfl rfl ?_
    refine z_getA (k' := 24) hc fl_RX11_19 tT_0 (by decide) rfl rfl dX11_checkRow_20 ?_
    refine z_getI (kI := 24) (jI := 4) hc fl_RX11_186 tT_24 (by decide) rfl rfl rfl dX11_checkRow_23 ?_
    rcases z_xl_cases h with ⟨u9, hr3, h⟩ | ⟨q9, hr3, h⟩
    · refine z_xcallSV [.int (zI (v2.tmod 10)), .int (zI 1), .int (zI (st 24 4))] hc hap o_X11_checkRange ml_RX11_112 (fun l hl => c_X11_checkRange_r hl  hr3) (by decide) rfl rfl (Nat.le_of_ble_eq_true rfl) (Nat.zero_le _) (Nat.zero_le _) dX11_checkRow_26 ?_
      refine z_iload_n (i := 2) 1 hc dX11_checkRow_29 rfl rfl ?_
      refine z_bipush hc dX11_checkRow_30 rfl ?_
      refine z_idiv hc dX11_checkRow_32 h (fun h => ?_)
      refine z_istore_n (i := 2) [(2, .int (zI (v2.tdiv 10))), (0, .ref (a 0))] hc dX11_checkRow_33 rfl (by decide) rfl ?_
      refine z_goto (tgt := 10) hc dX11_checkRow_34 (by decide) ?_
      refine z_sub [(0, .ref (a 0)), (2, .int (zI (v2.tdiv 10)))] [1, 0] rfl ?_
      exact k1 _ (Option.some.inj h).symm
    · obtain ⟨e9, st9⟩ := q9
      obtain ⟨m1, m2, m3⟩ := k2 (.inr (e9, st9)) (Option.some.inj h).symm
      refine z_xthrS (kd := 2) [.int (zI (v2.tmod 10)), .int (zI 1), .int (zI (st 24 4))] hc hap o_X11_checkRange ml_RX11_112 (fun l hl => c_X11_checkRange_t hl  hr3) (by decide) rfl rfl (Nat.le_of_ble_eq_true rfl) m1 m2 dX11_checkRow_26 (m3 _ _)
  · refine z_sub [] [] rfl ?_
    exact k2 (.inl ()) (Option.some.inj h).symm
def J_X11_checkRow (x1 : Int) (st : z_St) : Option (z_R Unit) :=
  z_x (J_X11_checkRange x1 1 9999 st) fun _ =>
    z_b (z_iter z_F (fun q9 : Int => J_X11_checkRow_b10 q9 st) x1) fun lx5 => match lx5 with
    | .inl y6 =>
      some (.inl ())
    | .inr y7 =>
      some (.inr y7)
set_option maxRecDepth 100000 in
set_option maxHeartbeats 4000000 in
theorem w_X11_checkRow {κ : zK} {a : Nat → Nat} {x1 : Int} {st : z_St} {o : z_R Unit} (hc : z_C κ RX11 cX11_checkRow 3 9 (z_mc (z_cvU st o)) (z_ms (z_cvU st o))) (hap : z_AP κ a z_N) (he : z_EX 2 κ none z_T z_N a (z_cvU st o)) (h : J_X11_checkRow x1 st = some o) : z_V κ z_T z_N a 0 0 0 [(0, .ref (a 0)), (1, .int (zI x1))] [] st := by
  unfold J_X11_checkRow at h
  refine z_iload_n (i := 1) 1 hc dX11_checkRow_0 rfl rfl ?_
  refine z_iconst hc dX11_checkRow_1 ?_
  refine z_sipush hc dX11_checkRow_2 rfl ?_
  rcases z_x_cases h with ⟨u9, hr1, h⟩ | ⟨q9, hr1, h⟩
  · refine z_xcallSV [.int (zI x1), .int (zI 1), .int (zI 9999)] hc hap o_X11_checkRange ml_RX11_112 (fun l hl => c_X11_checkRange_r hl  hr1) (by decide) rfl rfl (Nat.le_of_ble_eq_true rfl) (Nat.zero_le _) (Nat.zero_le _) dX11_checkRow_5 ?_
    refine z_iload_n (i := 1) 1 hc dX11_checkRow_8 rfl rfl ?_
    refine z_istore_n (i := 2) [(2, .int (zI x1)), (0, .ref (a 0)), (1, .int (zI x1))] hc dX11_checkRow_9 rfl (by decide) rfl ?_
    obtain ⟨lx5, hlx5, h⟩ := z_b_some h
    refine z_sub [(0, .ref (a 0)), (2, .int (zI x1))] [1, 0] rfl ?_
    refine z_loop (fun q9 : Int => J_X11_checkRow_b10 q9 st) (fun q9 : Int => z_V κ z_T z_N a 0 0 10 [(0, .ref (a 0)), (2, .int (zI q9))] [] st) (fun x9 : (Unit ⊕ (Nat × z_St)) => (match x9 with | .inl y9 => z_V κ z_T z_N a 0 0 37 [] [] st | .inr y9 => 1 ≤ (z_mc (z_cvU st o)) ∧ 6 ≤ (z_ms (z_cvU st o)) ∧ ∀ (pc9 : Nat) (L9 : List (Nat × Value)), z_VX κ z_T z_N a 1 6 pc9 L9 (z_en y9.1) y9.2)) (fun q9 o9 hb k1 k2 => ?_) _ _ _ hlx5 ?_
    · exact w_X11_checkRow_b10 hc hap k1 k2 hb
    · rcases lx5 with y6 | y7
      · show z_V κ z_T z_N a 0 0 37 [] [] st
        dsimp only at h
        have h := Option.some.inj h
        subst h
        exact z_retXV hc he rfl dX11_checkRow_37
      · obtain ⟨e9, st9⟩ := y7
        have h := Option.some.inj h
        subst h
        exact ⟨Nat.le_refl 1, Nat.le_refl 6, fun _ _ => z_outX hc he rfl⟩
  · obtain ⟨e9, st9⟩ := q9
    subst h
    refine z_xthrS (kd := 2) [.int (zI x1), .int (zI 1), .int (zI 9999)] hc hap o_X11_checkRange ml_RX11_112 (fun l hl => c_X11_checkRange_t hl  hr1) (by decide) rfl rfl (Nat.le_of_ble_eq_true rfl) (Nat.le_refl 1) (Nat.le_refl 6) dX11_checkRow_5 (z_outX hc he rfl)
set_option maxRecDepth 100000 in
set_option maxHeartbeats 4000000 in
theorem c_X11_checkRow {l : Launch} (hl : l.stackTraces = false) {a : Nat → Nat} {x1 : Int} {st : z_St} {o : z_R Unit} (h : J_X11_checkRow x1 st = some o) : z_MX 2 l yX11_checkRow cX11_checkRow 3 none 9 z_T z_N a [.ref (a 0), .int (zI x1)] st (z_cvU st o) := z_ofX hl (by decide +kernel) (Nat.le_of_ble_eq_true rfl) (fun κ hc hap he => w_X11_checkRow hc hap he h)
theorem c_X11_checkRow_r {l : Launch} (hl : l.stackTraces = false) {a : Nat → Nat} {x1 : Int} {st : z_St} {v9 : Unit} (h : J_X11_checkRow x1 st = some (.inl v9)) : z_MX 2 l yX11_checkRow cX11_checkRow 3 none 9 z_T z_N a [.ref (a 0), .int (zI x1)] st (.inl (0, st)) := by
  have h9 := c_X11_checkRow (a := a) (o := .inl v9) hl h
  exact h9
theorem c_X11_checkRow_t {l : Launch} (hl : l.stackTraces = false) {a : Nat → Nat} {x1 : Int} {st : z_St} {e9 : Nat} {st9 : z_St} (h : J_X11_checkRow x1 st = some (.inr (e9, st9))) : z_MX 2 l yX11_checkRow cX11_checkRow 3 none 9 z_T z_N a [.ref (a 0), .int (zI x1)] st (.inr (e9, st9)) := by
  have h9 := c_X11_checkRow (a := a) (o := .inr (e9, st9)) hl h
  exact h9
theorem dX11_learn_0 : decode cX11_learn 0 = .ok (.aload_n 0, 1) := by decide +kernel
theorem dX11_learn_1 : decode cX11_learn 1 = .ok (.iload_n 1, 1) := by decide +kernel
theorem dX11_learn_2 : decode cX11_learn 2 = .ok (.invokevirtual 227, 3) := by decide +kernel
theorem dX11_learn_5 : decode cX11_learn 5 = .ok (.aload_n 0, 1) := by decide +kernel
theorem dX11_learn_6 : decode cX11_learn 6 = .ok (.getfield 68, 3) := by decide +kernel
theorem dX11_learn_9 : decode cX11_learn 9 = .ok (.iload_n 1, 1) := by decide +kernel
theorem dX11_learn_10 : decode cX11_learn 10 = .ok (.invokevirtual 231, 3) := by decide +kernel
theorem dX11_learn_13 : decode cX11_learn 13 = .ok (.iconst 0, 1) := by decide +kernel
theorem dX11_learn_14 : decode cX11_learn 14 = .ok (.istore_n 2, 1) := by decide +kernel
theorem dX11_learn_15 : decode cX11_learn 15 = .ok (.iload_n 2, 1) := by decide +kernel
theorem dX11_learn_16 : decode cX11_learn 16 = .ok (.aload_n 0, 1) := by decide +kernel
theorem dX11_learn_17 : decode cX11_learn 17 = .ok (.getfield 68, 3) := by decide +kernel
theorem dX11_learn_20 : decode cX11_learn 20 = .ok (.getfield 234, 3) := by decide +kernel
theorem dX11_learn_23 : decode cX11_learn 23 = .ok (.if_icmp .gt 34, 3) := by decide +kernel
theorem dX11_learn_26 : decode cX11_learn 26 = .ok (.aload_n 0, 1) := by decide +kernel
theorem dX11_learn_27 : decode cX11_learn 27 = .ok (.getfield 26, 3) := by decide +kernel
theorem dX11_learn_30 : decode cX11_learn 30 = .ok (.aload_n 0, 1) := by decide +kernel
theorem dX11_learn_31 : decode cX11_learn 31 = .ok (.getfield 68, 3) := by decide +kernel
theorem dX11_learn_34 : decode cX11_learn 34 = .ok (.iload_n 2, 1) := by decide +kernel
theorem dX11_learn_35 : decode cX11_learn 35 = .ok (.iconst 1, 1) := by decide +kernel
theorem dX11_learn_36 : decode cX11_learn 36 = .ok (.isub, 1) := by decide +kernel
theorem dX11_learn_37 : decode cX11_learn 37 = .ok (.invokevirtual 235, 3) := by decide +kernel
theorem dX11_learn_40 : decode cX11_learn 40 = .ok (.aload_n 0, 1) := by decide +kernel
theorem dX11_learn_41 : decode cX11_learn 41 = .ok (.getfield 68, 3) := by decide +kernel
theorem dX11_learn_44 : decode cX11_learn 44 = .ok (.iload_n 2, 1) := by decide +kernel
theorem dX11_learn_45 : decode cX11_learn 45 = .ok (.invokevirtual 235, 3) := by decide +kernel
theorem dX11_learn_48 : decode cX11_learn 48 = .ok (.invokevirtual 239, 3) := by decide +kernel
theorem dX11_learn_51 : decode cX11_learn 51 = .ok (.iinc 2 1, 3) := by decide +kernel
theorem dX11_learn_54 : decode cX11_learn 54 = .ok (.goto (-39), 3) := by decide +kernel
theorem dX11_learn_57 : decode cX11_learn 57 = .ok (.aload_n 0, 1) := by decide +kernel
theorem dX11_learn_58 : decode cX11_learn 58 = .ok (.invokevirtual 102, 3) := by decide +kernel
theorem dX11_learn_61 : decode cX11_learn 61 = .ok (.aload_n 0, 1) := by decide +kernel
theorem dX11_learn_62 : decode cX11_learn 62 = .ok (.getfield 26, 3) := by decide +kernel
theorem dX11_learn_65 : decode cX11_learn 65 = .ok (.getfield 242, 3) := by decide +kernel
theorem dX11_learn_68 : decode cX11_learn 68 = .ok (.ireturn, 1) := by decide +kernel
def J_X11_learn_b15 (v2 : Int) (st : z_St) : Option ((Int × z_St) ⊕ z_St) :=
  z_g (z32 v2 ∧ z32 (st 158 1)) (if st 158 1 < v2 then
    some (.inr st)
  else
    z_b (J_X6_wordAt 158 (v2 - 1) st) fun r5 =>
    z_b (J_X6_wordAt 158 v2 st) fun r7 =>
    z_b (J_X2_count r5 r7 st) fun st10 =>
    some (.inl (v2 + 1, st10)))
set_option maxRecDepth 100000 in
set_option maxHeartbeats 4000000 in
theorem w_X11_learn_b15 {κ : zK} {a : Nat → Nat} {v2 : Int} {st : z_St} {mc9 ms9 : Nat} {o : (Int × z_St) ⊕ z_St} (hc : z_C κ RX11 cX11_learn 3 10 mc9 ms9) (hap : z_AP κ a z_N) (k1 : ∀ s9 : (Int × z_St), o = .inl s9 → z_V κ z_T z_N a 0 0 15 [(0, .ref (a 0)), (2, .int (zI s9.1))] [] s9.2) (k2 : ∀ x9 : z_St, o = .inr x9 → z_V κ z_T z_N a 0 0 57 [(0, .ref (a 0))] [] x9) (h : J_X11_learn_b15 v2 st = some o) : z_V κ z_T z_N a 0 0 15 [(0, .ref (a 0)), (2, .int (zI v2))] [] st := by
  unfold J_X11_learn_b15 at h
  refine z_iload_n (i := 2) 1 hc dX11_learn_15 rfl rfl ?_
  refine z_aload_n (i := 0) 0 hc dX11_learn_16 rfl rfl ?_
  refine z_getA (k' := 158) hc fl_RX11_68 tT_0 (by decide) rfl rfl dX11_learn_17 ?_
  refine z_getI (kI := 158) (jI := 1) hc fl_RX11_234 tT_158 (by decide) rfl rfl rfl dX11_learn_20 ?_
  refine z_icmp_gt (tgt := 57) hc dX11_learn_23 (by decide) h (fun c23 h => ?_) (fun c23 h => ?_)
  · refine z_sub [(0, .ref (a 0))] [0] rfl ?_
    exact k2 st (Option.some.inj h).symm
  · refine z_aload_n (i := 0) 0 hc dX11_learn_26 rfl rfl ?_
    refine z_getA (k' := 89) hc fl_RX11_26 tT_0 (by decide) rfl rfl dX11_learn_27 ?_
    refine z_aload_n (i := 0) 0 hc dX11_learn_30 rfl rfl ?_
    refine z_getA (k' := 158) hc fl_RX11_68 tT_0 (by decide) rfl rfl dX11_learn_31 ?_
    refine z_iload_n (i := 2) 1 hc dX11_learn_34 rfl rfl ?_
    refine z_iconst hc dX11_learn_35 ?_
    refine z_isub hc dX11_learn_36 ?_
    obtain ⟨r5, hr5, h⟩ := z_b_some h
    refine z_callVI [.int (zI (v2 - 1))] hc hap o_X6_wordAt ml_RX11_235 (fun l hl => c_X6_wordAt hl (by decide) hr5) (by decide) tT_158 (by decide) ⟨_, rfl, rfl⟩ rfl rfl (Nat.le_of_ble_eq_true rfl) (Nat.zero_le _) (Nat.zero_le _) dX11_learn_37 ?_
    refine z_aload_n (i := 0) 0 hc dX11_learn_40 rfl rfl ?_
    refine z_getA (k' := 158) hc fl_RX11_68 tT_0 (by decide) rfl rfl dX11_learn_41 ?_
    refine z_iload_n (i := 2) 1 hc dX11_learn_44 rfl rfl ?_
    obtain ⟨r7, hr7, h⟩ := z_b_some h
    refine z_callVI [.int (zI v2)] hc hap o_X6_wordAt ml_RX11_235 (fun l hl => c_X6_wordAt hl (by decide) hr7) (by decide) tT_158 (by decide) ⟨_, rfl, rfl⟩ rfl rfl (Nat.le_of_ble_eq_true rfl) (Nat.zero_le _) (Nat.zero_le _) dX11_learn_45 ?_
    obtain ⟨st10, hr9, h⟩ := z_b_some h
    refine z_callVV [.int (zI r5), .int (zI r7)] hc hap o_X2_count ml_RX11_239 (fun l hl => c_X2_count hl  hr9) (by decide) tT_89 (by decide) ⟨_, rfl, rfl⟩ rfl rfl (Nat.le_of_ble_eq_true rfl) (Nat.zero_le _) (Nat.zero_le _) dX11_learn_48 ?_
    refine z_iinc [(2, .int (zI (v2 + 1))), (0, .ref (a 0))] 1 hc dX11_learn_51 rfl (by decide) rfl ?_
    refine z_goto (tgt := 15) hc dX11_learn_54 (by decide) ?_
    refine z_sub [(0, .ref (a 0)), (2, .int (zI (v2 + 1)))] [1, 0] rfl ?_
    exact k1 _ (Option.some.inj h).symm
def J_X11_learn (x1 : Int) (st : z_St) : Option (z_R (Int × z_St)) :=
  z_x (J_X11_checkRow x1 st) fun _ =>
    z_b (J_X6_read 158 x1 st) fun st4 =>
    z_b (z_iter z_F (fun q9 : (Int × z_St) => J_X11_learn_b15 q9.1 q9.2) (0, st4)) fun lx11 =>
      z_b (J_X11_outdate lx11) fun st13 =>
      some (.inl (st13 89 3, st13))
set_option maxRecDepth 100000 in
set_option maxHeartbeats 4000000 in
theorem w_X11_learn {κ : zK} {a : Nat → Nat} {x1 : Int} {st : z_St} {o : z_R (Int × z_St)} (hc : z_C κ RX11 cX11_learn 3 10 (z_mc o) (z_ms o)) (hap : z_AP κ a z_N) (he : z_EX 0 κ (some .int) z_T z_N a o) (h : J_X11_learn x1 st = some o) : z_V κ z_T z_N a 0 0 0 [(0, .ref (a 0)), (1, .int (zI x1))] [] st := by
  unfold J_X11_learn at h
  refine z_aload_n (i := 0) 0 hc dX11_learn_0 rfl rfl ?_
  refine z_iload_n (i := 1) 1 hc dX11_learn_1 rfl rfl ?_
  rcases z_x_cases h with ⟨u9, hr1, h⟩ | ⟨q9, hr1, h⟩
  · refine z_xcallVV [.int (zI x1)] hc hap o_X11_checkRow ml_RX11_227 (fun l hl => c_X11_checkRow_r hl  hr1) (by decide) tT_0 (by decide) ⟨_, rfl, rfl⟩ rfl rfl (Nat.le_of_ble_eq_true rfl) (Nat.zero_le _) (Nat.zero_le _) dX11_learn_2 ?_
    refine z_aload_n (i := 0) 0 hc dX11_learn_5 rfl rfl ?_
    refine z_getA (k' := 158) hc fl_RX11_68 tT_0 (by decide) rfl rfl dX11_learn_6 ?_
    refine z_iload_n (i := 1) 1 hc dX11_learn_9 rfl rfl ?_
    obtain ⟨st4, hr3, h⟩ := z_b_some h
    refine z_callVV [.int (zI x1)] hc hap o_X6_read ml_RX11_231 (fun l hl => c_X6_read hl (by decide) hr3) (by decide) tT_158 (by decide) ⟨_, rfl, rfl⟩ rfl rfl (Nat.le_of_ble_eq_true rfl) (Nat.zero_le _) (Nat.zero_le _) dX11_learn_10 ?_
    refine z_iconst hc dX11_learn_13 ?_
    refine z_istore_n (i := 2) [(2, .int (zI 0)), (0, .ref (a 0)), (1, .int (zI x1))] hc dX11_learn_14 rfl (by decide) rfl ?_
    obtain ⟨lx11, hlx11, h⟩ := z_b_some h
    refine z_sub [(0, .ref (a 0)), (2, .int (zI 0))] [1, 0] rfl ?_
    refine z_loop (fun q9 : (Int × z_St) => J_X11_learn_b15 q9.1 q9.2) (fun q9 : (Int × z_St) => z_V κ z_T z_N a 0 0 15 [(0, .ref (a 0)), (2, .int (zI q9.1))] [] q9.2) (fun x9 : z_St => z_V κ z_T z_N a 0 0 57 [(0, .ref (a 0))] [] x9) (fun q9 o9 hb k1 k2 => ?_) _ _ _ hlx11 ?_
    · exact w_X11_learn_b15 hc hap k1 k2 hb
    · show z_V κ z_T z_N a 0 0 57 [(0, .ref (a 0))] [] lx11
      refine z_aload_n (i := 0) 0 hc dX11_learn_57 rfl rfl ?_
      obtain ⟨st13, hr12, h⟩ := z_b_some h
      refine z_callVV [] hc hap o_X11_outdate ml_RX11_102 (fun l hl => c_X11_outdate hl  hr12) (by decide) tT_0 (by decide) ⟨_, rfl, rfl⟩ rfl rfl (Nat.le_of_ble_eq_true rfl) (Nat.zero_le _) (Nat.zero_le _) dX11_learn_58 ?_
      refine z_aload_n (i := 0) 0 hc dX11_learn_61 rfl rfl ?_
      refine z_getA (k' := 89) hc fl_RX11_26 tT_0 (by decide) rfl rfl dX11_learn_62 ?_
      refine z_getI (kI := 89) (jI := 3) hc fl_RX11_242 tT_89 (by decide) rfl rfl rfl dX11_learn_65 ?_
      have h := Option.some.inj h
      subst h
      exact z_retXI hc he rfl dX11_learn_68
  · obtain ⟨e9, st9⟩ := q9
    subst h
    refine z_xthrV (kd := 2) [.int (zI x1)] hc hap o_X11_checkRow ml_RX11_227 (fun l hl => c_X11_checkRow_t hl  hr1) (by decide) tT_0 (by decide) ⟨_, rfl, rfl⟩ rfl rfl (Nat.le_of_ble_eq_true rfl) (Nat.le_refl 1) (Nat.le_refl 6) dX11_learn_2 (z_outX hc he rfl)
set_option maxRecDepth 100000 in
set_option maxHeartbeats 4000000 in
theorem c_X11_learn {l : Launch} (hl : l.stackTraces = false) {a : Nat → Nat} {x1 : Int} {st : z_St} {o : z_R (Int × z_St)} (h : J_X11_learn x1 st = some o) : z_MX 0 l yX11_learn cX11_learn 3 (some .int) 10 z_T z_N a [.ref (a 0), .int (zI x1)] st o := z_ofX hl (by decide +kernel) (Nat.le_of_ble_eq_true rfl) (fun κ hc hap he => w_X11_learn hc hap he h)
theorem c_X11_learn_r {l : Launch} (hl : l.stackTraces = false) {a : Nat → Nat} {x1 : Int} {st : z_St} {v9 : Int × z_St} (h : J_X11_learn x1 st = some (.inl v9)) : z_MX 0 l yX11_learn cX11_learn 3 (some .int) 10 z_T z_N a [.ref (a 0), .int (zI x1)] st (.inl v9) := by
  have h9 := c_X11_learn (a := a) (o := .inl v9) hl h
  exact h9
theorem c_X11_learn_t {l : Launch} (hl : l.stackTraces = false) {a : Nat → Nat} {x1 : Int} {st : z_St} {e9 : Nat} {st9 : z_St} (h : J_X11_learn x1 st = some (.inr (e9, st9))) : z_MX 0 l yX11_learn cX11_learn 3 (some .int) 10 z_T z_N a [.ref (a 0), .int (zI x1)] st (.inr (e9, st9)) := by
  have h9 := c_X11_learn (a := a) (o := .inr (e9, st9)) hl h
  exact h9
theorem dX11_back_0 : decode cX11_back 0 = .ok (.iload_n 1, 1) := by decide +kernel
theorem dX11_back_1 : decode cX11_back 1 = .ok (.iconst 0, 1) := by decide +kernel
theorem dX11_back_2 : decode cX11_back 2 = .ok (.ldc 245, 2) := by decide +kernel
theorem dX11_back_4 : decode cX11_back 4 = .ok (.invokestatic 112, 3) := by decide +kernel
theorem dX11_back_7 : decode cX11_back 7 = .ok (.aload_n 0, 1) := by decide +kernel
theorem dX11_back_8 : decode cX11_back 8 = .ok (.getfield 26, 3) := by decide +kernel
theorem dX11_back_11 : decode cX11_back 11 = .ok (.getfield 246, 3) := by decide +kernel
theorem dX11_back_14 : decode cX11_back 14 = .ok (.istore_n 2, 1) := by decide +kernel
theorem dX11_back_15 : decode cX11_back 15 = .ok (.aload_n 0, 1) := by decide +kernel
theorem dX11_back_16 : decode cX11_back 16 = .ok (.getfield 26, 3) := by decide +kernel
theorem dX11_back_19 : decode cX11_back 19 = .ok (.iload_n 1, 1) := by decide +kernel
theorem dX11_back_20 : decode cX11_back 20 = .ok (.putfield 246, 3) := by decide +kernel
theorem dX11_back_23 : decode cX11_back 23 = .ok (.aload_n 0, 1) := by decide +kernel
theorem dX11_back_24 : decode cX11_back 24 = .ok (.invokevirtual 102, 3) := by decide +kernel
theorem dX11_back_27 : decode cX11_back 27 = .ok (.iload_n 2, 1) := by decide +kernel
theorem dX11_back_28 : decode cX11_back 28 = .ok (.ireturn, 1) := by decide +kernel
def J_X11_back (x1 : Int) (st : z_St) : Option (z_R (Int × z_St)) :=
  z_x (J_X11_checkRange x1 0 99999 st) fun _ =>
    z_let (z_up st 89 4 x1) fun st3 =>
    z_b (J_X11_outdate st3) fun st5 =>
    some (.inl (st 89 4, st5))
set_option maxRecDepth 100000 in
set_option maxHeartbeats 4000000 in
theorem w_X11_back {κ : zK} {a : Nat → Nat} {x1 : Int} {st : z_St} {o : z_R (Int × z_St)} (hc : z_C κ RX11 cX11_back 3 9 (z_mc o) (z_ms o)) (hap : z_AP κ a z_N) (he : z_EX 0 κ (some .int) z_T z_N a o) (h : J_X11_back x1 st = some o) : z_V κ z_T z_N a 0 0 0 [(0, .ref (a 0)), (1, .int (zI x1))] [] st := by
  unfold J_X11_back at h
  refine z_iload_n (i := 1) 1 hc dX11_back_0 rfl rfl ?_
  refine z_iconst hc dX11_back_1 ?_
  refine z_ldc 99999 hc kc_RX11_245 dX11_back_2 rfl ?_
  rcases z_x_cases h with ⟨u9, hr1, h⟩ | ⟨q9, hr1, h⟩
  · refine z_xcallSV [.int (zI x1), .int (zI 0), .int (zI 99999)] hc hap o_X11_checkRange ml_RX11_112 (fun l hl => c_X11_checkRange_r hl  hr1) (by decide) rfl rfl (Nat.le_of_ble_eq_true rfl) (Nat.zero_le _) (Nat.zero_le _) dX11_back_4 ?_
    refine z_aload_n (i := 0) 0 hc dX11_back_7 rfl rfl ?_
    refine z_getA (k' := 89) hc fl_RX11_26 tT_0 (by decide) rfl rfl dX11_back_8 ?_
    refine z_getI (kI := 89) (jI := 4) hc fl_RX11_246 tT_89 (by decide) rfl rfl rfl dX11_back_11 ?_
    refine z_istore_n (i := 2) [(2, .int (zI (st 89 4))), (0, .ref (a 0)), (1, .int (zI x1))] hc dX11_back_14 rfl (by decide) rfl ?_
    refine z_aload_n (i := 0) 1 hc dX11_back_15 rfl rfl ?_
    refine z_getA (k' := 89) hc fl_RX11_26 tT_0 (by decide) rfl rfl dX11_back_16 ?_
    refine z_iload_n (i := 1) 2 hc dX11_back_19 rfl rfl ?_
    refine z_putI (kI := 89) (jI := 4) hc hap fp_RX11_246 tT_89 (by decide) rfl rfl rfl dX11_back_20 h (fun st3 h => ?_)
    refine z_aload_n (i := 0) 1 hc dX11_back_23 rfl rfl ?_
    obtain ⟨st5, hr4, h⟩ := z_b_some h
    refine z_callVV [] hc hap o_X11_outdate ml_RX11_102 (fun l hl => c_X11_outdate hl  hr4) (by decide) tT_0 (by decide) ⟨_, rfl, rfl⟩ rfl rfl (Nat.le_of_ble_eq_true rfl) (Nat.zero_le _) (Nat.zero_le _) dX11_back_24 ?_
    refine z_iload_n (i := 2) 0 hc dX11_back_27 rfl rfl ?_
    have h := Option.some.inj h
    subst h
    exact z_retXI hc he rfl dX11_back_28
  · obtain ⟨e9, st9⟩ := q9
    subst h
    refine z_xthrS (kd := 2) [.int (zI x1), .int (zI 0), .int (zI 99999)] hc hap o_X11_checkRange ml_RX11_112 (fun l hl => c_X11_checkRange_t hl  hr1) (by decide) rfl rfl (Nat.le_of_ble_eq_true rfl) (Nat.le_refl 1) (Nat.le_refl 6) dX11_back_4 (z_outX hc he rfl)
set_option maxRecDepth 100000 in
set_option maxHeartbeats 4000000 in
theorem c_X11_back {l : Launch} (hl : l.stackTraces = false) {a : Nat → Nat} {x1 : Int} {st : z_St} {o : z_R (Int × z_St)} (h : J_X11_back x1 st = some o) : z_MX 0 l yX11_back cX11_back 3 (some .int) 9 z_T z_N a [.ref (a 0), .int (zI x1)] st o := z_ofX hl (by decide +kernel) (Nat.le_of_ble_eq_true rfl) (fun κ hc hap he => w_X11_back hc hap he h)
theorem c_X11_back_r {l : Launch} (hl : l.stackTraces = false) {a : Nat → Nat} {x1 : Int} {st : z_St} {v9 : Int × z_St} (h : J_X11_back x1 st = some (.inl v9)) : z_MX 0 l yX11_back cX11_back 3 (some .int) 9 z_T z_N a [.ref (a 0), .int (zI x1)] st (.inl v9) := by
  have h9 := c_X11_back (a := a) (o := .inl v9) hl h
  exact h9
theorem c_X11_back_t {l : Launch} (hl : l.stackTraces = false) {a : Nat → Nat} {x1 : Int} {st : z_St} {e9 : Nat} {st9 : z_St} (h : J_X11_back x1 st = some (.inr (e9, st9))) : z_MX 0 l yX11_back cX11_back 3 (some .int) 9 z_T z_N a [.ref (a 0), .int (zI x1)] st (.inr (e9, st9)) := by
  have h9 := c_X11_back (a := a) (o := .inr (e9, st9)) hl h
  exact h9
theorem dX11_factor_0 : decode cX11_factor 0 = .ok (.iload_n 1, 1) := by decide +kernel
theorem dX11_factor_1 : decode cX11_factor 1 = .ok (.iconst 0, 1) := by decide +kernel
theorem dX11_factor_2 : decode cX11_factor 2 = .ok (.bipush 99, 2) := by decide +kernel
theorem dX11_factor_4 : decode cX11_factor 4 = .ok (.invokestatic 112, 3) := by decide +kernel
theorem dX11_factor_7 : decode cX11_factor 7 = .ok (.aload_n 0, 1) := by decide +kernel
theorem dX11_factor_8 : decode cX11_factor 8 = .ok (.getfield 26, 3) := by decide +kernel
theorem dX11_factor_11 : decode cX11_factor 11 = .ok (.getfield 249, 3) := by decide +kernel
theorem dX11_factor_14 : decode cX11_factor 14 = .ok (.istore_n 2, 1) := by decide +kernel
theorem dX11_factor_15 : decode cX11_factor 15 = .ok (.aload_n 0, 1) := by decide +kernel
theorem dX11_factor_16 : decode cX11_factor 16 = .ok (.getfield 26, 3) := by decide +kernel
theorem dX11_factor_19 : decode cX11_factor 19 = .ok (.iload_n 1, 1) := by decide +kernel
theorem dX11_factor_20 : decode cX11_factor 20 = .ok (.putfield 249, 3) := by decide +kernel
theorem dX11_factor_23 : decode cX11_factor 23 = .ok (.aload_n 0, 1) := by decide +kernel
theorem dX11_factor_24 : decode cX11_factor 24 = .ok (.invokevirtual 102, 3) := by decide +kernel
theorem dX11_factor_27 : decode cX11_factor 27 = .ok (.iload_n 2, 1) := by decide +kernel
theorem dX11_factor_28 : decode cX11_factor 28 = .ok (.ireturn, 1) := by decide +kernel
def J_X11_factor (x1 : Int) (st : z_St) : Option (z_R (Int × z_St)) :=
  z_x (J_X11_checkRange x1 0 99 st) fun _ =>
    z_let (z_up st 89 5 x1) fun st3 =>
    z_b (J_X11_outdate st3) fun st5 =>
    some (.inl (st 89 5, st5))
set_option maxRecDepth 100000 in
set_option maxHeartbeats 4000000 in
theorem w_X11_factor {κ : zK} {a : Nat → Nat} {x1 : Int} {st : z_St} {o : z_R (Int × z_St)} (hc : z_C κ RX11 cX11_factor 3 9 (z_mc o) (z_ms o)) (hap : z_AP κ a z_N) (he : z_EX 0 κ (some .int) z_T z_N a o) (h : J_X11_factor x1 st = some o) : z_V κ z_T z_N a 0 0 0 [(0, .ref (a 0)), (1, .int (zI x1))] [] st := by
  unfold J_X11_factor at h
  refine z_iload_n (i := 1) 1 hc dX11_factor_0 rfl rfl ?_
  refine z_iconst hc dX11_factor_1 ?_
  refine z_bipush hc dX11_factor_2 rfl ?_
  rcases z_x_cases h with ⟨u9, hr1, h⟩ | ⟨q9, hr1, h⟩
  · refine z_xcallSV [.int (zI x1), .int (zI 0), .int (zI 99)] hc hap o_X11_checkRange ml_RX11_112 (fun l hl => c_X11_checkRange_r hl  hr1) (by decide) rfl rfl (Nat.le_of_ble_eq_true rfl) (Nat.zero_le _) (Nat.zero_le _) dX11_factor_4 ?_
    refine z_aload_n (i := 0) 0 hc dX11_factor_7 rfl rfl ?_
    refine z_getA (k' := 89) hc fl_RX11_26 tT_0 (by decide) rfl rfl dX11_factor_8 ?_
    refine z_getI (kI := 89) (jI := 5) hc fl_RX11_249 tT_89 (by decide) rfl rfl rfl dX11_factor_11 ?_
    refine z_istore_n (i := 2) [(2, .int (zI (st 89 5))), (0, .ref (a 0)), (1, .int (zI x1))] hc dX11_factor_14 rfl (by decide) rfl ?_
    refine z_aload_n (i := 0) 1 hc dX11_factor_15 rfl rfl ?_
    refine z_getA (k' := 89) hc fl_RX11_26 tT_0 (by decide) rfl rfl dX11_factor_16 ?_
    refine z_iload_n (i := 1) 2 hc dX11_factor_19 rfl rfl ?_
    refine z_putI (kI := 89) (jI := 5) hc hap fp_RX11_249 tT_89 (by decide) rfl rfl rfl dX11_factor_20 h (fun st3 h => ?_)
    refine z_aload_n (i := 0) 1 hc dX11_factor_23 rfl rfl ?_
    obtain ⟨st5, hr4, h⟩ := z_b_some h
    refine z_callVV [] hc hap o_X11_outdate ml_RX11_102 (fun l hl => c_X11_outdate hl  hr4) (by decide) tT_0 (by decide) ⟨_, rfl, rfl⟩ rfl rfl (Nat.le_of_ble_eq_true rfl) (Nat.zero_le _) (Nat.zero_le _) dX11_factor_24 ?_
    refine z_iload_n (i := 2) 0 hc dX11_factor_27 rfl rfl ?_
    have h := Option.some.inj h
    subst h
    exact z_retXI hc he rfl dX11_factor_28
  · obtain ⟨e9, st9⟩ := q9
    subst h
    refine z_xthrS (kd := 2) [.int (zI x1), .int (zI 0), .int (zI 99)] hc hap o_X11_checkRange ml_RX11_112 (fun l hl => c_X11_checkRange_t hl  hr1) (by decide) rfl rfl (Nat.le_of_ble_eq_true rfl) (Nat.le_refl 1) (Nat.le_refl 6) dX11_factor_4 (z_outX hc he rfl)
set_option maxRecDepth 100000 in
set_option maxHeartbeats 4000000 in
theorem c_X11_factor {l : Launch} (hl : l.stackTraces = false) {a : Nat → Nat} {x1 : Int} {st : z_St} {o : z_R (Int × z_St)} (h : J_X11_factor x1 st = some o) : z_MX 0 l yX11_factor cX11_factor 3 (some .int) 9 z_T z_N a [.ref (a 0), .int (zI x1)] st o := z_ofX hl (by decide +kernel) (Nat.le_of_ble_eq_true rfl) (fun κ hc hap he => w_X11_factor hc hap he h)
theorem c_X11_factor_r {l : Launch} (hl : l.stackTraces = false) {a : Nat → Nat} {x1 : Int} {st : z_St} {v9 : Int × z_St} (h : J_X11_factor x1 st = some (.inl v9)) : z_MX 0 l yX11_factor cX11_factor 3 (some .int) 9 z_T z_N a [.ref (a 0), .int (zI x1)] st (.inl v9) := by
  have h9 := c_X11_factor (a := a) (o := .inl v9) hl h
  exact h9
theorem c_X11_factor_t {l : Launch} (hl : l.stackTraces = false) {a : Nat → Nat} {x1 : Int} {st : z_St} {e9 : Nat} {st9 : z_St} (h : J_X11_factor x1 st = some (.inr (e9, st9))) : z_MX 0 l yX11_factor cX11_factor 3 (some .int) 9 z_T z_N a [.ref (a 0), .int (zI x1)] st (.inr (e9, st9)) := by
  have h9 := c_X11_factor (a := a) (o := .inr (e9, st9)) hl h
  exact h9
theorem dX11_checkWordOrNone_0 : decode cX11_checkWordOrNone 0 = .ok (.iload_n 1, 1) := by decide +kernel
theorem dX11_checkWordOrNone_1 : decode cX11_checkWordOrNone 1 = .ok (.iconst (-1), 1) := by decide +kernel
theorem dX11_checkWordOrNone_2 : decode cX11_checkWordOrNone 2 = .ok (.if_icmp .eq 14, 3) := by decide +kernel
theorem dX11_checkWordOrNone_5 : decode cX11_checkWordOrNone 5 = .ok (.iload_n 1, 1) := by decide +kernel
theorem dX11_checkWordOrNone_6 : decode cX11_checkWordOrNone 6 = .ok (.aload_n 0, 1) := by decide +kernel
theorem dX11_checkWordOrNone_7 : decode cX11_checkWordOrNone 7 = .ok (.getfield 19, 3) := by decide +kernel
theorem dX11_checkWordOrNone_10 : decode cX11_checkWordOrNone 10 = .ok (.getfield 186, 3) := by decide +kernel
theorem dX11_checkWordOrNone_13 : decode cX11_checkWordOrNone 13 = .ok (.invokestatic 105, 3) := by decide +kernel
theorem dX11_checkWordOrNone_16 : decode cX11_checkWordOrNone 16 = .ok (.return_, 1) := by decide +kernel
def J_X11_checkWordOrNone_16 (st : z_St) : Option (z_R Unit) :=
  some (.inl ())
set_option maxRecDepth 100000 in
set_option maxHeartbeats 4000000 in
theorem w_X11_checkWordOrNone_16 {κ : zK} {a : Nat → Nat} {st : z_St} {o : z_R Unit} (hc : z_C κ RX11 cX11_checkWordOrNone 2 9 (z_mc (z_cvU st o)) (z_ms (z_cvU st o))) (hap : z_AP κ a z_N) (he : z_EX 2 κ none z_T z_N a (z_cvU st o)) (h : J_X11_checkWordOrNone_16 st = some o) : z_V κ z_T z_N a 0 0 16 [] [] st := by
  unfold J_X11_checkWordOrNone_16 at h
  have h := Option.some.inj h
  subst h
  exact z_retXV hc he rfl dX11_checkWordOrNone_16
def J_X11_checkWordOrNone (x1 : Int) (st : z_St) : Option (z_R Unit) :=
  z_g (z32 x1 ∧ z32 (-1)) (if x1 = (-1) then
    J_X11_checkWordOrNone_16 st
  else
    z_x (J_X11_checkIndex x1 (st 24 4) st) fun _ =>
      J_X11_checkWordOrNone_16 st)
set_option maxRecDepth 100000 in
set_option maxHeartbeats 4000000 in
theorem w_X11_checkWordOrNone {κ : zK} {a : Nat → Nat} {x1 : Int} {st : z_St} {o : z_R Unit} (hc : z_C κ RX11 cX11_checkWordOrNone 2 9 (z_mc (z_cvU st o)) (z_ms (z_cvU st o))) (hap : z_AP κ a z_N) (he : z_EX 2 κ none z_T z_N a (z_cvU st o)) (h : J_X11_checkWordOrNone x1 st = some o) : z_V κ z_T z_N a 0 0 0 [(0, .ref (a 0)), (1, .int (zI x1))] [] st := by
  unfold J_X11_checkWordOrNone at h
  refine z_iload_n (i := 1) 1 hc dX11_checkWordOrNone_0 rfl rfl ?_
  refine z_iconst hc dX11_checkWordOrNone_1 ?_
  refine z_icmp_eq (tgt := 16) hc dX11_checkWordOrNone_2 (by decide) h (fun c2 h => ?_) (fun c2 h => ?_)
  · refine z_sub [] [] rfl ?_
    exact w_X11_checkWordOrNone_16 hc hap he h
  · refine z_iload_n (i := 1) 1 hc dX11_checkWordOrNone_5 rfl rfl ?_
    refine z_aload_n (i := 0) 0 hc dX11_checkWordOrNone_6 rfl rfl ?_
    refine z_getA (k' := 24) hc fl_RX11_19 tT_0 (by decide) rfl rfl dX11_checkWordOrNone_7 ?_
    refine z_getI (kI := 24) (jI := 4) hc fl_RX11_186 tT_24 (by decide) rfl rfl rfl dX11_checkWordOrNone_10 ?_
    rcases z_x_cases h with ⟨u9, hr1, h⟩ | ⟨q9, hr1, h⟩
    · refine z_xcallSV [.int (zI x1), .int (zI (st 24 4))] hc hap o_X11_checkIndex ml_RX11_105 (fun l hl => c_X11_checkIndex_r hl  hr1) (by decide) rfl rfl (Nat.le_of_ble_eq_true rfl) (Nat.zero_le _) (Nat.zero_le _) dX11_checkWordOrNone_13 ?_
      refine z_sub [] [] rfl ?_
      exact w_X11_checkWordOrNone_16 hc hap he h
    · obtain ⟨e9, st9⟩ := q9
      subst h
      refine z_xthrS (kd := 2) [.int (zI x1), .int (zI (st 24 4))] hc hap o_X11_checkIndex ml_RX11_105 (fun l hl => c_X11_checkIndex_t hl  hr1) (by decide) rfl rfl (Nat.le_of_ble_eq_true rfl) (Nat.le_refl 1) (Nat.le_refl 6) dX11_checkWordOrNone_13 (z_outX hc he rfl)
set_option maxRecDepth 100000 in
set_option maxHeartbeats 4000000 in
theorem c_X11_checkWordOrNone {l : Launch} (hl : l.stackTraces = false) {a : Nat → Nat} {x1 : Int} {st : z_St} {o : z_R Unit} (h : J_X11_checkWordOrNone x1 st = some o) : z_MX 2 l yX11_checkWordOrNone cX11_checkWordOrNone 2 none 9 z_T z_N a [.ref (a 0), .int (zI x1)] st (z_cvU st o) := z_ofX hl (by decide +kernel) (Nat.le_of_ble_eq_true rfl) (fun κ hc hap he => w_X11_checkWordOrNone hc hap he h)
theorem c_X11_checkWordOrNone_r {l : Launch} (hl : l.stackTraces = false) {a : Nat → Nat} {x1 : Int} {st : z_St} {v9 : Unit} (h : J_X11_checkWordOrNone x1 st = some (.inl v9)) : z_MX 2 l yX11_checkWordOrNone cX11_checkWordOrNone 2 none 9 z_T z_N a [.ref (a 0), .int (zI x1)] st (.inl (0, st)) := by
  have h9 := c_X11_checkWordOrNone (a := a) (o := .inl v9) hl h
  exact h9
theorem c_X11_checkWordOrNone_t {l : Launch} (hl : l.stackTraces = false) {a : Nat → Nat} {x1 : Int} {st : z_St} {e9 : Nat} {st9 : z_St} (h : J_X11_checkWordOrNone x1 st = some (.inr (e9, st9))) : z_MX 2 l yX11_checkWordOrNone cX11_checkWordOrNone 2 none 9 z_T z_N a [.ref (a 0), .int (zI x1)] st (.inr (e9, st9)) := by
  have h9 := c_X11_checkWordOrNone (a := a) (o := .inr (e9, st9)) hl h
  exact h9
theorem dX11_price_0 : decode cX11_price 0 = .ok (.aload_n 0, 1) := by decide +kernel
theorem dX11_price_1 : decode cX11_price 1 = .ok (.iload_n 1, 1) := by decide +kernel
theorem dX11_price_2 : decode cX11_price 2 = .ok (.invokevirtual 252, 3) := by decide +kernel
theorem dX11_price_5 : decode cX11_price 5 = .ok (.aload_n 0, 1) := by decide +kernel
theorem dX11_price_6 : decode cX11_price 6 = .ok (.iload_n 2, 1) := by decide +kernel
theorem dX11_price_7 : decode cX11_price 7 = .ok (.invokevirtual 252, 3) := by decide +kernel
theorem dX11_price_10 : decode cX11_price 10 = .ok (.aload_n 0, 1) := by decide +kernel
theorem dX11_price_11 : decode cX11_price 11 = .ok (.getfield 26, 3) := by decide +kernel
theorem dX11_price_14 : decode cX11_price 14 = .ok (.iload_n 1, 1) := by decide +kernel
theorem dX11_price_15 : decode cX11_price 15 = .ok (.iload_n 2, 1) := by decide +kernel
theorem dX11_price_16 : decode cX11_price 16 = .ok (.invokevirtual 255, 3) := by decide +kernel
theorem dX11_price_19 : decode cX11_price 19 = .ok (.lreturn, 1) := by decide +kernel
def J_X11_price (x1 x2 : Int) (st : z_St) : Option (z_R Int) :=
  z_x (J_X11_checkWordOrNone x1 st) fun _ =>
    z_x (J_X11_checkWordOrNone x2 st) fun _ =>
      z_b (J_X2_priceOf x1 x2 st) fun r5 =>
      some (.inl r5)
set_option maxRecDepth 100000 in
set_option maxHeartbeats 4000000 in
theorem w_X11_price {κ : zK} {a : Nat → Nat} {x1 x2 : Int} {st : z_St} {o : z_R Int} (hc : z_C κ RX11 cX11_price 3 10 (z_mc (z_cvR st o)) (z_ms (z_cvR st o))) (hap : z_AP κ a z_N) (he : z_EX 1 κ (some .long) z_T z_N a (z_cvR st o)) (h : J_X11_price x1 x2 st = some o) : z_V κ z_T z_N a 0 0 0 [(0, .ref (a 0)), (1, .int (zI x1)), (2, .int (zI x2))] [] st := by
  unfold J_X11_price at h
  refine z_aload_n (i := 0) 0 hc dX11_price_0 rfl rfl ?_
  refine z_iload_n (i := 1) 1 hc dX11_price_1 rfl rfl ?_
  rcases z_x_cases h with ⟨u9, hr1, h⟩ | ⟨q9, hr1, h⟩
  · refine z_xcallVV [.int (zI x1)] hc hap o_X11_checkWordOrNone ml_RX11_252 (fun l hl => c_X11_checkWordOrNone_r hl  hr1) (by decide) tT_0 (by decide) ⟨_, rfl, rfl⟩ rfl rfl (Nat.le_of_ble_eq_true rfl) (Nat.zero_le _) (Nat.zero_le _) dX11_price_2 ?_
    refine z_aload_n (i := 0) 0 hc dX11_price_5 rfl rfl ?_
    refine z_iload_n (i := 2) 2 hc dX11_price_6 rfl rfl ?_
    rcases z_x_cases h with ⟨u9, hr3, h⟩ | ⟨q9, hr3, h⟩
    · refine z_xcallVV [.int (zI x2)] hc hap o_X11_checkWordOrNone ml_RX11_252 (fun l hl => c_X11_checkWordOrNone_r hl  hr3) (by decide) tT_0 (by decide) ⟨_, rfl, rfl⟩ rfl rfl (Nat.le_of_ble_eq_true rfl) (Nat.zero_le _) (Nat.zero_le _) dX11_price_7 ?_
      refine z_aload_n (i := 0) 0 hc dX11_price_10 rfl rfl ?_
      refine z_getA (k' := 89) hc fl_RX11_26 tT_0 (by decide) rfl rfl dX11_price_11 ?_
      refine z_iload_n (i := 1) 1 hc dX11_price_14 rfl rfl ?_
      refine z_iload_n (i := 2) 2 hc dX11_price_15 rfl rfl ?_
      obtain ⟨r5, hr5, h⟩ := z_b_some h
      refine z_callVJ [.int (zI x1), .int (zI x2)] hc hap o_X2_priceOf ml_RX11_255 (fun l hl => c_X2_priceOf hl  hr5) (by decide) tT_89 (by decide) ⟨_, rfl, rfl⟩ rfl rfl (Nat.le_of_ble_eq_true rfl) (Nat.zero_le _) (Nat.zero_le _) dX11_price_16 ?_
      have h := Option.some.inj h
      subst h
      exact z_retXJ hc he rfl dX11_price_19
    · obtain ⟨e9, st9⟩ := q9
      subst h
      refine z_xthrV (kd := 2) [.int (zI x2)] hc hap o_X11_checkWordOrNone ml_RX11_252 (fun l hl => c_X11_checkWordOrNone_t hl  hr3) (by decide) tT_0 (by decide) ⟨_, rfl, rfl⟩ rfl rfl (Nat.le_of_ble_eq_true rfl) (Nat.le_refl 1) (Nat.le_refl 6) dX11_price_7 (z_outX hc he rfl)
  · obtain ⟨e9, st9⟩ := q9
    subst h
    refine z_xthrV (kd := 2) [.int (zI x1)] hc hap o_X11_checkWordOrNone ml_RX11_252 (fun l hl => c_X11_checkWordOrNone_t hl  hr1) (by decide) tT_0 (by decide) ⟨_, rfl, rfl⟩ rfl rfl (Nat.le_of_ble_eq_true rfl) (Nat.le_refl 1) (Nat.le_refl 6) dX11_price_2 (z_outX hc he rfl)
set_option maxRecDepth 100000 in
set_option maxHeartbeats 4000000 in
theorem c_X11_price {l : Launch} (hl : l.stackTraces = false) {a : Nat → Nat} {x1 x2 : Int} {st : z_St} {o : z_R Int} (h : J_X11_price x1 x2 st = some o) : z_MX 1 l yX11_price cX11_price 3 (some .long) 10 z_T z_N a [.ref (a 0), .int (zI x1), .int (zI x2)] st (z_cvR st o) := z_ofX hl (by decide +kernel) (Nat.le_of_ble_eq_true rfl) (fun κ hc hap he => w_X11_price hc hap he h)
theorem c_X11_price_r {l : Launch} (hl : l.stackTraces = false) {a : Nat → Nat} {x1 x2 : Int} {st : z_St} {v9 : Int} (h : J_X11_price x1 x2 st = some (.inl v9)) : z_MX 1 l yX11_price cX11_price 3 (some .long) 10 z_T z_N a [.ref (a 0), .int (zI x1), .int (zI x2)] st (.inl (v9, st)) := by
  have h9 := c_X11_price (a := a) (o := .inl v9) hl h
  exact h9
theorem c_X11_price_t {l : Launch} (hl : l.stackTraces = false) {a : Nat → Nat} {x1 x2 : Int} {st : z_St} {e9 : Nat} {st9 : z_St} (h : J_X11_price x1 x2 st = some (.inr (e9, st9))) : z_MX 1 l yX11_price cX11_price 3 (some .long) 10 z_T z_N a [.ref (a 0), .int (zI x1), .int (zI x2)] st (.inr (e9, st9)) := by
  have h9 := c_X11_price (a := a) (o := .inr (e9, st9)) hl h
  exact h9
theorem dX11_weight_0 : decode cX11_weight 0 = .ok (.aload_n 0, 1) := by decide +kernel
theorem dX11_weight_1 : decode cX11_weight 1 = .ok (.iload_n 1, 1) := by decide +kernel
theorem dX11_weight_2 : decode cX11_weight 2 = .ok (.invokevirtual 227, 3) := by decide +kernel
theorem dX11_weight_5 : decode cX11_weight 5 = .ok (.aload_n 0, 1) := by decide +kernel
theorem dX11_weight_6 : decode cX11_weight 6 = .ok (.invokevirtual 141, 3) := by decide +kernel
theorem dX11_weight_9 : decode cX11_weight 9 = .ok (.aload_n 0, 1) := by decide +kernel
theorem dX11_weight_10 : decode cX11_weight 10 = .ok (.getfield 40, 3) := by decide +kernel
theorem dX11_weight_13 : decode cX11_weight 13 = .ok (.iload_n 1, 1) := by decide +kernel
theorem dX11_weight_14 : decode cX11_weight 14 = .ok (.invokevirtual 259, 3) := by decide +kernel
theorem dX11_weight_17 : decode cX11_weight 17 = .ok (.invokestatic 223, 3) := by decide +kernel
theorem dX11_weight_20 : decode cX11_weight 20 = .ok (.lreturn, 1) := by decide +kernel
def J_X11_weight (x1 : Int) (st : z_St) : Option (z_R (Int × z_St)) :=
  z_x (J_X11_checkRow x1 st) fun _ =>
    z_b (J_X11_readyRows st) fun st4 =>
    z_b (J_X5_weightOf x1 st4) fun r5 =>
    z_b (J_X11_orNone r5 st4) fun r7 =>
    some (.inl (r7, st4))
set_option maxRecDepth 100000 in
set_option maxHeartbeats 4000000 in
theorem w_X11_weight {κ : zK} {a : Nat → Nat} {x1 : Int} {st : z_St} {o : z_R (Int × z_St)} (hc : z_C κ RX11 cX11_weight 2 13 (z_mc o) (z_ms o)) (hap : z_AP κ a z_N) (he : z_EX 1 κ (some .long) z_T z_N a o) (h : J_X11_weight x1 st = some o) : z_V κ z_T z_N a 0 0 0 [(0, .ref (a 0)), (1, .int (zI x1))] [] st := by
  unfold J_X11_weight at h
  refine z_aload_n (i := 0) 0 hc dX11_weight_0 rfl rfl ?_
  refine z_iload_n (i := 1) 1 hc dX11_weight_1 rfl rfl ?_
  rcases z_x_cases h with ⟨u9, hr1, h⟩ | ⟨q9, hr1, h⟩
  · refine z_xcallVV [.int (zI x1)] hc hap o_X11_checkRow ml_RX11_227 (fun l hl => c_X11_checkRow_r hl  hr1) (by decide) tT_0 (by decide) ⟨_, rfl, rfl⟩ rfl rfl (Nat.le_of_ble_eq_true rfl) (Nat.zero_le _) (Nat.zero_le _) dX11_weight_2 ?_
    refine z_aload_n (i := 0) 0 hc dX11_weight_5 rfl rfl ?_
    obtain ⟨st4, hr3, h⟩ := z_b_some h
    refine z_callVV [] hc hap o_X11_readyRows ml_RX11_141 (fun l hl => c_X11_readyRows hl  hr3) (by decide) tT_0 (by decide) ⟨_, rfl, rfl⟩ rfl rfl (Nat.le_of_ble_eq_true rfl) (Nat.zero_le _) (Nat.zero_le _) dX11_weight_6 ?_
    refine z_aload_n (i := 0) 0 hc dX11_weight_9 rfl rfl ?_
    refine z_getA (k' := 134) hc fl_RX11_40 tT_0 (by decide) rfl rfl dX11_weight_10 ?_
    refine z_iload_n (i := 1) 1 hc dX11_weight_13 rfl rfl ?_
    obtain ⟨r5, hr5, h⟩ := z_b_some h
    refine z_callVJ [.int (zI x1)] hc hap o_X5_weightOf ml_RX11_259 (fun l hl => c_X5_weightOf hl  hr5) (by decide) tT_134 (by decide) ⟨_, rfl, rfl⟩ rfl rfl (Nat.le_of_ble_eq_true rfl) (Nat.zero_le _) (Nat.zero_le _) dX11_weight_14 ?_
    obtain ⟨r7, hr7, h⟩ := z_b_some h
    refine z_callSJ [.long (zJ r5)] hc hap o_X11_orNone ml_RX11_223 (fun l hl => c_X11_orNone hl  hr7) (by decide) rfl rfl (Nat.le_of_ble_eq_true rfl) (Nat.zero_le _) (Nat.zero_le _) dX11_weight_17 ?_
    have h := Option.some.inj h
    subst h
    exact z_retXJ hc he rfl dX11_weight_20
  · obtain ⟨e9, st9⟩ := q9
    subst h
    refine z_xthrV (kd := 2) [.int (zI x1)] hc hap o_X11_checkRow ml_RX11_227 (fun l hl => c_X11_checkRow_t hl  hr1) (by decide) tT_0 (by decide) ⟨_, rfl, rfl⟩ rfl rfl (Nat.le_of_ble_eq_true rfl) (Nat.le_refl 1) (Nat.le_refl 6) dX11_weight_2 (z_outX hc he rfl)
set_option maxRecDepth 100000 in
set_option maxHeartbeats 4000000 in
theorem c_X11_weight {l : Launch} (hl : l.stackTraces = false) {a : Nat → Nat} {x1 : Int} {st : z_St} {o : z_R (Int × z_St)} (h : J_X11_weight x1 st = some o) : z_MX 1 l yX11_weight cX11_weight 2 (some .long) 13 z_T z_N a [.ref (a 0), .int (zI x1)] st o := z_ofX hl (by decide +kernel) (Nat.le_of_ble_eq_true rfl) (fun κ hc hap he => w_X11_weight hc hap he h)
theorem c_X11_weight_r {l : Launch} (hl : l.stackTraces = false) {a : Nat → Nat} {x1 : Int} {st : z_St} {v9 : Int × z_St} (h : J_X11_weight x1 st = some (.inl v9)) : z_MX 1 l yX11_weight cX11_weight 2 (some .long) 13 z_T z_N a [.ref (a 0), .int (zI x1)] st (.inl v9) := by
  have h9 := c_X11_weight (a := a) (o := .inl v9) hl h
  exact h9
theorem c_X11_weight_t {l : Launch} (hl : l.stackTraces = false) {a : Nat → Nat} {x1 : Int} {st : z_St} {e9 : Nat} {st9 : z_St} (h : J_X11_weight x1 st = some (.inr (e9, st9))) : z_MX 1 l yX11_weight cX11_weight 2 (some .long) 13 z_T z_N a [.ref (a 0), .int (zI x1)] st (.inr (e9, st9)) := by
  have h9 := c_X11_weight (a := a) (o := .inr (e9, st9)) hl h
  exact h9
theorem dX11_trySounds_0 : decode cX11_trySounds 0 = .ok (.iload_n 2, 1) := by decide +kernel
theorem dX11_trySounds_1 : decode cX11_trySounds 1 = .ok (.aload_n 0, 1) := by decide +kernel
theorem dX11_trySounds_2 : decode cX11_trySounds 2 = .ok (.getfield 203, 3) := by decide +kernel
theorem dX11_trySounds_5 : decode cX11_trySounds 5 = .ok (.if_icmp .lt 17, 3) := by decide +kernel
theorem dX11_trySounds_8 : decode cX11_trySounds 8 = .ok (.iload_n 3, 1) := by decide +kernel
theorem dX11_trySounds_9 : decode cX11_trySounds 9 = .ok (.iload 4, 2) := by decide +kernel
theorem dX11_trySounds_11 : decode cX11_trySounds 11 = .ok (.if_icmp .ne 7, 3) := by decide +kernel
theorem dX11_trySounds_14 : decode cX11_trySounds 14 = .ok (.lconst 0, 1) := by decide +kernel
theorem dX11_trySounds_15 : decode cX11_trySounds 15 = .ok (.goto 6, 3) := by decide +kernel
theorem dX11_trySounds_18 : decode cX11_trySounds 18 = .ok (.ldc2_w 351, 3) := by decide +kernel
theorem dX11_trySounds_21 : decode cX11_trySounds 21 = .ok (.lreturn, 1) := by decide +kernel
theorem dX11_trySounds_22 : decode cX11_trySounds 22 = .ok (.aload_n 1, 1) := by decide +kernel
theorem dX11_trySounds_23 : decode cX11_trySounds 23 = .ok (.getfield 378, 3) := by decide +kernel
theorem dX11_trySounds_26 : decode cX11_trySounds 26 = .ok (.aload_n 0, 1) := by decide +kernel
theorem dX11_trySounds_27 : decode cX11_trySounds 27 = .ok (.getfield 382, 3) := by decide +kernel
theorem dX11_trySounds_30 : decode cX11_trySounds 30 = .ok (.iload_n 2, 1) := by decide +kernel
theorem dX11_trySounds_31 : decode cX11_trySounds 31 = .ok (.iaload, 1) := by decide +kernel
theorem dX11_trySounds_32 : decode cX11_trySounds 32 = .ok (.aaload, 1) := by decide +kernel
theorem dX11_trySounds_33 : decode cX11_trySounds 33 = .ok (.astore 5, 2) := by decide +kernel
theorem dX11_trySounds_35 : decode cX11_trySounds 35 = .ok (.ldc2_w 351, 3) := by decide +kernel
theorem dX11_trySounds_38 : decode cX11_trySounds 38 = .ok (.lstore 6, 2) := by decide +kernel
theorem dX11_trySounds_40 : decode cX11_trySounds 40 = .ok (.lconst 0, 1) := by decide +kernel
theorem dX11_trySounds_41 : decode cX11_trySounds 41 = .ok (.lstore 8, 2) := by decide +kernel
theorem dX11_trySounds_43 : decode cX11_trySounds 43 = .ok (.iload_n 3, 1) := by decide +kernel
theorem dX11_trySounds_44 : decode cX11_trySounds 44 = .ok (.iconst 1, 1) := by decide +kernel
theorem dX11_trySounds_45 : decode cX11_trySounds 45 = .ok (.iadd, 1) := by decide +kernel
theorem dX11_trySounds_46 : decode cX11_trySounds 46 = .ok (.istore 10, 2) := by decide +kernel
theorem dX11_trySounds_48 : decode cX11_trySounds 48 = .ok (.iload 10, 2) := by decide +kernel
theorem dX11_trySounds_50 : decode cX11_trySounds 50 = .ok (.iload 4, 2) := by decide +kernel
theorem dX11_trySounds_52 : decode cX11_trySounds 52 = .ok (.if_icmp .gt 43, 3) := by decide +kernel
theorem dX11_trySounds_55 : decode cX11_trySounds 55 = .ok (.lload 8, 2) := by decide +kernel
theorem dX11_trySounds_57 : decode cX11_trySounds 57 = .ok (.aload 5, 2) := by decide +kernel
theorem dX11_trySounds_59 : decode cX11_trySounds 59 = .ok (.iload 10, 2) := by decide +kernel
theorem dX11_trySounds_61 : decode cX11_trySounds 61 = .ok (.iconst 1, 1) := by decide +kernel
theorem dX11_trySounds_62 : decode cX11_trySounds 62 = .ok (.isub, 1) := by decide +kernel
theorem dX11_trySounds_63 : decode cX11_trySounds 63 = .ok (.laload, 1) := by decide +kernel
theorem dX11_trySounds_64 : decode cX11_trySounds 64 = .ok (.ladd, 1) := by decide +kernel
theorem dX11_trySounds_65 : decode cX11_trySounds 65 = .ok (.lstore 8, 2) := by decide +kernel
theorem dX11_trySounds_67 : decode cX11_trySounds 67 = .ok (.lload 6, 2) := by decide +kernel
theorem dX11_trySounds_69 : decode cX11_trySounds 69 = .ok (.lload 8, 2) := by decide +kernel
theorem dX11_trySounds_71 : decode cX11_trySounds 71 = .ok (.aload_n 0, 1) := by decide +kernel
theorem dX11_trySounds_72 : decode cX11_trySounds 72 = .ok (.aload_n 1, 1) := by decide +kernel
theorem dX11_trySounds_73 : decode cX11_trySounds 73 = .ok (.iload_n 2, 1) := by decide +kernel
theorem dX11_trySounds_74 : decode cX11_trySounds 74 = .ok (.iconst 1, 1) := by decide +kernel
theorem dX11_trySounds_75 : decode cX11_trySounds 75 = .ok (.iadd, 1) := by decide +kernel
theorem dX11_trySounds_76 : decode cX11_trySounds 76 = .ok (.iload 10, 2) := by decide +kernel
theorem dX11_trySounds_78 : decode cX11_trySounds 78 = .ok (.iload 4, 2) := by decide +kernel
theorem dX11_trySounds_80 : decode cX11_trySounds 80 = .ok (.invokestatic 374, 3) := by decide +kernel
theorem dX11_trySounds_83 : decode cX11_trySounds 83 = .ok (.ladd, 1) := by decide +kernel
theorem dX11_trySounds_84 : decode cX11_trySounds 84 = .ok (.invokestatic 132, 3) := by decide +kernel
theorem dX11_trySounds_87 : decode cX11_trySounds 87 = .ok (.lstore 6, 2) := by decide +kernel
theorem dX11_trySounds_89 : decode cX11_trySounds 89 = .ok (.iinc 10 1, 3) := by decide +kernel
theorem dX11_trySounds_92 : decode cX11_trySounds 92 = .ok (.goto (-44), 3) := by decide +kernel
theorem dX11_trySounds_95 : decode cX11_trySounds 95 = .ok (.lload 6, 2) := by decide +kernel
theorem dX11_trySounds_97 : decode cX11_trySounds 97 = .ok (.lreturn, 1) := by decide +kernel
def J_X11_trySounds_b48 (rec : Int → Int → Int → Int → z_St → Option Int) (v0 v2 v4 v5 v6 v8 v10 : Int) (st : z_St) : Option ((Int × Int × Int) ⊕ Int) :=
  z_g (z32 v10 ∧ z32 v4) (if v4 < v10 then
    some (.inr v6)
  else
    z_g (0 ≤ v10 - 1 ∧ v10 - 1 < 16) <|
    z_b (rec v0 (v2 + 1) v10 v4 st) fun r4 =>
    z_g (z64 v6 ∧ z64 ((v8 + (st v5 (v10 - 1))) + r4)) <|
    some (.inl (min v6 ((v8 + (st v5 (v10 - 1))) + r4), v8 + (st v5 (v10 - 1)), v10 + 1)))
set_option maxRecDepth 100000 in
set_option maxHeartbeats 4000000 in
theorem w_X11_trySounds_b48 {κ : zK} {a : Nat → Nat} {v0 v2 v4 v5 v6 v8 v10 : Int} {st : z_St} {mc9 ms9 : Nat} {o : (Int × Int × Int) ⊕ Int} {lam9 : Nat} {rec : Int → Int → Int → Int → z_St → Option Int} (hc : z_C κ RX11 cX11_trySounds 11 (lam9 + 1) mc9 ms9) (hap : z_AP κ a z_N) (hrec : ∀ (l : Launch) (hl : l.stackTraces = false) {x0 x2 x3 x4 : Int} {st : z_St} {o : Int} (hx0 : z_isSaying x0), rec x0 x2 x3 x4 st = some o → z_M 1 l yX11_trySounds cX11_trySounds 11 (some .long) lam9 z_T z_N a [.ref (a x0.toNat), .ref (a 99), .int (zI x2), .int (zI x3), .int (zI x4)] st o st) (hl9 : 8 ≤ lam9) (hv0 : z_isSaying v0) (hv5 : z_isArr v5 1 1 16) (k1 : ∀ s9 : (Int × Int × Int), o = .inl s9 → z_V κ z_T z_N a 0 0 48 [(0, .ref (a v0.toNat)), (1, .ref (a 99)), (2, .int (zI v2)), (4, .int (zI v4)), (5, .ref (a v5.toNat)), (6, .long (zJ s9.1)), (8, .long (zJ s9.2.1)), (10, .int (zI s9.2.2))] [] st) (k2 : ∀ x9 : Int, o = .inr x9 → z_V κ z_T z_N a 0 0 95 [(6, .long (zJ x9))] [] st) (h : J_X11_trySounds_b48 rec v0 v2 v4 v5 v6 v8 v10 st = some o) : z_V κ z_T z_N a 0 0 48 [(0, .ref (a v0.toNat)), (1, .ref (a 99)), (2, .int (zI v2)), (4, .int (zI v4)), (5, .ref (a v5.toNat)), (6, .long (zJ v6)), (8, .long (zJ v8)), (10, .int (zI v10))] [] st := by
  unfold J_X11_trySounds_b48 at h
  refine z_iload 7 hc dX11_trySounds_48 rfl ?_
  refine z_iload 3 hc dX11_trySounds_50 rfl ?_
  refine z_icmp_gt (tgt := 95) hc dX11_trySounds_52 (by decide) h (fun c52 h => ?_) (fun c52 h => ?_)
  · refine z_sub [(6, .long (zJ v6))] [5] rfl ?_
    exact k2 v6 (Option.some.inj h).symm
  · refine z_lload 6 hc dX11_trySounds_55 rfl ?_
    refine z_aload 4 hc dX11_trySounds_57 rfl ?_
    refine z_iload 7 hc dX11_trySounds_59 rfl ?_
    refine z_iconst hc dX11_trySounds_61 ?_
    refine z_isub hc dX11_trySounds_62 ?_
    refine z_lald (kI := v5) (nI9 := 16) hc hv5.2.2 hv5.2.1 (Int.toNat_of_nonneg hv5.1) rfl (by decide) dX11_trySounds_63 h (fun g3 h => ?_)
    refine z_ladd hc dX11_trySounds_64 ?_
    refine z_lstore [(8, .long (zJ (v8 + (st v5 (v10 - 1))))), (0, .ref (a v0.toNat)), (1, .ref (a 99)), (2, .int (zI v2)), (4, .int (zI v4)), (5, .ref (a v5.toNat)), (6, .long (zJ v6)), (10, .int (zI v10))] hc dX11_trySounds_65 (by decide) rfl ?_
    refine z_lload 6 hc dX11_trySounds_67 rfl ?_
    refine z_lload 0 hc dX11_trySounds_69 rfl ?_
    refine z_aload_n (i := 0) 1 hc dX11_trySounds_71 rfl rfl ?_
    refine z_aload_n (i := 1) 2 hc dX11_trySounds_72 rfl rfl ?_
    refine z_iload_n (i := 2) 3 hc dX11_trySounds_73 rfl rfl ?_
    refine z_iconst hc dX11_trySounds_74 ?_
    refine z_iadd hc dX11_trySounds_75 ?_
    refine z_iload 7 hc dX11_trySounds_76 rfl ?_
    refine z_iload 4 hc dX11_trySounds_78 rfl ?_
    obtain ⟨r4, hr4, h⟩ := z_b_some h
    refine z_callSJ [.ref (a v0.toNat), .ref (a 99), .int (zI (v2 + 1)), .int (zI v10), .int (zI v4)] hc hap o_X11_trySounds ml_RX11_374 (fun l hl => hrec l hl hv0 hr4) (by omega) rfl rfl (Nat.le_of_ble_eq_true rfl) (Nat.zero_le _) (Nat.zero_le _) dX11_trySounds_80 ?_
    refine z_ladd hc dX11_trySounds_83 ?_
    refine z_minJ hc ml_RX11_132 h ⟨rfl, rfl, Nat.le_of_ble_eq_true rfl, by omega⟩ dX11_trySounds_84 (fun h => ?_)
    refine z_lstore [(6, .long (zJ (min v6 ((v8 + (st v5 (v10 - 1))) + r4)))), (8, .long (zJ (v8 + (st v5 (v10 - 1))))), (0, .ref (a v0.toNat)), (1, .ref (a 99)), (2, .int (zI v2)), (4, .int (zI v4)), (5, .ref (a v5.toNat)), (10, .int (zI v10))] hc dX11_trySounds_87 (by decide) rfl ?_
    refine z_iinc [(10, .int (zI (v10 + 1))), (6, .long (zJ (min v6 ((v8 + (st v5 (v10 - 1))) + r4)))), (8, .long (zJ (v8 + (st v5 (v10 - 1))))), (0, .ref (a v0.toNat)), (1, .ref (a 99)), (2, .int (zI v2)), (4, .int (zI v4)), (5, .ref (a v5.toNat))] 7 hc dX11_trySounds_89 rfl (by decide) rfl ?_
    refine z_goto (tgt := 48) hc dX11_trySounds_92 (by decide) ?_
    refine z_sub [(0, .ref (a v0.toNat)), (1, .ref (a 99)), (2, .int (zI v2)), (4, .int (zI v4)), (5, .ref (a v5.toNat)), (6, .long (zJ (min v6 ((v8 + (st v5 (v10 - 1))) + r4)))), (8, .long (zJ (v8 + (st v5 (v10 - 1))))), (10, .int (zI (v10 + 1)))] [3, 4, 5, 6, 7, 1, 2, 0] rfl ?_
    exact k1 _ (Option.some.inj h).symm
def J_X11_trySounds_21 (rec : Int → Int → Int → Int → z_St → Option Int) (s0 : Int) (st : z_St) : Option (Int) :=
  some s0
set_option maxRecDepth 100000 in
set_option maxHeartbeats 4000000 in
theorem w_X11_trySounds_21 {κ : zK} {a : Nat → Nat} {s0 : Int} {st : z_St} {o : Int} {lam9 : Nat} {rec : Int → Int → Int → Int → z_St → Option Int} (hc : z_C κ RX11 cX11_trySounds 11 (lam9 + 1) 0 0) (hap : z_AP κ a z_N) (hrec : ∀ (l : Launch) (hl : l.stackTraces = false) {x0 x2 x3 x4 : Int} {st : z_St} {o : Int} (hx0 : z_isSaying x0), rec x0 x2 x3 x4 st = some o → z_M 1 l yX11_trySounds cX11_trySounds 11 (some .long) lam9 z_T z_N a [.ref (a x0.toNat), .ref (a 99), .int (zI x2), .int (zI x3), .int (zI x4)] st o st) (hl9 : 8 ≤ lam9) (he : z_E 1 κ (some .long) z_T z_N a o st) (h : J_X11_trySounds_21 rec s0 st = some o) : z_V κ z_T z_N a 0 0 21 [] [.long (zJ s0)] st := by
  unfold J_X11_trySounds_21 at h
  have h := Option.some.inj h
  subst h
  exact z_retJ hc he dX11_trySounds_21
def J_X11_trySounds_f (rec : Int → Int → Int → Int → z_St → Option Int) (x0 x2 x3 x4 : Int) (st : z_St) : Option (Int) :=
  z_g (z32 x2 ∧ z32 (st x0 2)) (if x2 < st x0 2 then
    z_g (0 ≤ x2 ∧ x2 < 4) <|
    z_g (0 ≤ st (x0 + 2) x2 ∧ st (x0 + 2) x2 < 24) <|
    z_b (z_iter z_F (fun q9 : (Int × Int × Int) => J_X11_trySounds_b48 rec x0 x2 x4 (101 + (st (x0 + 2) x2)) q9.1 q9.2.1 q9.2.2 st) (1152921504606846976, 0, x3 + 1)) fun lx6 =>
      some lx6
  else
    z_g (z32 x3 ∧ z32 x4) (if x3 = x4 then
      J_X11_trySounds_21 rec 0 st
    else
      J_X11_trySounds_21 rec 1152921504606846976 st))
set_option maxRecDepth 100000 in
set_option maxHeartbeats 4000000 in
theorem w_X11_trySounds {κ : zK} {a : Nat → Nat} {x0 x2 x3 x4 : Int} {st : z_St} {o : Int} {lam9 : Nat} {rec : Int → Int → Int → Int → z_St → Option Int} (hc : z_C κ RX11 cX11_trySounds 11 (lam9 + 1) 0 0) (hap : z_AP κ a z_N) (hrec : ∀ (l : Launch) (hl : l.stackTraces = false) {x0 x2 x3 x4 : Int} {st : z_St} {o : Int} (hx0 : z_isSaying x0), rec x0 x2 x3 x4 st = some o → z_M 1 l yX11_trySounds cX11_trySounds 11 (some .long) lam9 z_T z_N a [.ref (a x0.toNat), .ref (a 99), .int (zI x2), .int (zI x3), .int (zI x4)] st o st) (hl9 : 8 ≤ lam9) (hx0 : z_isSaying x0) (he : z_E 1 κ (some .long) z_T z_N a o st) (h : J_X11_trySounds_f rec x0 x2 x3 x4 st = some o) : z_V κ z_T z_N a 0 0 0 [(0, .ref (a x0.toNat)), (1, .ref (a 99)), (2, .int (zI x2)), (3, .int (zI x3)), (4, .int (zI x4))] [] st := by
  unfold J_X11_trySounds_f at h
  refine z_iload_n (i := 2) 2 hc dX11_trySounds_0 rfl rfl ?_
  refine z_aload_n (i := 0) 0 hc dX11_trySounds_1 rfl rfl ?_
  refine z_getI (kI := x0) (jI := 2) hc fl_RX11_203 (z_Saying_T hx0) (z_Saying_lt hx0) (z_Saying_c hx0) rfl rfl dX11_trySounds_2 ?_
  refine z_icmp_lt (tgt := 22) hc dX11_trySounds_5 (by decide) h (fun c5 h => ?_) (fun c5 h => ?_)
  · refine z_aload_n (i := 1) 1 hc dX11_trySounds_22 rfl rfl ?_
    refine z_getA (k' := 100) hc fl_RX11_378 tT_99 (by decide) rfl rfl dX11_trySounds_23 ?_
    refine z_aload_n (i := 0) 0 hc dX11_trySounds_26 rfl rfl ?_
    refine z_getA (k' := (x0.toNat + 2)) hc fl_RX11_382 (z_Saying_T hx0) (z_Saying_lt hx0) rfl rfl dX11_trySounds_27 ?_
    refine z_iload_n (i := 2) 2 hc dX11_trySounds_30 rfl rfl ?_
    refine z_iald (kI := (x0 + 2)) (nI9 := 4) hc (z_Saying_T2 hx0) (z_Saying_lt2 hx0) (z_Saying_c2 hx0) rfl (by decide) dX11_trySounds_31 h (fun g1 h => ?_)
    refine z_aald (r := 101 + (st (x0 + 2) x2)) (nI9 := 24) hc tT_100 (by decide) (by decide) rfl (by decide) (fun j9 hj9 => by omega) dX11_trySounds_32 h (fun g2 h => ?_)
    refine z_astore [(5, .ref (a ((101 + (st (x0 + 2) x2)).toNat))), (0, .ref (a x0.toNat)), (1, .ref (a 99)), (2, .int (zI x2)), (3, .int (zI x3)), (4, .int (zI x4))] hc dX11_trySounds_33 (by decide) rfl ?_
    refine z_ldc2 1152921504606846976 hc kc_RX11_351 dX11_trySounds_35 rfl ?_
    refine z_lstore [(6, .long (zJ 1152921504606846976)), (5, .ref (a ((101 + (st (x0 + 2) x2)).toNat))), (0, .ref (a x0.toNat)), (1, .ref (a 99)), (2, .int (zI x2)), (3, .int (zI x3)), (4, .int (zI x4))] hc dX11_trySounds_38 (by decide) rfl ?_
    refine z_lconst 0 hc dX11_trySounds_40 rfl ?_
    refine z_lstore [(8, .long (zJ 0)), (6, .long (zJ 1152921504606846976)), (5, .ref (a ((101 + (st (x0 + 2) x2)).toNat))), (0, .ref (a x0.toNat)), (1, .ref (a 99)), (2, .int (zI x2)), (3, .int (zI x3)), (4, .int (zI x4))] hc dX11_trySounds_41 (by decide) rfl ?_
    refine z_iload_n (i := 3) 6 hc dX11_trySounds_43 rfl rfl ?_
    refine z_iconst hc dX11_trySounds_44 ?_
    refine z_iadd hc dX11_trySounds_45 ?_
    refine z_istore [(10, .int (zI (x3 + 1))), (8, .long (zJ 0)), (6, .long (zJ 1152921504606846976)), (5, .ref (a ((101 + (st (x0 + 2) x2)).toNat))), (0, .ref (a x0.toNat)), (1, .ref (a 99)), (2, .int (zI x2)), (3, .int (zI x3)), (4, .int (zI x4))] hc dX11_trySounds_46 (by decide) rfl ?_
    obtain ⟨lx6, hlx6, h⟩ := z_b_some h
    refine z_sub [(0, .ref (a x0.toNat)), (1, .ref (a 99)), (2, .int (zI x2)), (4, .int (zI x4)), (5, .ref (a ((101 + (st (x0 + 2) x2)).toNat))), (6, .long (zJ 1152921504606846976)), (8, .long (zJ 0)), (10, .int (zI (x3 + 1)))] [4, 5, 6, 8, 3, 2, 1, 0] rfl ?_
    refine z_loop (fun q9 : (Int × Int × Int) => J_X11_trySounds_b48 rec x0 x2 x4 (101 + (st (x0 + 2) x2)) q9.1 q9.2.1 q9.2.2 st) (fun q9 : (Int × Int × Int) => z_V κ z_T z_N a 0 0 48 [(0, .ref (a x0.toNat)), (1, .ref (a 99)), (2, .int (zI x2)), (4, .int (zI x4)), (5, .ref (a ((101 + (st (x0 + 2) x2)).toNat))), (6, .long (zJ q9.1)), (8, .long (zJ q9.2.1)), (10, .int (zI q9.2.2))] [] st) (fun x9 : Int => z_V κ z_T z_N a 0 0 95 [(6, .long (zJ x9))] [] st) (fun q9 o9 hb k1 k2 => ?_) _ _ _ hlx6 ?_
    · exact w_X11_trySounds_b48 hc hap hrec hl9 hx0 (z_row_100 g2) k1 k2 hb
    · show z_V κ z_T z_N a 0 0 95 [(6, .long (zJ lx6))] [] st
      refine z_lload 0 hc dX11_trySounds_95 rfl ?_
      have h := Option.some.inj h
      subst h
      exact z_retJ hc he dX11_trySounds_97
  · refine z_iload_n (i := 3) 3 hc dX11_trySounds_8 rfl rfl ?_
    refine z_iload 4 hc dX11_trySounds_9 rfl ?_
    refine z_icmp_ne (tgt := 18) hc dX11_trySounds_11 (by decide) h (fun c11 h => ?_) (fun c11 h => ?_)
    · refine z_lconst 0 hc dX11_trySounds_14 rfl ?_
      refine z_goto (tgt := 21) hc dX11_trySounds_15 (by decide) ?_
      refine z_sub [] [] rfl ?_
      exact w_X11_trySounds_21 hc hap hrec hl9 he h
    · refine z_ldc2 1152921504606846976 hc kc_RX11_351 dX11_trySounds_18 rfl ?_
      refine z_sub [] [] rfl ?_
      exact w_X11_trySounds_21 hc hap hrec hl9 he h
def J_X11_trySounds : Nat → Int → Int → Int → Int → z_St → Option Int
  | 0 => fun _ _ _ _ _ => none
  | n + 1 => J_X11_trySounds_f (J_X11_trySounds n)
set_option maxRecDepth 100000 in
set_option maxHeartbeats 4000000 in
theorem cn_X11_trySounds {a : Nat → Nat} (n : Nat) : ∀ (l : Launch) (hl : l.stackTraces = false) {x0 x2 x3 x4 : Int} {st : z_St} {o : Int} (hx0 : z_isSaying x0), J_X11_trySounds n x0 x2 x3 x4 st = some o → z_M 1 l yX11_trySounds cX11_trySounds 11 (some .long) (8 + n) z_T z_N a [.ref (a x0.toNat), .ref (a 99), .int (zI x2), .int (zI x3), .int (zI x4)] st o st := by
  induction n with
  | zero => intro l hl; intros; rename_i h; cases h
  | succ n ih =>
    intro l hl x0 x2 x3 x4 st o hx0 h
    exact z_of hl (by decide +kernel) (Nat.le_of_ble_eq_true rfl) (fun κ hc hap he => w_X11_trySounds hc hap ih (Nat.le_add_right _ _) hx0 he h)
theorem c_X11_trySounds {l : Launch} (hl : l.stackTraces = false) {a : Nat → Nat} {x0 x2 x3 x4 : Int} {st : z_St} {o : Int} (hx0 : z_isSaying x0) (h : J_X11_trySounds 7 x0 x2 x3 x4 st = some o) : z_M 1 l yX11_trySounds cX11_trySounds 11 (some .long) 15 z_T z_N a [.ref (a x0.toNat), .ref (a 99), .int (zI x2), .int (zI x3), .int (zI x4)] st o st := cn_X11_trySounds 7 l hl hx0 h
theorem dX11_trySayings_0 : decode cX11_trySayings 0 = .ok (.ldc2_w 351, 3) := by decide +kernel
theorem dX11_trySayings_3 : decode cX11_trySayings 3 = .ok (.lstore 5, 2) := by decide +kernel
theorem dX11_trySayings_5 : decode cX11_trySayings 5 = .ok (.iconst 0, 1) := by decide +kernel
theorem dX11_trySayings_6 : decode cX11_trySayings 6 = .ok (.istore 7, 2) := by decide +kernel
theorem dX11_trySayings_8 : decode cX11_trySayings 8 = .ok (.iload 7, 2) := by decide +kernel
theorem dX11_trySayings_10 : decode cX11_trySayings 10 = .ok (.aload_n 2, 1) := by decide +kernel
theorem dX11_trySayings_11 : decode cX11_trySayings 11 = .ok (.getfield 194, 3) := by decide +kernel
theorem dX11_trySayings_14 : decode cX11_trySayings 14 = .ok (.iload_n 0, 1) := by decide +kernel
theorem dX11_trySayings_15 : decode cX11_trySayings 15 = .ok (.iaload, 1) := by decide +kernel
theorem dX11_trySayings_16 : decode cX11_trySayings 16 = .ok (.if_icmp .ge 42, 3) := by decide +kernel
theorem dX11_trySayings_19 : decode cX11_trySayings 19 = .ok (.aload_n 2, 1) := by decide +kernel
theorem dX11_trySayings_20 : decode cX11_trySayings 20 = .ok (.iload_n 0, 1) := by decide +kernel
theorem dX11_trySayings_21 : decode cX11_trySayings 21 = .ok (.iload 7, 2) := by decide +kernel
theorem dX11_trySayings_23 : decode cX11_trySayings 23 = .ok (.invokevirtual 199, 3) := by decide +kernel
theorem dX11_trySayings_26 : decode cX11_trySayings 26 = .ok (.astore 8, 2) := by decide +kernel
theorem dX11_trySayings_28 : decode cX11_trySayings 28 = .ok (.lload 5, 2) := by decide +kernel
theorem dX11_trySayings_30 : decode cX11_trySayings 30 = .ok (.aload 8, 2) := by decide +kernel
theorem dX11_trySayings_32 : decode cX11_trySayings 32 = .ok (.getfield 371, 3) := by decide +kernel
theorem dX11_trySayings_35 : decode cX11_trySayings 35 = .ok (.i2l, 1) := by decide +kernel
theorem dX11_trySayings_36 : decode cX11_trySayings 36 = .ok (.aload 8, 2) := by decide +kernel
theorem dX11_trySayings_38 : decode cX11_trySayings 38 = .ok (.aload_n 1, 1) := by decide +kernel
theorem dX11_trySayings_39 : decode cX11_trySayings 39 = .ok (.iconst 0, 1) := by decide +kernel
theorem dX11_trySayings_40 : decode cX11_trySayings 40 = .ok (.iload_n 3, 1) := by decide +kernel
theorem dX11_trySayings_41 : decode cX11_trySayings 41 = .ok (.iload 4, 2) := by decide +kernel
theorem dX11_trySayings_43 : decode cX11_trySayings 43 = .ok (.invokestatic 374, 3) := by decide +kernel
theorem dX11_trySayings_46 : decode cX11_trySayings 46 = .ok (.ladd, 1) := by decide +kernel
theorem dX11_trySayings_47 : decode cX11_trySayings 47 = .ok (.invokestatic 132, 3) := by decide +kernel
theorem dX11_trySayings_50 : decode cX11_trySayings 50 = .ok (.lstore 5, 2) := by decide +kernel
theorem dX11_trySayings_52 : decode cX11_trySayings 52 = .ok (.iinc 7 1, 3) := by decide +kernel
theorem dX11_trySayings_55 : decode cX11_trySayings 55 = .ok (.goto (-47), 3) := by decide +kernel
theorem dX11_trySayings_58 : decode cX11_trySayings 58 = .ok (.lload 5, 2) := by decide +kernel
theorem dX11_trySayings_60 : decode cX11_trySayings 60 = .ok (.lreturn, 1) := by decide +kernel
def J_X11_trySayings_b8 (v0 v3 v4 v5 v7 : Int) (st : z_St) : Option ((Int × Int) ⊕ Int) :=
  z_g (0 ≤ v0 ∧ v0 < 5) <|
  z_g (z32 v7 ∧ z32 (st 27 v0)) (if v7 < st 27 v0 then
    z_b (J_X4_sayingOf v0 v7 st) fun r2 =>
    z_g (z_isSaying r2) <|
    z_g (z32 (st r2 3)) <|
    z_b (J_X11_trySounds 7 r2 0 v3 v4 st) fun r5 =>
    z_g (z64 v5 ∧ z64 ((st r2 3) + r5)) <|
    some (.inl (min v5 ((st r2 3) + r5), v7 + 1))
  else
    some (.inr v5))
set_option maxRecDepth 100000 in
set_option maxHeartbeats 4000000 in
theorem w_X11_trySayings_b8 {κ : zK} {a : Nat → Nat} {v0 v3 v4 v5 v7 : Int} {st : z_St} {mc9 ms9 : Nat} {o : (Int × Int) ⊕ Int} (hc : z_C κ RX11 cX11_trySayings 9 16 mc9 ms9) (hap : z_AP κ a z_N) (k1 : ∀ s9 : (Int × Int), o = .inl s9 → z_V κ z_T z_N a 0 0 8 [(0, .int (zI v0)), (1, .ref (a 99)), (2, .ref (a 24)), (3, .int (zI v3)), (4, .int (zI v4)), (5, .long (zJ s9.1)), (7, .int (zI s9.2))] [] st) (k2 : ∀ x9 : Int, o = .inr x9 → z_V κ z_T z_N a 0 0 58 [(5, .long (zJ x9))] [] st) (h : J_X11_trySayings_b8 v0 v3 v4 v5 v7 st = some o) : z_V κ z_T z_N a 0 0 8 [(0, .int (zI v0)), (1, .ref (a 99)), (2, .ref (a 24)), (3, .int (zI v3)), (4, .int (zI v4)), (5, .long (zJ v5)), (7, .int (zI v7))] [] st := by
  unfold J_X11_trySayings_b8 at h
  refine z_iload 6 hc dX11_trySayings_8 rfl ?_
  refine z_aload_n (i := 2) 2 hc dX11_trySayings_10 rfl rfl ?_
  refine z_getA (k' := 27) hc fl_RX11_194 tT_24 (by decide) rfl rfl dX11_trySayings_11 ?_
  refine z_iload_n (i := 0) 0 hc dX11_trySayings_14 rfl rfl ?_
  refine z_iald (kI := 27) (nI9 := 5) hc tT_27 (by decide) rfl rfl (by decide) dX11_trySayings_15 h (fun g1 h => ?_)
  refine z_icmp_ge (tgt := 58) hc dX11_trySayings_16 (by decide) h (fun c16 h => ?_) (fun c16 h => ?_)
  · refine z_aload_n (i := 2) 2 hc dX11_trySayings_19 rfl rfl ?_
    refine z_iload_n (i := 0) 0 hc dX11_trySayings_20 rfl rfl ?_
    refine z_iload 6 hc dX11_trySayings_21 rfl ?_
    obtain ⟨r2, hr2, h⟩ := z_b_some h
    refine z_callVA [.int (zI v0), .int (zI v7)] hc hap o_X4_sayingOf ml_RX11_199 (fun l hl => c_X4_sayingOf hl  hr2) (by decide) tT_24 (by decide) ⟨_, rfl, rfl⟩ rfl rfl (Nat.le_of_ble_eq_true rfl) (Nat.zero_le _) (Nat.zero_le _) dX11_trySayings_23 ?_
    obtain ⟨g4, h⟩ := z_g_some h
    refine z_astore [(8, .ref (a r2.toNat)), (0, .int (zI v0)), (1, .ref (a 99)), (2, .ref (a 24)), (3, .int (zI v3)), (4, .int (zI v4)), (5, .long (zJ v5)), (7, .int (zI v7))] hc dX11_trySayings_26 (by decide) rfl ?_
    refine z_lload 6 hc dX11_trySayings_28 rfl ?_
    refine z_aload 0 hc dX11_trySayings_30 rfl ?_
    refine z_getI (kI := r2) (jI := 3) hc fl_RX11_371 (z_Saying_T g4) (z_Saying_lt g4) (z_Saying_c g4) rfl rfl dX11_trySayings_32 ?_
    refine z_i2l hc dX11_trySayings_35 h (fun h => ?_)
    refine z_aload 0 hc dX11_trySayings_36 rfl ?_
    refine z_aload_n (i := 1) 2 hc dX11_trySayings_38 rfl rfl ?_
    refine z_iconst hc dX11_trySayings_39 ?_
    refine z_iload_n (i := 3) 4 hc dX11_trySayings_40 rfl rfl ?_
    refine z_iload 5 hc dX11_trySayings_41 rfl ?_
    obtain ⟨r5, hr5, h⟩ := z_b_some h
    refine z_callSJ [.ref (a r2.toNat), .ref (a 99), .int (zI 0), .int (zI v3), .int (zI v4)] hc hap o_X11_trySounds ml_RX11_374 (fun l hl => c_X11_trySounds hl g4 hr5) (by decide) rfl rfl (Nat.le_of_ble_eq_true rfl) (Nat.zero_le _) (Nat.zero_le _) dX11_trySayings_43 ?_
    refine z_ladd hc dX11_trySayings_46 ?_
    refine z_minJ hc ml_RX11_132 h ⟨rfl, rfl, Nat.le_of_ble_eq_true rfl, by omega⟩ dX11_trySayings_47 (fun h => ?_)
    refine z_lstore [(5, .long (zJ (min v5 ((st r2 3) + r5)))), (8, .ref (a r2.toNat)), (0, .int (zI v0)), (1, .ref (a 99)), (2, .ref (a 24)), (3, .int (zI v3)), (4, .int (zI v4)), (7, .int (zI v7))] hc dX11_trySayings_50 (by decide) rfl ?_
    refine z_iinc [(7, .int (zI (v7 + 1))), (5, .long (zJ (min v5 ((st r2 3) + r5)))), (8, .ref (a r2.toNat)), (0, .int (zI v0)), (1, .ref (a 99)), (2, .ref (a 24)), (3, .int (zI v3)), (4, .int (zI v4))] 7 hc dX11_trySayings_52 rfl (by decide) rfl ?_
    refine z_goto (tgt := 8) hc dX11_trySayings_55 (by decide) ?_
    refine z_sub [(0, .int (zI v0)), (1, .ref (a 99)), (2, .ref (a 24)), (3, .int (zI v3)), (4, .int (zI v4)), (5, .long (zJ (min v5 ((st r2 3) + r5)))), (7, .int (zI (v7 + 1)))] [3, 4, 5, 6, 7, 1, 0] rfl ?_
    exact k1 _ (Option.some.inj h).symm
  · refine z_sub [(5, .long (zJ v5))] [5] rfl ?_
    exact k2 v5 (Option.some.inj h).symm
def J_X11_trySayings (x0 x3 x4 : Int) (st : z_St) : Option (Int) :=
  z_b (z_iter z_F (fun q9 : (Int × Int) => J_X11_trySayings_b8 x0 x3 x4 q9.1 q9.2 st) (1152921504606846976, 0)) fun lx7 =>
    some lx7
set_option maxRecDepth 100000 in
set_option maxHeartbeats 4000000 in
theorem w_X11_trySayings {κ : zK} {a : Nat → Nat} {x0 x3 x4 : Int} {st : z_St} {o : Int} (hc : z_C κ RX11 cX11_trySayings 9 16 0 0) (hap : z_AP κ a z_N) (he : z_E 1 κ (some .long) z_T z_N a o st) (h : J_X11_trySayings x0 x3 x4 st = some o) : z_V κ z_T z_N a 0 0 0 [(0, .int (zI x0)), (1, .ref (a 99)), (2, .ref (a 24)), (3, .int (zI x3)), (4, .int (zI x4))] [] st := by
  unfold J_X11_trySayings at h
  refine z_ldc2 1152921504606846976 hc kc_RX11_351 dX11_trySayings_0 rfl ?_
  refine z_lstore [(5, .long (zJ 1152921504606846976)), (0, .int (zI x0)), (1, .ref (a 99)), (2, .ref (a 24)), (3, .int (zI x3)), (4, .int (zI x4))] hc dX11_trySayings_3 (by decide) rfl ?_
  refine z_iconst hc dX11_trySayings_5 ?_
  refine z_istore [(7, .int (zI 0)), (5, .long (zJ 1152921504606846976)), (0, .int (zI x0)), (1, .ref (a 99)), (2, .ref (a 24)), (3, .int (zI x3)), (4, .int (zI x4))] hc dX11_trySayings_6 (by decide) rfl ?_
  obtain ⟨lx7, hlx7, h⟩ := z_b_some h
  refine z_sub [(0, .int (zI x0)), (1, .ref (a 99)), (2, .ref (a 24)), (3, .int (zI x3)), (4, .int (zI x4)), (5, .long (zJ 1152921504606846976)), (7, .int (zI 0))] [2, 3, 4, 5, 6, 1, 0] rfl ?_
  refine z_loop (fun q9 : (Int × Int) => J_X11_trySayings_b8 x0 x3 x4 q9.1 q9.2 st) (fun q9 : (Int × Int) => z_V κ z_T z_N a 0 0 8 [(0, .int (zI x0)), (1, .ref (a 99)), (2, .ref (a 24)), (3, .int (zI x3)), (4, .int (zI x4)), (5, .long (zJ q9.1)), (7, .int (zI q9.2))] [] st) (fun x9 : Int => z_V κ z_T z_N a 0 0 58 [(5, .long (zJ x9))] [] st) (fun q9 o9 hb k1 k2 => ?_) _ _ _ hlx7 ?_
  · exact w_X11_trySayings_b8 hc hap k1 k2 hb
  · show z_V κ z_T z_N a 0 0 58 [(5, .long (zJ lx7))] [] st
    refine z_lload 0 hc dX11_trySayings_58 rfl ?_
    have h := Option.some.inj h
    subst h
    exact z_retJ hc he dX11_trySayings_60
set_option maxRecDepth 100000 in
set_option maxHeartbeats 4000000 in
theorem c_X11_trySayings {l : Launch} (hl : l.stackTraces = false) {a : Nat → Nat} {x0 x3 x4 : Int} {st : z_St} {o : Int} (h : J_X11_trySayings x0 x3 x4 st = some o) : z_M 1 l yX11_trySayings cX11_trySayings 9 (some .long) 16 z_T z_N a [.int (zI x0), .ref (a 99), .ref (a 24), .int (zI x3), .int (zI x4)] st o st := z_of hl (by decide +kernel) (Nat.le_of_ble_eq_true rfl) (fun κ hc hap he => w_X11_trySayings hc hap he h)
theorem dX11_tryWords_0 : decode cX11_tryWords 0 = .ok (.aload_n 0, 1) := by decide +kernel
theorem dX11_tryWords_1 : decode cX11_tryWords 1 = .ok (.iload 4, 2) := by decide +kernel
theorem dX11_tryWords_3 : decode cX11_tryWords 3 = .ok (.iconst 1, 1) := by decide +kernel
theorem dX11_tryWords_4 : decode cX11_tryWords 4 = .ok (.isub, 1) := by decide +kernel
theorem dX11_tryWords_5 : decode cX11_tryWords 5 = .ok (.invokevirtual 235, 3) := by decide +kernel
theorem dX11_tryWords_8 : decode cX11_tryWords 8 = .ok (.istore 6, 2) := by decide +kernel
theorem dX11_tryWords_10 : decode cX11_tryWords 10 = .ok (.iload 4, 2) := by decide +kernel
theorem dX11_tryWords_12 : decode cX11_tryWords 12 = .ok (.aload_n 0, 1) := by decide +kernel
theorem dX11_tryWords_13 : decode cX11_tryWords 13 = .ok (.getfield 234, 3) := by decide +kernel
theorem dX11_tryWords_16 : decode cX11_tryWords 16 = .ok (.if_icmp .lt 23, 3) := by decide +kernel
theorem dX11_tryWords_19 : decode cX11_tryWords 19 = .ok (.iload 5, 2) := by decide +kernel
theorem dX11_tryWords_21 : decode cX11_tryWords 21 = .ok (.iload_n 3, 1) := by decide +kernel
theorem dX11_tryWords_22 : decode cX11_tryWords 22 = .ok (.if_icmp .ne 13, 3) := by decide +kernel
theorem dX11_tryWords_25 : decode cX11_tryWords 25 = .ok (.aload_n 1, 1) := by decide +kernel
theorem dX11_tryWords_26 : decode cX11_tryWords 26 = .ok (.iload 6, 2) := by decide +kernel
theorem dX11_tryWords_28 : decode cX11_tryWords 28 = .ok (.iconst (-1), 1) := by decide +kernel
theorem dX11_tryWords_29 : decode cX11_tryWords 29 = .ok (.invokevirtual 364, 3) := by decide +kernel
theorem dX11_tryWords_32 : decode cX11_tryWords 32 = .ok (.goto 6, 3) := by decide +kernel
theorem dX11_tryWords_35 : decode cX11_tryWords 35 = .ok (.ldc2_w 351, 3) := by decide +kernel
theorem dX11_tryWords_38 : decode cX11_tryWords 38 = .ok (.lreturn, 1) := by decide +kernel
theorem dX11_tryWords_39 : decode cX11_tryWords 39 = .ok (.aload_n 0, 1) := by decide +kernel
theorem dX11_tryWords_40 : decode cX11_tryWords 40 = .ok (.iload 4, 2) := by decide +kernel
theorem dX11_tryWords_42 : decode cX11_tryWords 42 = .ok (.invokevirtual 235, 3) := by decide +kernel
theorem dX11_tryWords_45 : decode cX11_tryWords 45 = .ok (.istore 7, 2) := by decide +kernel
theorem dX11_tryWords_47 : decode cX11_tryWords 47 = .ok (.ldc2_w 351, 3) := by decide +kernel
theorem dX11_tryWords_50 : decode cX11_tryWords 50 = .ok (.lstore 8, 2) := by decide +kernel
theorem dX11_tryWords_52 : decode cX11_tryWords 52 = .ok (.iload 5, 2) := by decide +kernel
theorem dX11_tryWords_54 : decode cX11_tryWords 54 = .ok (.iconst 1, 1) := by decide +kernel
theorem dX11_tryWords_55 : decode cX11_tryWords 55 = .ok (.iadd, 1) := by decide +kernel
theorem dX11_tryWords_56 : decode cX11_tryWords 56 = .ok (.istore 10, 2) := by decide +kernel
theorem dX11_tryWords_58 : decode cX11_tryWords 58 = .ok (.iload 10, 2) := by decide +kernel
theorem dX11_tryWords_60 : decode cX11_tryWords 60 = .ok (.iload_n 3, 1) := by decide +kernel
theorem dX11_tryWords_61 : decode cX11_tryWords 61 = .ok (.if_icmp .gt 54, 3) := by decide +kernel
theorem dX11_tryWords_64 : decode cX11_tryWords 64 = .ok (.aload_n 0, 1) := by decide +kernel
theorem dX11_tryWords_65 : decode cX11_tryWords 65 = .ok (.aload_n 1, 1) := by decide +kernel
theorem dX11_tryWords_66 : decode cX11_tryWords 66 = .ok (.aload_n 2, 1) := by decide +kernel
theorem dX11_tryWords_67 : decode cX11_tryWords 67 = .ok (.iload_n 3, 1) := by decide +kernel
theorem dX11_tryWords_68 : decode cX11_tryWords 68 = .ok (.iload 4, 2) := by decide +kernel
theorem dX11_tryWords_70 : decode cX11_tryWords 70 = .ok (.iconst 1, 1) := by decide +kernel
theorem dX11_tryWords_71 : decode cX11_tryWords 71 = .ok (.iadd, 1) := by decide +kernel
theorem dX11_tryWords_72 : decode cX11_tryWords 72 = .ok (.iload 10, 2) := by decide +kernel
theorem dX11_tryWords_74 : decode cX11_tryWords 74 = .ok (.invokestatic 262, 3) := by decide +kernel
theorem dX11_tryWords_77 : decode cX11_tryWords 77 = .ok (.lstore 11, 2) := by decide +kernel
theorem dX11_tryWords_79 : decode cX11_tryWords 79 = .ok (.lload 11, 2) := by decide +kernel
theorem dX11_tryWords_81 : decode cX11_tryWords 81 = .ok (.ldc2_w 351, 3) := by decide +kernel
theorem dX11_tryWords_84 : decode cX11_tryWords 84 = .ok (.lcmp, 1) := by decide +kernel
theorem dX11_tryWords_85 : decode cX11_tryWords 85 = .ok (.ifCond .ge 24, 3) := by decide +kernel
theorem dX11_tryWords_88 : decode cX11_tryWords 88 = .ok (.lload 8, 2) := by decide +kernel
theorem dX11_tryWords_90 : decode cX11_tryWords 90 = .ok (.lload 11, 2) := by decide +kernel
theorem dX11_tryWords_92 : decode cX11_tryWords 92 = .ok (.iload 7, 2) := by decide +kernel
theorem dX11_tryWords_94 : decode cX11_tryWords 94 = .ok (.aload_n 1, 1) := by decide +kernel
theorem dX11_tryWords_95 : decode cX11_tryWords 95 = .ok (.aload_n 2, 1) := by decide +kernel
theorem dX11_tryWords_96 : decode cX11_tryWords 96 = .ok (.iload 5, 2) := by decide +kernel
theorem dX11_tryWords_98 : decode cX11_tryWords 98 = .ok (.iload 10, 2) := by decide +kernel
theorem dX11_tryWords_100 : decode cX11_tryWords 100 = .ok (.invokestatic 367, 3) := by decide +kernel
theorem dX11_tryWords_103 : decode cX11_tryWords 103 = .ok (.ladd, 1) := by decide +kernel
theorem dX11_tryWords_104 : decode cX11_tryWords 104 = .ok (.invokestatic 132, 3) := by decide +kernel
theorem dX11_tryWords_107 : decode cX11_tryWords 107 = .ok (.lstore 8, 2) := by decide +kernel
theorem dX11_tryWords_109 : decode cX11_tryWords 109 = .ok (.iinc 10 1, 3) := by decide +kernel
theorem dX11_tryWords_112 : decode cX11_tryWords 112 = .ok (.goto (-54), 3) := by decide +kernel
theorem dX11_tryWords_115 : decode cX11_tryWords 115 = .ok (.lload 8, 2) := by decide +kernel
theorem dX11_tryWords_117 : decode cX11_tryWords 117 = .ok (.ldc2_w 351, 3) := by decide +kernel
theorem dX11_tryWords_120 : decode cX11_tryWords 120 = .ok (.lcmp, 1) := by decide +kernel
theorem dX11_tryWords_121 : decode cX11_tryWords 121 = .ok (.ifCond .lt 9, 3) := by decide +kernel
theorem dX11_tryWords_124 : decode cX11_tryWords 124 = .ok (.ldc2_w 351, 3) := by decide +kernel
theorem dX11_tryWords_127 : decode cX11_tryWords 127 = .ok (.goto 14, 3) := by decide +kernel
theorem dX11_tryWords_130 : decode cX11_tryWords 130 = .ok (.lload 8, 2) := by decide +kernel
theorem dX11_tryWords_132 : decode cX11_tryWords 132 = .ok (.aload_n 1, 1) := by decide +kernel
theorem dX11_tryWords_133 : decode cX11_tryWords 133 = .ok (.iload 6, 2) := by decide +kernel
theorem dX11_tryWords_135 : decode cX11_tryWords 135 = .ok (.iload 7, 2) := by decide +kernel
theorem dX11_tryWords_137 : decode cX11_tryWords 137 = .ok (.invokevirtual 364, 3) := by decide +kernel
theorem dX11_tryWords_140 : decode cX11_tryWords 140 = .ok (.ladd, 1) := by decide +kernel
theorem dX11_tryWords_141 : decode cX11_tryWords 141 = .ok (.lreturn, 1) := by decide +kernel
def J_X11_tryWords_109 (rec : Int → Int → Int → Int → z_St → Option Int) (v0 v3 v4 v5 v6 v7 v8 v10 : Int) (st : z_St) : Option ((Int × Int) ⊕ Int) :=
  some (.inl (v8, v10 + 1))
set_option maxRecDepth 100000 in
set_option maxHeartbeats 4000000 in
theorem w_X11_tryWords_109 {κ : zK} {a : Nat → Nat} {v0 v3 v4 v5 v6 v7 v8 v10 : Int} {st : z_St} {mc9 ms9 : Nat} {o : (Int × Int) ⊕ Int} {lam9 : Nat} {rec : Int → Int → Int → Int → z_St → Option Int} (hc : z_C κ RX11 cX11_tryWords 13 (lam9 + 1) mc9 ms9) (hap : z_AP κ a z_N) (hrec : ∀ (l : Launch) (hl : l.stackTraces = false) {x0 x3 x4 x5 : Int} {st : z_St} {o : Int} (hx0 : z_isRW x0), rec x0 x3 x4 x5 st = some o → z_M 1 l yX11_tryWords cX11_tryWords 13 (some .long) lam9 z_T z_N a [.ref (a x0.toNat), .ref (a 99), .ref (a 24), .int (zI x3), .int (zI x4), .int (zI x5)] st o st) (hl9 : 17 ≤ lam9) (hv0 : z_isRW v0) (k1 : ∀ s9 : (Int × Int), o = .inl s9 → z_V κ z_T z_N a 0 0 58 [(0, .ref (a v0.toNat)), (1, .ref (a 99)), (2, .ref (a 24)), (3, .int (zI v3)), (4, .int (zI v4)), (5, .int (zI v5)), (6, .int (zI v6)), (7, .int (zI v7)), (8, .long (zJ s9.1)), (10, .int (zI s9.2))] [] st) (k2 : ∀ x9 : Int, o = .inr x9 → z_V κ z_T z_N a 0 0 115 [(1, .ref (a 99)), (6, .int (zI v6)), (7, .int (zI v7)), (8, .long (zJ x9))] [] st) (h : J_X11_tryWords_109 rec v0 v3 v4 v5 v6 v7 v8 v10 st = some o) : z_V κ z_T z_N a 0 0 109 [(0, .ref (a v0.toNat)), (1, .ref (a 99)), (2, .ref (a 24)), (3, .int (zI v3)), (4, .int (zI v4)), (5, .int (zI v5)), (6, .int (zI v6)), (7, .int (zI v7)), (8, .long (zJ v8)), (10, .int (zI v10))] [] st := by
  unfold J_X11_tryWords_109 at h
  refine z_iinc [(10, .int (zI (v10 + 1))), (0, .ref (a v0.toNat)), (1, .ref (a 99)), (2, .ref (a 24)), (3, .int (zI v3)), (4, .int (zI v4)), (5, .int (zI v5)), (6, .int (zI v6)), (7, .int (zI v7)), (8, .long (zJ v8))] 9 hc dX11_tryWords_109 rfl (by decide) rfl ?_
  refine z_goto (tgt := 58) hc dX11_tryWords_112 (by decide) ?_
  refine z_sub [(0, .ref (a v0.toNat)), (1, .ref (a 99)), (2, .ref (a 24)), (3, .int (zI v3)), (4, .int (zI v4)), (5, .int (zI v5)), (6, .int (zI v6)), (7, .int (zI v7)), (8, .long (zJ v8)), (10, .int (zI (v10 + 1)))] [1, 2, 3, 4, 5, 6, 7, 8, 9, 0] rfl ?_
  exact k1 _ (Option.some.inj h).symm
def J_X11_tryWords_b58 (rec : Int → Int → Int → Int → z_St → Option Int) (v0 v3 v4 v5 v6 v7 v8 v10 : Int) (st : z_St) : Option ((Int × Int) ⊕ Int) :=
  z_g (z32 v10 ∧ z32 v3) (if v3 < v10 then
    some (.inr v8)
  else
    z_b (rec v0 v3 (v4 + 1) v10 st) fun r5 =>
    z_g (z64 r5 ∧ z64 1152921504606846976) (if r5 < 1152921504606846976 then
      z_b (J_X11_trySayings v7 v5 v10 st) fun r7 =>
      z_g (z64 v8 ∧ z64 (r5 + r7)) <|
      J_X11_tryWords_109 rec v0 v3 v4 v5 v6 v7 (min v8 (r5 + r7)) v10 st
    else
      J_X11_tryWords_109 rec v0 v3 v4 v5 v6 v7 v8 v10 st))
set_option maxRecDepth 100000 in
set_option maxHeartbeats 4000000 in
theorem w_X11_tryWords_b58 {κ : zK} {a : Nat → Nat} {v0 v3 v4 v5 v6 v7 v8 v10 : Int} {st : z_St} {mc9 ms9 : Nat} {o : (Int × Int) ⊕ Int} {lam9 : Nat} {rec : Int → Int → Int → Int → z_St → Option Int} (hc : z_C κ RX11 cX11_tryWords 13 (lam9 + 1) mc9 ms9) (hap : z_AP κ a z_N) (hrec : ∀ (l : Launch) (hl : l.stackTraces = false) {x0 x3 x4 x5 : Int} {st : z_St} {o : Int} (hx0 : z_isRW x0), rec x0 x3 x4 x5 st = some o → z_M 1 l yX11_tryWords cX11_tryWords 13 (some .long) lam9 z_T z_N a [.ref (a x0.toNat), .ref (a 99), .ref (a 24), .int (zI x3), .int (zI x4), .int (zI x5)] st o st) (hl9 : 17 ≤ lam9) (hv0 : z_isRW v0) (k1 : ∀ s9 : (Int × Int), o = .inl s9 → z_V κ z_T z_N a 0 0 58 [(0, .ref (a v0.toNat)), (1, .ref (a 99)), (2, .ref (a 24)), (3, .int (zI v3)), (4, .int (zI v4)), (5, .int (zI v5)), (6, .int (zI v6)), (7, .int (zI v7)), (8, .long (zJ s9.1)), (10, .int (zI s9.2))] [] st) (k2 : ∀ x9 : Int, o = .inr x9 → z_V κ z_T z_N a 0 0 115 [(1, .ref (a 99)), (6, .int (zI v6)), (7, .int (zI v7)), (8, .long (zJ x9))] [] st) (h : J_X11_tryWords_b58 rec v0 v3 v4 v5 v6 v7 v8 v10 st = some o) : z_V κ z_T z_N a 0 0 58 [(0, .ref (a v0.toNat)), (1, .ref (a 99)), (2, .ref (a 24)), (3, .int (zI v3)), (4, .int (zI v4)), (5, .int (zI v5)), (6, .int (zI v6)), (7, .int (zI v7)), (8, .long (zJ v8)), (10, .int (zI v10))] [] st := by
  unfold J_X11_tryWords_b58 at h
  refine z_iload 9 hc dX11_tryWords_58 rfl ?_
  refine z_iload_n (i := 3) 3 hc dX11_tryWords_60 rfl rfl ?_
  refine z_icmp_gt (tgt := 115) hc dX11_tryWords_61 (by decide) h (fun c61 h => ?_) (fun c61 h => ?_)
  · refine z_sub [(1, .ref (a 99)), (6, .int (zI v6)), (7, .int (zI v7)), (8, .long (zJ v8))] [1, 6, 7, 8] rfl ?_
    exact k2 v8 (Option.some.inj h).symm
  · refine z_aload_n (i := 0) 0 hc dX11_tryWords_64 rfl rfl ?_
    refine z_aload_n (i := 1) 1 hc dX11_tryWords_65 rfl rfl ?_
    refine z_aload_n (i := 2) 2 hc dX11_tryWords_66 rfl rfl ?_
    refine z_iload_n (i := 3) 3 hc dX11_tryWords_67 rfl rfl ?_
    refine z_iload 4 hc dX11_tryWords_68 rfl ?_
    refine z_iconst hc dX11_tryWords_70 ?_
    refine z_iadd hc dX11_tryWords_71 ?_
    refine z_iload 9 hc dX11_tryWords_72 rfl ?_
    obtain ⟨r5, hr5, h⟩ := z_b_some h
    refine z_callSJ [.ref (a v0.toNat), .ref (a 99), .ref (a 24), .int (zI v3), .int (zI (v4 + 1)), .int (zI v10)] hc hap o_X11_tryWords ml_RX11_262 (fun l hl => hrec l hl hv0 hr5) (by omega) rfl rfl (Nat.le_of_ble_eq_true rfl) (Nat.zero_le _) (Nat.zero_le _) dX11_tryWords_74 ?_
    refine z_lstore [(11, .long (zJ r5)), (0, .ref (a v0.toNat)), (1, .ref (a 99)), (2, .ref (a 24)), (3, .int (zI v3)), (4, .int (zI v4)), (5, .int (zI v5)), (6, .int (zI v6)), (7, .int (zI v7)), (8, .long (zJ v8)), (10, .int (zI v10))] hc dX11_tryWords_77 (by decide) rfl ?_
    refine z_lload 0 hc dX11_tryWords_79 rfl ?_
    refine z_ldc2 1152921504606846976 hc kc_RX11_351 dX11_tryWords_81 rfl ?_
    refine z_lcmp_ge (tgt := 109) hc dX11_tryWords_84 dX11_tryWords_85 (by decide) h (fun c84 h => ?_) (fun c84 h => ?_)
    · refine z_lload 9 hc dX11_tryWords_88 rfl ?_
      refine z_lload 0 hc dX11_tryWords_90 rfl ?_
      refine z_iload 8 hc dX11_tryWords_92 rfl ?_
      refine z_aload_n (i := 1) 2 hc dX11_tryWords_94 rfl rfl ?_
      refine z_aload_n (i := 2) 3 hc dX11_tryWords_95 rfl rfl ?_
      refine z_iload 6 hc dX11_tryWords_96 rfl ?_
      refine z_iload 10 hc dX11_tryWords_98 rfl ?_
      obtain ⟨r7, hr7, h⟩ := z_b_some h
      refine z_callSJ [.int (zI v7), .ref (a 99), .ref (a 24), .int (zI v5), .int (zI v10)] hc hap o_X11_trySayings ml_RX11_367 (fun l hl => c_X11_trySayings hl  hr7) (by omega) rfl rfl (Nat.le_of_ble_eq_true rfl) (Nat.zero_le _) (Nat.zero_le _) dX11_tryWords_100 ?_
      refine z_ladd hc dX11_tryWords_103 ?_
      refine z_minJ hc ml_RX11_132 h ⟨rfl, rfl, Nat.le_of_ble_eq_true rfl, by omega⟩ dX11_tryWords_104 (fun h => ?_)
      refine z_lstore [(8, .long (zJ (min v8 (r5 + r7)))), (11, .long (zJ r5)), (0, .ref (a v0.toNat)), (1, .ref (a 99)), (2, .ref (a 24)), (3, .int (zI v3)), (4, .int (zI v4)), (5, .int (zI v5)), (6, .int (zI v6)), (7, .int (zI v7)), (10, .int (zI v10))] hc dX11_tryWords_107 (by decide) rfl ?_
      refine z_sub [(0, .ref (a v0.toNat)), (1, .ref (a 99)), (2, .ref (a 24)), (3, .int (zI v3)), (4, .int (zI v4)), (5, .int (zI v5)), (6, .int (zI v6)), (7, .int (zI v7)), (8, .long (zJ (min v8 (r5 + r7)))), (10, .int (zI v10))] [2, 3, 4, 5, 6, 7, 8, 9, 0, 10] rfl ?_
      exact w_X11_tryWords_109 hc hap hrec hl9 hv0 k1 k2 h
    · refine z_sub [(0, .ref (a v0.toNat)), (1, .ref (a 99)), (2, .ref (a 24)), (3, .int (zI v3)), (4, .int (zI v4)), (5, .int (zI v5)), (6, .int (zI v6)), (7, .int (zI v7)), (8, .long (zJ v8)), (10, .int (zI v10))] [1, 2, 3, 4, 5, 6, 7, 8, 9, 10] rfl ?_
      exact w_X11_tryWords_109 hc hap hrec hl9 hv0 k1 k2 h
def J_X11_tryWords_141 (rec : Int → Int → Int → Int → z_St → Option Int) (s0 : Int) (st : z_St) : Option (Int) :=
  some s0
set_option maxRecDepth 100000 in
set_option maxHeartbeats 4000000 in
theorem w_X11_tryWords_141 {κ : zK} {a : Nat → Nat} {s0 : Int} {st : z_St} {o : Int} {lam9 : Nat} {rec : Int → Int → Int → Int → z_St → Option Int} (hc : z_C κ RX11 cX11_tryWords 13 (lam9 + 1) 0 0) (hap : z_AP κ a z_N) (hrec : ∀ (l : Launch) (hl : l.stackTraces = false) {x0 x3 x4 x5 : Int} {st : z_St} {o : Int} (hx0 : z_isRW x0), rec x0 x3 x4 x5 st = some o → z_M 1 l yX11_tryWords cX11_tryWords 13 (some .long) lam9 z_T z_N a [.ref (a x0.toNat), .ref (a 99), .ref (a 24), .int (zI x3), .int (zI x4), .int (zI x5)] st o st) (hl9 : 17 ≤ lam9) (he : z_E 1 κ (some .long) z_T z_N a o st) (h : J_X11_tryWords_141 rec s0 st = some o) : z_V κ z_T z_N a 0 0 141 [] [.long (zJ s0)] st := by
  unfold J_X11_tryWords_141 at h
  have h := Option.some.inj h
  subst h
  exact z_retJ hc he dX11_tryWords_141
def J_X11_tryWords_38 (rec : Int → Int → Int → Int → z_St → Option Int) (s0 : Int) (st : z_St) : Option (Int) :=
  some s0
set_option maxRecDepth 100000 in
set_option maxHeartbeats 4000000 in
theorem w_X11_tryWords_38 {κ : zK} {a : Nat → Nat} {s0 : Int} {st : z_St} {o : Int} {lam9 : Nat} {rec : Int → Int → Int → Int → z_St → Option Int} (hc : z_C κ RX11 cX11_tryWords 13 (lam9 + 1) 0 0) (hap : z_AP κ a z_N) (hrec : ∀ (l : Launch) (hl : l.stackTraces = false) {x0 x3 x4 x5 : Int} {st : z_St} {o : Int} (hx0 : z_isRW x0), rec x0 x3 x4 x5 st = some o → z_M 1 l yX11_tryWords cX11_tryWords 13 (some .long) lam9 z_T z_N a [.ref (a x0.toNat), .ref (a 99), .ref (a 24), .int (zI x3), .int (zI x4), .int (zI x5)] st o st) (hl9 : 17 ≤ lam9) (he : z_E 1 κ (some .long) z_T z_N a o st) (h : J_X11_tryWords_38 rec s0 st = some o) : z_V κ z_T z_N a 0 0 38 [] [.long (zJ s0)] st := by
  unfold J_X11_tryWords_38 at h
  have h := Option.some.inj h
  subst h
  exact z_retJ hc he dX11_tryWords_38
def J_X11_tryWords_f (rec : Int → Int → Int → Int → z_St → Option Int) (x0 x3 x4 x5 : Int) (st : z_St) : Option (Int) :=
  z_b (J_X6_wordAt x0 (x4 - 1) st) fun r1 =>
  z_g (z32 x4 ∧ z32 (st x0 1)) (if x4 < st x0 1 then
    z_b (J_X6_wordAt x0 x4 st) fun r3 =>
    z_b (z_iter z_F (fun q9 : (Int × Int) => J_X11_tryWords_b58 rec x0 x3 x4 x5 r1 r3 q9.1 q9.2 st) (1152921504606846976, x5 + 1)) fun lx9 =>
      z_g (z64 lx9 ∧ z64 1152921504606846976) (if lx9 < 1152921504606846976 then
        z_b (J_X0_toll r1 r3 st) fun r10 =>
        J_X11_tryWords_141 rec (lx9 + r10) st
      else
        J_X11_tryWords_141 rec 1152921504606846976 st)
  else
    z_g (z32 x5 ∧ z32 x3) (if x5 = x3 then
      z_b (J_X0_toll r1 (-1) st) fun r12 =>
      J_X11_tryWords_38 rec r12 st
    else
      J_X11_tryWords_38 rec 1152921504606846976 st))
set_option maxRecDepth 100000 in
set_option maxHeartbeats 4000000 in
theorem w_X11_tryWords {κ : zK} {a : Nat → Nat} {x0 x3 x4 x5 : Int} {st : z_St} {o : Int} {lam9 : Nat} {rec : Int → Int → Int → Int → z_St → Option Int} (hc : z_C κ RX11 cX11_tryWords 13 (lam9 + 1) 0 0) (hap : z_AP κ a z_N) (hrec : ∀ (l : Launch) (hl : l.stackTraces = false) {x0 x3 x4 x5 : Int} {st : z_St} {o : Int} (hx0 : z_isRW x0), rec x0 x3 x4 x5 st = some o → z_M 1 l yX11_tryWords cX11_tryWords 13 (some .long) lam9 z_T z_N a [.ref (a x0.toNat), .ref (a 99), .ref (a 24), .int (zI x3), .int (zI x4), .int (zI x5)] st o st) (hl9 : 17 ≤ lam9) (hx0 : z_isRW x0) (he : z_E 1 κ (some .long) z_T z_N a o st) (h : J_X11_tryWords_f rec x0 x3 x4 x5 st = some o) : z_V κ z_T z_N a 0 0 0 [(0, .ref (a x0.toNat)), (1, .ref (a 99)), (2, .ref (a 24)), (3, .int (zI x3)), (4, .int (zI x4)), (5, .int (zI x5))] [] st := by
  unfold J_X11_tryWords_f at h
  refine z_aload_n (i := 0) 0 hc dX11_tryWords_0 rfl rfl ?_
  refine z_iload 4 hc dX11_tryWords_1 rfl ?_
  refine z_iconst hc dX11_tryWords_3 ?_
  refine z_isub hc dX11_tryWords_4 ?_
  obtain ⟨r1, hr1, h⟩ := z_b_some h
  refine z_callVI [.int (zI (x4 - 1))] hc hap o_X6_wordAt ml_RX11_235 (fun l hl => c_X6_wordAt hl hx0 hr1) (by omega) (z_RW_T hx0) (z_RW_lt hx0) ⟨_, rfl, rfl⟩ rfl rfl (Nat.le_of_ble_eq_true rfl) (Nat.zero_le _) (Nat.zero_le _) dX11_tryWords_5 ?_
  refine z_istore [(6, .int (zI r1)), (0, .ref (a x0.toNat)), (1, .ref (a 99)), (2, .ref (a 24)), (3, .int (zI x3)), (4, .int (zI x4)), (5, .int (zI x5))] hc dX11_tryWords_8 (by decide) rfl ?_
  refine z_iload 5 hc dX11_tryWords_10 rfl ?_
  refine z_aload_n (i := 0) 1 hc dX11_tryWords_12 rfl rfl ?_
  refine z_getI (kI := x0) (jI := 1) hc fl_RX11_234 (z_RW_T hx0) (z_RW_lt hx0) (z_RW_c hx0) rfl rfl dX11_tryWords_13 ?_
  refine z_icmp_lt (tgt := 39) hc dX11_tryWords_16 (by decide) h (fun c16 h => ?_) (fun c16 h => ?_)
  · refine z_aload_n (i := 0) 1 hc dX11_tryWords_39 rfl rfl ?_
    refine z_iload 5 hc dX11_tryWords_40 rfl ?_
    obtain ⟨r3, hr3, h⟩ := z_b_some h
    refine z_callVI [.int (zI x4)] hc hap o_X6_wordAt ml_RX11_235 (fun l hl => c_X6_wordAt hl hx0 hr3) (by omega) (z_RW_T hx0) (z_RW_lt hx0) ⟨_, rfl, rfl⟩ rfl rfl (Nat.le_of_ble_eq_true rfl) (Nat.zero_le _) (Nat.zero_le _) dX11_tryWords_42 ?_
    refine z_istore [(7, .int (zI r3)), (6, .int (zI r1)), (0, .ref (a x0.toNat)), (1, .ref (a 99)), (2, .ref (a 24)), (3, .int (zI x3)), (4, .int (zI x4)), (5, .int (zI x5))] hc dX11_tryWords_45 (by decide) rfl ?_
    refine z_ldc2 1152921504606846976 hc kc_RX11_351 dX11_tryWords_47 rfl ?_
    refine z_lstore [(8, .long (zJ 1152921504606846976)), (7, .int (zI r3)), (6, .int (zI r1)), (0, .ref (a x0.toNat)), (1, .ref (a 99)), (2, .ref (a 24)), (3, .int (zI x3)), (4, .int (zI x4)), (5, .int (zI x5))] hc dX11_tryWords_50 (by decide) rfl ?_
    refine z_iload 8 hc dX11_tryWords_52 rfl ?_
    refine z_iconst hc dX11_tryWords_54 ?_
    refine z_iadd hc dX11_tryWords_55 ?_
    refine z_istore [(10, .int (zI (x5 + 1))), (8, .long (zJ 1152921504606846976)), (7, .int (zI r3)), (6, .int (zI r1)), (0, .ref (a x0.toNat)), (1, .ref (a 99)), (2, .ref (a 24)), (3, .int (zI x3)), (4, .int (zI x4)), (5, .int (zI x5))] hc dX11_tryWords_56 (by decide) rfl ?_
    obtain ⟨lx9, hlx9, h⟩ := z_b_some h
    refine z_sub [(0, .ref (a x0.toNat)), (1, .ref (a 99)), (2, .ref (a 24)), (3, .int (zI x3)), (4, .int (zI x4)), (5, .int (zI x5)), (6, .int (zI r1)), (7, .int (zI r3)), (8, .long (zJ 1152921504606846976)), (10, .int (zI (x5 + 1)))] [4, 5, 6, 7, 8, 9, 3, 2, 1, 0] rfl ?_
    refine z_loop (fun q9 : (Int × Int) => J_X11_tryWords_b58 rec x0 x3 x4 x5 r1 r3 q9.1 q9.2 st) (fun q9 : (Int × Int) => z_V κ z_T z_N a 0 0 58 [(0, .ref (a x0.toNat)), (1, .ref (a 99)), (2, .ref (a 24)), (3, .int (zI x3)), (4, .int (zI x4)), (5, .int (zI x5)), (6, .int (zI r1)), (7, .int (zI r3)), (8, .long (zJ q9.1)), (10, .int (zI q9.2))] [] st) (fun x9 : Int => z_V κ z_T z_N a 0 0 115 [(1, .ref (a 99)), (6, .int (zI r1)), (7, .int (zI r3)), (8, .long (zJ x9))] [] st) (fun q9 o9 hb k1 k2 => ?_) _ _ _ hlx9 ?_
    · exact w_X11_tryWords_b58 hc hap hrec hl9 hx0 k1 k2 hb
    · show z_V κ z_T z_N a 0 0 115 [(1, .ref (a 99)), (6, .int (zI r1)), (7, .int (zI r3)), (8, .long (zJ lx9))] [] st
      refine z_lload 3 hc dX11_tryWords_115 rfl ?_
      refine z_ldc2 1152921504606846976 hc kc_RX11_351 dX11_tryWords_117 rfl ?_
      refine z_lcmp_lt (tgt := 130) hc dX11_tryWords_120 dX11_tryWords_121 (by decide) h (fun c120 h => ?_) (fun c120 h => ?_)
      · refine z_lload 3 hc dX11_tryWords_130 rfl ?_
        refine z_aload_n (i := 1) 0 hc dX11_tryWords_132 rfl rfl ?_
        refine z_iload 1 hc dX11_tryWords_133 rfl ?_
        refine z_iload 2 hc dX11_tryWords_135 rfl ?_
        obtain ⟨r10, hr10, h⟩ := z_b_some h
        refine z_callVJ [.int (zI r1), .int (zI r3)] hc hap o_X0_toll ml_RX11_364 (fun l hl => c_X0_toll hl  hr10) (by omega) tT_99 (by decide) ⟨_, rfl, rfl⟩ rfl rfl (Nat.le_of_ble_eq_true rfl) (Nat.zero_le _) (Nat.zero_le _) dX11_tryWords_137 ?_
        refine z_ladd hc dX11_tryWords_140 ?_
        refine z_sub [] [] rfl ?_
        exact w_X11_tryWords_141 hc hap hrec hl9 he h
      · refine z_ldc2 1152921504606846976 hc kc_RX11_351 dX11_tryWords_124 rfl ?_
        refine z_goto (tgt := 141) hc dX11_tryWords_127 (by decide) ?_
        refine z_sub [] [] rfl ?_
        exact w_X11_tryWords_141 hc hap hrec hl9 he h
  · refine z_iload 6 hc dX11_tryWords_19 rfl ?_
    refine z_iload_n (i := 3) 4 hc dX11_tryWords_21 rfl rfl ?_
    refine z_icmp_ne (tgt := 35) hc dX11_tryWords_22 (by decide) h (fun c22 h => ?_) (fun c22 h => ?_)
    · refine z_aload_n (i := 1) 2 hc dX11_tryWords_25 rfl rfl ?_
      refine z_iload 0 hc dX11_tryWords_26 rfl ?_
      refine z_iconst hc dX11_tryWords_28 ?_
      obtain ⟨r12, hr12, h⟩ := z_b_some h
      refine z_callVJ [.int (zI r1), .int (zI (-1))] hc hap o_X0_toll ml_RX11_364 (fun l hl => c_X0_toll hl  hr12) (by omega) tT_99 (by decide) ⟨_, rfl, rfl⟩ rfl rfl (Nat.le_of_ble_eq_true rfl) (Nat.zero_le _) (Nat.zero_le _) dX11_tryWords_29 ?_
      refine z_goto (tgt := 38) hc dX11_tryWords_32 (by decide) ?_
      refine z_sub [] [] rfl ?_
      exact w_X11_tryWords_38 hc hap hrec hl9 he h
    · refine z_ldc2 1152921504606846976 hc kc_RX11_351 dX11_tryWords_35 rfl ?_
      refine z_sub [] [] rfl ?_
      exact w_X11_tryWords_38 hc hap hrec hl9 he h
def J_X11_tryWords : Nat → Int → Int → Int → Int → z_St → Option Int
  | 0 => fun _ _ _ _ _ => none
  | n + 1 => J_X11_tryWords_f (J_X11_tryWords n)
set_option maxRecDepth 100000 in
set_option maxHeartbeats 4000000 in
theorem cn_X11_tryWords {a : Nat → Nat} (n : Nat) : ∀ (l : Launch) (hl : l.stackTraces = false) {x0 x3 x4 x5 : Int} {st : z_St} {o : Int} (hx0 : z_isRW x0), J_X11_tryWords n x0 x3 x4 x5 st = some o → z_M 1 l yX11_tryWords cX11_tryWords 13 (some .long) (17 + n) z_T z_N a [.ref (a x0.toNat), .ref (a 99), .ref (a 24), .int (zI x3), .int (zI x4), .int (zI x5)] st o st := by
  induction n with
  | zero => intro l hl; intros; rename_i h; cases h
  | succ n ih =>
    intro l hl x0 x3 x4 x5 st o hx0 h
    exact z_of hl (by decide +kernel) (Nat.le_of_ble_eq_true rfl) (fun κ hc hap he => w_X11_tryWords hc hap ih (Nat.le_add_right _ _) hx0 he h)
theorem c_X11_tryWords {l : Launch} (hl : l.stackTraces = false) {a : Nat → Nat} {x0 x3 x4 x5 : Int} {st : z_St} {o : Int} (hx0 : z_isRW x0) (h : J_X11_tryWords 7 x0 x3 x4 x5 st = some o) : z_M 1 l yX11_tryWords cX11_tryWords 13 (some .long) 24 z_T z_N a [.ref (a x0.toNat), .ref (a 99), .ref (a 24), .int (zI x3), .int (zI x4), .int (zI x5)] st o st := cn_X11_tryWords 7 l hl hx0 h
theorem dX11_weightAnew_0 : decode cX11_weightAnew 0 = .ok (.aload_n 0, 1) := by decide +kernel
theorem dX11_weightAnew_1 : decode cX11_weightAnew 1 = .ok (.iload_n 1, 1) := by decide +kernel
theorem dX11_weightAnew_2 : decode cX11_weightAnew 2 = .ok (.invokevirtual 227, 3) := by decide +kernel
theorem dX11_weightAnew_5 : decode cX11_weightAnew 5 = .ok (.aload_n 0, 1) := by decide +kernel
theorem dX11_weightAnew_6 : decode cX11_weightAnew 6 = .ok (.invokevirtual 216, 3) := by decide +kernel
theorem dX11_weightAnew_9 : decode cX11_weightAnew 9 = .ok (.aload_n 0, 1) := by decide +kernel
theorem dX11_weightAnew_10 : decode cX11_weightAnew 10 = .ok (.getfield 68, 3) := by decide +kernel
theorem dX11_weightAnew_13 : decode cX11_weightAnew 13 = .ok (.iload_n 1, 1) := by decide +kernel
theorem dX11_weightAnew_14 : decode cX11_weightAnew 14 = .ok (.invokevirtual 231, 3) := by decide +kernel
theorem dX11_weightAnew_17 : decode cX11_weightAnew 17 = .ok (.aload_n 0, 1) := by decide +kernel
theorem dX11_weightAnew_18 : decode cX11_weightAnew 18 = .ok (.getfield 68, 3) := by decide +kernel
theorem dX11_weightAnew_21 : decode cX11_weightAnew 21 = .ok (.aload_n 0, 1) := by decide +kernel
theorem dX11_weightAnew_22 : decode cX11_weightAnew 22 = .ok (.getfield 33, 3) := by decide +kernel
theorem dX11_weightAnew_25 : decode cX11_weightAnew 25 = .ok (.aload_n 0, 1) := by decide +kernel
theorem dX11_weightAnew_26 : decode cX11_weightAnew 26 = .ok (.getfield 19, 3) := by decide +kernel
theorem dX11_weightAnew_29 : decode cX11_weightAnew 29 = .ok (.aload_n 0, 1) := by decide +kernel
theorem dX11_weightAnew_30 : decode cX11_weightAnew 30 = .ok (.getfield 12, 3) := by decide +kernel
theorem dX11_weightAnew_33 : decode cX11_weightAnew 33 = .ok (.getfield 84, 3) := by decide +kernel
theorem dX11_weightAnew_36 : decode cX11_weightAnew 36 = .ok (.iconst 0, 1) := by decide +kernel
theorem dX11_weightAnew_37 : decode cX11_weightAnew 37 = .ok (.iconst 0, 1) := by decide +kernel
theorem dX11_weightAnew_38 : decode cX11_weightAnew 38 = .ok (.invokestatic 262, 3) := by decide +kernel
theorem dX11_weightAnew_41 : decode cX11_weightAnew 41 = .ok (.invokestatic 223, 3) := by decide +kernel
theorem dX11_weightAnew_44 : decode cX11_weightAnew 44 = .ok (.lreturn, 1) := by decide +kernel
def J_X11_weightAnew (x1 : Int) (st : z_St) : Option (z_R (Int × z_St)) :=
  z_x (J_X11_checkRow x1 st) fun _ =>
    z_b (J_X11_readyTable st) fun st4 =>
    z_b (J_X6_read 158 x1 st4) fun st6 =>
    z_b (J_X11_tryWords 7 158 (st6 1 2) 0 0 st6) fun r7 =>
    z_b (J_X11_orNone r7 st6) fun r9 =>
    some (.inl (r9, st6))
set_option maxRecDepth 100000 in
set_option maxHeartbeats 4000000 in
theorem w_X11_weightAnew {κ : zK} {a : Nat → Nat} {x1 : Int} {st : z_St} {o : z_R (Int × z_St)} (hc : z_C κ RX11 cX11_weightAnew 2 25 (z_mc o) (z_ms o)) (hap : z_AP κ a z_N) (he : z_EX 1 κ (some .long) z_T z_N a o) (h : J_X11_weightAnew x1 st = some o) : z_V κ z_T z_N a 0 0 0 [(0, .ref (a 0)), (1, .int (zI x1))] [] st := by
  unfold J_X11_weightAnew at h
  refine z_aload_n (i := 0) 0 hc dX11_weightAnew_0 rfl rfl ?_
  refine z_iload_n (i := 1) 1 hc dX11_weightAnew_1 rfl rfl ?_
  rcases z_x_cases h with ⟨u9, hr1, h⟩ | ⟨q9, hr1, h⟩
  · refine z_xcallVV [.int (zI x1)] hc hap o_X11_checkRow ml_RX11_227 (fun l hl => c_X11_checkRow_r hl  hr1) (by decide) tT_0 (by decide) ⟨_, rfl, rfl⟩ rfl rfl (Nat.le_of_ble_eq_true rfl) (Nat.zero_le _) (Nat.zero_le _) dX11_weightAnew_2 ?_
    refine z_aload_n (i := 0) 0 hc dX11_weightAnew_5 rfl rfl ?_
    obtain ⟨st4, hr3, h⟩ := z_b_some h
    refine z_callVV [] hc hap o_X11_readyTable ml_RX11_216 (fun l hl => c_X11_readyTable hl  hr3) (by decide) tT_0 (by decide) ⟨_, rfl, rfl⟩ rfl rfl (Nat.le_of_ble_eq_true rfl) (Nat.zero_le _) (Nat.zero_le _) dX11_weightAnew_6 ?_
    refine z_aload_n (i := 0) 0 hc dX11_weightAnew_9 rfl rfl ?_
    refine z_getA (k' := 158) hc fl_RX11_68 tT_0 (by decide) rfl rfl dX11_weightAnew_10 ?_
    refine z_iload_n (i := 1) 1 hc dX11_weightAnew_13 rfl rfl ?_
    obtain ⟨st6, hr5, h⟩ := z_b_some h
    refine z_callVV [.int (zI x1)] hc hap o_X6_read ml_RX11_231 (fun l hl => c_X6_read hl (by decide) hr5) (by decide) tT_158 (by decide) ⟨_, rfl, rfl⟩ rfl rfl (Nat.le_of_ble_eq_true rfl) (Nat.zero_le _) (Nat.zero_le _) dX11_weightAnew_14 ?_
    refine z_aload_n (i := 0) 0 hc dX11_weightAnew_17 rfl rfl ?_
    refine z_getA (k' := 158) hc fl_RX11_68 tT_0 (by decide) rfl rfl dX11_weightAnew_18 ?_
    refine z_aload_n (i := 0) 0 hc dX11_weightAnew_21 rfl rfl ?_
    refine z_getA (k' := 99) hc fl_RX11_33 tT_0 (by decide) rfl rfl dX11_weightAnew_22 ?_
    refine z_aload_n (i := 0) 0 hc dX11_weightAnew_25 rfl rfl ?_
    refine z_getA (k' := 24) hc fl_RX11_19 tT_0 (by decide) rfl rfl dX11_weightAnew_26 ?_
    refine z_aload_n (i := 0) 0 hc dX11_weightAnew_29 rfl rfl ?_
    refine z_getA (k' := 1) hc fl_RX11_12 tT_0 (by decide) rfl rfl dX11_weightAnew_30 ?_
    refine z_getI (kI := 1) (jI := 2) hc fl_RX11_84 tT_1 (by decide) rfl rfl rfl dX11_weightAnew_33 ?_
    refine z_iconst hc dX11_weightAnew_36 ?_
    refine z_iconst hc dX11_weightAnew_37 ?_
    obtain ⟨r7, hr7, h⟩ := z_b_some h
    refine z_callSJ [.ref (a 158), .ref (a 99), .ref (a 24), .int (zI (st6 1 2)), .int (zI 0), .int (zI 0)] hc hap o_X11_tryWords ml_RX11_262 (fun l hl => c_X11_tryWords hl (by decide) hr7) (by decide) rfl rfl (Nat.le_of_ble_eq_true rfl) (Nat.zero_le _) (Nat.zero_le _) dX11_weightAnew_38 ?_
    obtain ⟨r9, hr9, h⟩ := z_b_some h
    refine z_callSJ [.long (zJ r7)] hc hap o_X11_orNone ml_RX11_223 (fun l hl => c_X11_orNone hl  hr9) (by decide) rfl rfl (Nat.le_of_ble_eq_true rfl) (Nat.zero_le _) (Nat.zero_le _) dX11_weightAnew_41 ?_
    have h := Option.some.inj h
    subst h
    exact z_retXJ hc he rfl dX11_weightAnew_44
  · obtain ⟨e9, st9⟩ := q9
    subst h
    refine z_xthrV (kd := 2) [.int (zI x1)] hc hap o_X11_checkRow ml_RX11_227 (fun l hl => c_X11_checkRow_t hl  hr1) (by decide) tT_0 (by decide) ⟨_, rfl, rfl⟩ rfl rfl (Nat.le_of_ble_eq_true rfl) (Nat.le_refl 1) (Nat.le_refl 6) dX11_weightAnew_2 (z_outX hc he rfl)
set_option maxRecDepth 100000 in
set_option maxHeartbeats 4000000 in
theorem c_X11_weightAnew {l : Launch} (hl : l.stackTraces = false) {a : Nat → Nat} {x1 : Int} {st : z_St} {o : z_R (Int × z_St)} (h : J_X11_weightAnew x1 st = some o) : z_MX 1 l yX11_weightAnew cX11_weightAnew 2 (some .long) 25 z_T z_N a [.ref (a 0), .int (zI x1)] st o := z_ofX hl (by decide +kernel) (Nat.le_of_ble_eq_true rfl) (fun κ hc hap he => w_X11_weightAnew hc hap he h)
theorem c_X11_weightAnew_r {l : Launch} (hl : l.stackTraces = false) {a : Nat → Nat} {x1 : Int} {st : z_St} {v9 : Int × z_St} (h : J_X11_weightAnew x1 st = some (.inl v9)) : z_MX 1 l yX11_weightAnew cX11_weightAnew 2 (some .long) 25 z_T z_N a [.ref (a 0), .int (zI x1)] st (.inl v9) := by
  have h9 := c_X11_weightAnew (a := a) (o := .inl v9) hl h
  exact h9
theorem c_X11_weightAnew_t {l : Launch} (hl : l.stackTraces = false) {a : Nat → Nat} {x1 : Int} {st : z_St} {e9 : Nat} {st9 : z_St} (h : J_X11_weightAnew x1 st = some (.inr (e9, st9))) : z_MX 1 l yX11_weightAnew cX11_weightAnew 2 (some .long) 25 z_T z_N a [.ref (a 0), .int (zI x1)] st (.inr (e9, st9)) := by
  have h9 := c_X11_weightAnew (a := a) (o := .inr (e9, st9)) hl h
  exact h9
theorem dX11_checkAtLeast_0 : decode cX11_checkAtLeast 0 = .ok (.lload_n 0, 1) := by decide +kernel
theorem dX11_checkAtLeast_1 : decode cX11_checkAtLeast 1 = .ok (.lload_n 2, 1) := by decide +kernel
theorem dX11_checkAtLeast_2 : decode cX11_checkAtLeast 2 = .ok (.lcmp, 1) := by decide +kernel
theorem dX11_checkAtLeast_3 : decode cX11_checkAtLeast 3 = .ok (.ifCond .ge 14, 3) := by decide +kernel
theorem dX11_checkAtLeast_6 : decode cX11_checkAtLeast 6 = .ok (.new 319, 3) := by decide +kernel
theorem dX11_checkAtLeast_9 : decode cX11_checkAtLeast 9 = .ok (.dup, 1) := by decide +kernel
theorem dX11_checkAtLeast_10 : decode cX11_checkAtLeast 10 = .ok (.ldc_w 321, 3) := by decide +kernel
theorem dX11_checkAtLeast_13 : decode cX11_checkAtLeast 13 = .ok (.invokespecial 323, 3) := by decide +kernel
theorem dX11_checkAtLeast_16 : decode cX11_checkAtLeast 16 = .ok (.athrow, 1) := by decide +kernel
theorem dX11_checkAtLeast_17 : decode cX11_checkAtLeast 17 = .ok (.return_, 1) := by decide +kernel
def J_X11_checkAtLeast (x0 x2 : Int) (st : z_St) : Option (z_R Unit) :=
  z_g (z64 x0 ∧ z64 x2) (if x0 < x2 then
    some (.inr (1, st))
  else
    some (.inl ()))
set_option maxRecDepth 100000 in
set_option maxHeartbeats 4000000 in
theorem w_X11_checkAtLeast {κ : zK} {a : Nat → Nat} {x0 x2 : Int} {st : z_St} {o : z_R Unit} (hc : z_C κ RX11 cX11_checkAtLeast 4 8 (z_mc (z_cvU st o)) (z_ms (z_cvU st o))) (hap : z_AP κ a z_N) (he : z_EX 2 κ none z_T z_N a (z_cvU st o)) (h : J_X11_checkAtLeast x0 x2 st = some o) : z_V κ z_T z_N a 0 0 0 [(0, .long (zJ x0)), (2, .long (zJ x2))] [] st := by
  unfold J_X11_checkAtLeast at h
  refine z_lload_n (i := 0) 0 hc dX11_checkAtLeast_0 rfl rfl ?_
  refine z_lload_n (i := 2) 1 hc dX11_checkAtLeast_1 rfl rfl ?_
  refine z_lcmp_ge (tgt := 17) hc dX11_checkAtLeast_2 dX11_checkAtLeast_3 (by decide) h (fun c2 h => ?_) (fun c2 h => ?_)
  · have h := Option.some.inj h
    subst h
    exact z_throwW (text := "out of range") hc he rfl hap oT_RX11_319 (by decide +kernel) (by decide) (Nat.le_of_ble_eq_true rfl) dX11_checkAtLeast_6 dX11_checkAtLeast_9 dX11_checkAtLeast_10 dX11_checkAtLeast_13 dX11_checkAtLeast_16
  · have h := Option.some.inj h
    subst h
    exact z_retXV hc he rfl dX11_checkAtLeast_17
set_option maxRecDepth 100000 in
set_option maxHeartbeats 4000000 in
theorem c_X11_checkAtLeast {l : Launch} (hl : l.stackTraces = false) {a : Nat → Nat} {x0 x2 : Int} {st : z_St} {o : z_R Unit} (h : J_X11_checkAtLeast x0 x2 st = some o) : z_MX 2 l yX11_checkAtLeast cX11_checkAtLeast 4 none 8 z_T z_N a [.long (zJ x0), .long (zJ x2)] st (z_cvU st o) := z_ofX hl (by decide +kernel) (Nat.le_of_ble_eq_true rfl) (fun κ hc hap he => w_X11_checkAtLeast hc hap he h)
theorem c_X11_checkAtLeast_r {l : Launch} (hl : l.stackTraces = false) {a : Nat → Nat} {x0 x2 : Int} {st : z_St} {v9 : Unit} (h : J_X11_checkAtLeast x0 x2 st = some (.inl v9)) : z_MX 2 l yX11_checkAtLeast cX11_checkAtLeast 4 none 8 z_T z_N a [.long (zJ x0), .long (zJ x2)] st (.inl (0, st)) := by
  have h9 := c_X11_checkAtLeast (a := a) (o := .inl v9) hl h
  exact h9
theorem c_X11_checkAtLeast_t {l : Launch} (hl : l.stackTraces = false) {a : Nat → Nat} {x0 x2 : Int} {st : z_St} {e9 : Nat} {st9 : z_St} (h : J_X11_checkAtLeast x0 x2 st = some (.inr (e9, st9))) : z_MX 2 l yX11_checkAtLeast cX11_checkAtLeast 4 none 8 z_T z_N a [.long (zJ x0), .long (zJ x2)] st (.inr (e9, st9)) := by
  have h9 := c_X11_checkAtLeast (a := a) (o := .inr (e9, st9)) hl h
  exact h9
theorem dX11_best_0 : decode cX11_best 0 = .ok (.iload_n 1, 1) := by decide +kernel
theorem dX11_best_1 : decode cX11_best 1 = .ok (.i2l, 1) := by decide +kernel
theorem dX11_best_2 : decode cX11_best 2 = .ok (.lconst 0, 1) := by decide +kernel
theorem dX11_best_3 : decode cX11_best 3 = .ok (.invokestatic 266, 3) := by decide +kernel
theorem dX11_best_6 : decode cX11_best 6 = .ok (.aload_n 0, 1) := by decide +kernel
theorem dX11_best_7 : decode cX11_best 7 = .ok (.invokevirtual 141, 3) := by decide +kernel
theorem dX11_best_10 : decode cX11_best 10 = .ok (.aload_n 0, 1) := by decide +kernel
theorem dX11_best_11 : decode cX11_best 11 = .ok (.getfield 40, 3) := by decide +kernel
theorem dX11_best_14 : decode cX11_best 14 = .ok (.iload_n 1, 1) := by decide +kernel
theorem dX11_best_15 : decode cX11_best 15 = .ok (.invokevirtual 270, 3) := by decide +kernel
theorem dX11_best_18 : decode cX11_best 18 = .ok (.ireturn, 1) := by decide +kernel
def J_X11_best (x1 : Int) (st : z_St) : Option (z_R (Int × z_St)) :=
  z_g (z32 x1) <|
  z_x (J_X11_checkAtLeast x1 0 st) fun _ =>
    z_b (J_X11_readyRows st) fun st4 =>
    z_b (J_X5_numberAt x1 st4) fun r5 =>
    some (.inl (r5.1, r5.2))
set_option maxRecDepth 100000 in
set_option maxHeartbeats 4000000 in
theorem w_X11_best {κ : zK} {a : Nat → Nat} {x1 : Int} {st : z_St} {o : z_R (Int × z_St)} (hc : z_C κ RX11 cX11_best 2 13 (z_mc o) (z_ms o)) (hap : z_AP κ a z_N) (he : z_EX 0 κ (some .int) z_T z_N a o) (h : J_X11_best x1 st = some o) : z_V κ z_T z_N a 0 0 0 [(0, .ref (a 0)), (1, .int (zI x1))] [] st := by
  unfold J_X11_best at h
  refine z_iload_n (i := 1) 1 hc dX11_best_0 rfl rfl ?_
  refine z_i2l hc dX11_best_1 h (fun h => ?_)
  refine z_lconst 0 hc dX11_best_2 rfl ?_
  rcases z_x_cases h with ⟨u9, hr1, h⟩ | ⟨q9, hr1, h⟩
  · refine z_xcallSV [.long (zJ x1), .long (zJ 0)] hc hap o_X11_checkAtLeast ml_RX11_266 (fun l hl => c_X11_checkAtLeast_r hl  hr1) (by decide) rfl rfl (Nat.le_of_ble_eq_true rfl) (Nat.zero_le _) (Nat.zero_le _) dX11_best_3 ?_
    refine z_aload_n (i := 0) 0 hc dX11_best_6 rfl rfl ?_
    obtain ⟨st4, hr3, h⟩ := z_b_some h
    refine z_callVV [] hc hap o_X11_readyRows ml_RX11_141 (fun l hl => c_X11_readyRows hl  hr3) (by decide) tT_0 (by decide) ⟨_, rfl, rfl⟩ rfl rfl (Nat.le_of_ble_eq_true rfl) (Nat.zero_le _) (Nat.zero_le _) dX11_best_7 ?_
    refine z_aload_n (i := 0) 0 hc dX11_best_10 rfl rfl ?_
    refine z_getA (k' := 134) hc fl_RX11_40 tT_0 (by decide) rfl rfl dX11_best_11 ?_
    refine z_iload_n (i := 1) 1 hc dX11_best_14 rfl rfl ?_
    obtain ⟨r5, hr5, h⟩ := z_b_some h
    refine z_callVI [.int (zI x1)] hc hap o_X5_numberAt ml_RX11_270 (fun l hl => c_X5_numberAt hl  hr5) (by decide) tT_134 (by decide) ⟨_, rfl, rfl⟩ rfl rfl (Nat.le_of_ble_eq_true rfl) (Nat.zero_le _) (Nat.zero_le _) dX11_best_15 ?_
    have h := Option.some.inj h
    subst h
    exact z_retXI hc he rfl dX11_best_18
  · obtain ⟨e9, st9⟩ := q9
    subst h
    refine z_xthrS (kd := 2) [.long (zJ x1), .long (zJ 0)] hc hap o_X11_checkAtLeast ml_RX11_266 (fun l hl => c_X11_checkAtLeast_t hl  hr1) (by decide) rfl rfl (Nat.le_of_ble_eq_true rfl) (Nat.le_refl 1) (Nat.le_refl 6) dX11_best_3 (z_outX hc he rfl)
set_option maxRecDepth 100000 in
set_option maxHeartbeats 4000000 in
theorem c_X11_best {l : Launch} (hl : l.stackTraces = false) {a : Nat → Nat} {x1 : Int} {st : z_St} {o : z_R (Int × z_St)} (h : J_X11_best x1 st = some o) : z_MX 0 l yX11_best cX11_best 2 (some .int) 13 z_T z_N a [.ref (a 0), .int (zI x1)] st o := z_ofX hl (by decide +kernel) (Nat.le_of_ble_eq_true rfl) (fun κ hc hap he => w_X11_best hc hap he h)
theorem c_X11_best_r {l : Launch} (hl : l.stackTraces = false) {a : Nat → Nat} {x1 : Int} {st : z_St} {v9 : Int × z_St} (h : J_X11_best x1 st = some (.inl v9)) : z_MX 0 l yX11_best cX11_best 2 (some .int) 13 z_T z_N a [.ref (a 0), .int (zI x1)] st (.inl v9) := by
  have h9 := c_X11_best (a := a) (o := .inl v9) hl h
  exact h9
theorem c_X11_best_t {l : Launch} (hl : l.stackTraces = false) {a : Nat → Nat} {x1 : Int} {st : z_St} {e9 : Nat} {st9 : z_St} (h : J_X11_best x1 st = some (.inr (e9, st9))) : z_MX 0 l yX11_best cX11_best 2 (some .int) 13 z_T z_N a [.ref (a 0), .int (zI x1)] st (.inr (e9, st9)) := by
  have h9 := c_X11_best (a := a) (o := .inr (e9, st9)) hl h
  exact h9
theorem dX11_found_0 : decode cX11_found 0 = .ok (.lload_n 1, 1) := by decide +kernel
theorem dX11_found_1 : decode cX11_found 1 = .ok (.lconst 0, 1) := by decide +kernel
theorem dX11_found_2 : decode cX11_found 2 = .ok (.invokestatic 266, 3) := by decide +kernel
theorem dX11_found_5 : decode cX11_found 5 = .ok (.iload_n 3, 1) := by decide +kernel
theorem dX11_found_6 : decode cX11_found 6 = .ok (.i2l, 1) := by decide +kernel
theorem dX11_found_7 : decode cX11_found 7 = .ok (.lconst 1, 1) := by decide +kernel
theorem dX11_found_8 : decode cX11_found 8 = .ok (.invokestatic 266, 3) := by decide +kernel
theorem dX11_found_11 : decode cX11_found 11 = .ok (.iload 4, 2) := by decide +kernel
theorem dX11_found_13 : decode cX11_found 13 = .ok (.iconst 0, 1) := by decide +kernel
theorem dX11_found_14 : decode cX11_found 14 = .ok (.iconst 2, 1) := by decide +kernel
theorem dX11_found_15 : decode cX11_found 15 = .ok (.invokestatic 112, 3) := by decide +kernel
theorem dX11_found_18 : decode cX11_found 18 = .ok (.aload_n 0, 1) := by decide +kernel
theorem dX11_found_19 : decode cX11_found 19 = .ok (.invokevirtual 216, 3) := by decide +kernel
theorem dX11_found_22 : decode cX11_found 22 = .ok (.aload_n 0, 1) := by decide +kernel
theorem dX11_found_23 : decode cX11_found 23 = .ok (.getfield 47, 3) := by decide +kernel
theorem dX11_found_26 : decode cX11_found 26 = .ok (.aload_n 0, 1) := by decide +kernel
theorem dX11_found_27 : decode cX11_found 27 = .ok (.getfield 33, 3) := by decide +kernel
theorem dX11_found_30 : decode cX11_found 30 = .ok (.aload_n 0, 1) := by decide +kernel
theorem dX11_found_31 : decode cX11_found 31 = .ok (.getfield 19, 3) := by decide +kernel
theorem dX11_found_34 : decode cX11_found 34 = .ok (.getfield 186, 3) := by decide +kernel
theorem dX11_found_37 : decode cX11_found 37 = .ok (.aload_n 0, 1) := by decide +kernel
theorem dX11_found_38 : decode cX11_found 38 = .ok (.getfield 12, 3) := by decide +kernel
theorem dX11_found_41 : decode cX11_found 41 = .ok (.getfield 84, 3) := by decide +kernel
theorem dX11_found_44 : decode cX11_found 44 = .ok (.lload_n 1, 1) := by decide +kernel
theorem dX11_found_45 : decode cX11_found 45 = .ok (.iload_n 3, 1) := by decide +kernel
theorem dX11_found_46 : decode cX11_found 46 = .ok (.invokevirtual 273, 3) := by decide +kernel
theorem dX11_found_49 : decode cX11_found 49 = .ok (.iload 4, 2) := by decide +kernel
theorem dX11_found_51 : decode cX11_found 51 = .ok (.ifCond .ne 12, 3) := by decide +kernel
theorem dX11_found_54 : decode cX11_found 54 = .ok (.aload_n 0, 1) := by decide +kernel
theorem dX11_found_55 : decode cX11_found 55 = .ok (.getfield 47, 3) := by decide +kernel
theorem dX11_found_58 : decode cX11_found 58 = .ok (.getfield 277, 3) := by decide +kernel
theorem dX11_found_61 : decode cX11_found 61 = .ok (.i2l, 1) := by decide +kernel
theorem dX11_found_62 : decode cX11_found 62 = .ok (.lreturn, 1) := by decide +kernel
theorem dX11_found_63 : decode cX11_found 63 = .ok (.iload 4, 2) := by decide +kernel
theorem dX11_found_65 : decode cX11_found 65 = .ok (.iconst 1, 1) := by decide +kernel
theorem dX11_found_66 : decode cX11_found 66 = .ok (.if_icmp .ne 13, 3) := by decide +kernel
theorem dX11_found_69 : decode cX11_found 69 = .ok (.aload_n 0, 1) := by decide +kernel
theorem dX11_found_70 : decode cX11_found 70 = .ok (.getfield 47, 3) := by decide +kernel
theorem dX11_found_73 : decode cX11_found 73 = .ok (.getfield 280, 3) := by decide +kernel
theorem dX11_found_76 : decode cX11_found 76 = .ok (.goto 11, 3) := by decide +kernel
theorem dX11_found_79 : decode cX11_found 79 = .ok (.aload_n 0, 1) := by decide +kernel
theorem dX11_found_80 : decode cX11_found 80 = .ok (.getfield 47, 3) := by decide +kernel
theorem dX11_found_83 : decode cX11_found 83 = .ok (.getfield 284, 3) := by decide +kernel
theorem dX11_found_86 : decode cX11_found 86 = .ok (.i2l, 1) := by decide +kernel
theorem dX11_found_87 : decode cX11_found 87 = .ok (.lreturn, 1) := by decide +kernel
def J_X11_found_87 (s0 : Int) (st : z_St) : Option (z_R (Int × z_St)) :=
  some (.inl (s0, st))
set_option maxRecDepth 100000 in
set_option maxHeartbeats 4000000 in
theorem w_X11_found_87 {κ : zK} {a : Nat → Nat} {s0 : Int} {st : z_St} {o : z_R (Int × z_St)} (hc : z_C κ RX11 cX11_found 5 13 (z_mc o) (z_ms o)) (hap : z_AP κ a z_N) (he : z_EX 1 κ (some .long) z_T z_N a o) (h : J_X11_found_87 s0 st = some o) : z_V κ z_T z_N a 0 0 87 [] [.long (zJ s0)] st := by
  unfold J_X11_found_87 at h
  have h := Option.some.inj h
  subst h
  exact z_retXJ hc he rfl dX11_found_87
def J_X11_found (x1 x3 x4 : Int) (st : z_St) : Option (z_R (Int × z_St)) :=
  z_x (J_X11_checkAtLeast x1 0 st) fun _ =>
    z_g (z32 x3) <|
    z_x (J_X11_checkAtLeast x3 1 st) fun _ =>
      z_x (J_X11_checkRange x4 0 2 st) fun _ =>
        z_b (J_X11_readyTable st) fun st8 =>
        z_b (J_X8_run (st8 24 4) (st8 1 2) x1 x3 st8) fun st10 =>
        z_g (z32 x4) (if x4 = 0 then
          z_g (z32 (st10 140 4)) <|
          some (.inl (st10 140 4, st10))
        else
          z_g (z32 x4 ∧ z32 1) (if x4 = 1 then
            J_X11_found_87 (st10 140 5) st10
          else
            z_g (z32 (st10 140 3)) <|
            J_X11_found_87 (st10 140 3) st10))
set_option maxRecDepth 100000 in
set_option maxHeartbeats 4000000 in
theorem w_X11_found {κ : zK} {a : Nat → Nat} {x1 x3 x4 : Int} {st : z_St} {o : z_R (Int × z_St)} (hc : z_C κ RX11 cX11_found 5 13 (z_mc o) (z_ms o)) (hap : z_AP κ a z_N) (he : z_EX 1 κ (some .long) z_T z_N a o) (h : J_X11_found x1 x3 x4 st = some o) : z_V κ z_T z_N a 0 0 0 [(0, .ref (a 0)), (1, .long (zJ x1)), (3, .int (zI x3)), (4, .int (zI x4))] [] st := by
  unfold J_X11_found at h
  refine z_lload_n (i := 1) 1 hc dX11_found_0 rfl rfl ?_
  refine z_lconst 0 hc dX11_found_1 rfl ?_
  rcases z_x_cases h with ⟨u9, hr1, h⟩ | ⟨q9, hr1, h⟩
  · refine z_xcallSV [.long (zJ x1), .long (zJ 0)] hc hap o_X11_checkAtLeast ml_RX11_266 (fun l hl => c_X11_checkAtLeast_r hl  hr1) (by decide) rfl rfl (Nat.le_of_ble_eq_true rfl) (Nat.zero_le _) (Nat.zero_le _) dX11_found_2 ?_
    refine z_iload_n (i := 3) 2 hc dX11_found_5 rfl rfl ?_
    refine z_i2l hc dX11_found_6 h (fun h => ?_)
    refine z_lconst 1 hc dX11_found_7 rfl ?_
    rcases z_x_cases h with ⟨u9, hr3, h⟩ | ⟨q9, hr3, h⟩
    · refine z_xcallSV [.long (zJ x3), .long (zJ 1)] hc hap o_X11_checkAtLeast ml_RX11_266 (fun l hl => c_X11_checkAtLeast_r hl  hr3) (by decide) rfl rfl (Nat.le_of_ble_eq_true rfl) (Nat.zero_le _) (Nat.zero_le _) dX11_found_8 ?_
      refine z_iload 3 hc dX11_found_11 rfl ?_
      refine z_iconst hc dX11_found_13 ?_
      refine z_iconst hc dX11_found_14 ?_
      rcases z_x_cases h with ⟨u9, hr5, h⟩ | ⟨q9, hr5, h⟩
      · refine z_xcallSV [.int (zI x4), .int (zI 0), .int (zI 2)] hc hap o_X11_checkRange ml_RX11_112 (fun l hl => c_X11_checkRange_r hl  hr5) (by decide) rfl rfl (Nat.le_of_ble_eq_true rfl) (Nat.zero_le _) (Nat.zero_le _) dX11_found_15 ?_
        refine z_aload_n (i := 0) 0 hc dX11_found_18 rfl rfl ?_
        obtain ⟨st8, hr7, h⟩ := z_b_some h
        refine z_callVV [] hc hap o_X11_readyTable ml_RX11_216 (fun l hl => c_X11_readyTable hl  hr7) (by decide) tT_0 (by decide) ⟨_, rfl, rfl⟩ rfl rfl (Nat.le_of_ble_eq_true rfl) (Nat.zero_le _) (Nat.zero_le _) dX11_found_19 ?_
        refine z_aload_n (i := 0) 0 hc dX11_found_22 rfl rfl ?_
        refine z_getA (k' := 140) hc fl_RX11_47 tT_0 (by decide) rfl rfl dX11_found_23 ?_
        refine z_aload_n (i := 0) 0 hc dX11_found_26 rfl rfl ?_
        refine z_getA (k' := 99) hc fl_RX11_33 tT_0 (by decide) rfl rfl dX11_found_27 ?_
        refine z_aload_n (i := 0) 0 hc dX11_found_30 rfl rfl ?_
        refine z_getA (k' := 24) hc fl_RX11_19 tT_0 (by decide) rfl rfl dX11_found_31 ?_
        refine z_getI (kI := 24) (jI := 4) hc fl_RX11_186 tT_24 (by decide) rfl rfl rfl dX11_found_34 ?_
        refine z_aload_n (i := 0) 0 hc dX11_found_37 rfl rfl ?_
        refine z_getA (k' := 1) hc fl_RX11_12 tT_0 (by decide) rfl rfl dX11_found_38 ?_
        refine z_getI (kI := 1) (jI := 2) hc fl_RX11_84 tT_1 (by decide) rfl rfl rfl dX11_found_41 ?_
        refine z_lload_n (i := 1) 1 hc dX11_found_44 rfl rfl ?_
        refine z_iload_n (i := 3) 2 hc dX11_found_45 rfl rfl ?_
        obtain ⟨st10, hr9, h⟩ := z_b_some h
        refine z_callVV [.ref (a 99), .int (zI (st8 24 4)), .int (zI (st8 1 2)), .long (zJ x1), .int (zI x3)] hc hap o_X8_run ml_RX11_273 (fun l hl => c_X8_run hl  hr9) (by decide) tT_140 (by decide) ⟨_, rfl, rfl⟩ rfl rfl (Nat.le_of_ble_eq_true rfl) (Nat.zero_le _) (Nat.zero_le _) dX11_found_46 ?_
        refine z_iload 3 hc dX11_found_49 rfl ?_
        refine z_if_ne (tgt := 63) hc dX11_found_51 (by decide) h (fun c51 h => ?_) (fun c51 h => ?_)
        · refine z_aload_n (i := 0) 0 hc dX11_found_54 rfl rfl ?_
          refine z_getA (k' := 140) hc fl_RX11_47 tT_0 (by decide) rfl rfl dX11_found_55 ?_
          refine z_getI (kI := 140) (jI := 4) hc fl_RX11_277 tT_140 (by decide) rfl rfl rfl dX11_found_58 ?_
          refine z_i2l hc dX11_found_61 h (fun h => ?_)
          have h := Option.some.inj h
          subst h
          exact z_retXJ hc he rfl dX11_found_62
        · refine z_iload 3 hc dX11_found_63 rfl ?_
          refine z_iconst hc dX11_found_65 ?_
          refine z_icmp_ne (tgt := 79) hc dX11_found_66 (by decide) h (fun c66 h => ?_) (fun c66 h => ?_)
          · refine z_aload_n (i := 0) 0 hc dX11_found_69 rfl rfl ?_
            refine z_getA (k' := 140) hc fl_RX11_47 tT_0 (by decide) rfl rfl dX11_found_70 ?_
            refine z_getJ (kI := 140) (jI := 5) hc fl_RX11_280 tT_140 (by decide) rfl rfl rfl dX11_found_73 ?_
            refine z_goto (tgt := 87) hc dX11_found_76 (by decide) ?_
            refine z_sub [] [] rfl ?_
            exact w_X11_found_87 hc hap he h
          · refine z_aload_n (i := 0) 0 hc dX11_found_79 rfl rfl ?_
            refine z_getA (k' := 140) hc fl_RX11_47 tT_0 (by decide) rfl rfl dX11_found_80 ?_
            refine z_getI (kI := 140) (jI := 3) hc fl_RX11_284 tT_140 (by decide) rfl rfl rfl dX11_found_83 ?_
            refine z_i2l hc dX11_found_86 h (fun h => ?_)
            refine z_sub [] [] rfl ?_
            exact w_X11_found_87 hc hap he h
      · obtain ⟨e9, st9⟩ := q9
        subst h
        refine z_xthrS (kd := 2) [.int (zI x4), .int (zI 0), .int (zI 2)] hc hap o_X11_checkRange ml_RX11_112 (fun l hl => c_X11_checkRange_t hl  hr5) (by decide) rfl rfl (Nat.le_of_ble_eq_true rfl) (Nat.le_refl 1) (Nat.le_refl 6) dX11_found_15 (z_outX hc he rfl)
    · obtain ⟨e9, st9⟩ := q9
      subst h
      refine z_xthrS (kd := 2) [.long (zJ x3), .long (zJ 1)] hc hap o_X11_checkAtLeast ml_RX11_266 (fun l hl => c_X11_checkAtLeast_t hl  hr3) (by decide) rfl rfl (Nat.le_of_ble_eq_true rfl) (Nat.le_refl 1) (Nat.le_refl 6) dX11_found_8 (z_outX hc he rfl)
  · obtain ⟨e9, st9⟩ := q9
    subst h
    refine z_xthrS (kd := 2) [.long (zJ x1), .long (zJ 0)] hc hap o_X11_checkAtLeast ml_RX11_266 (fun l hl => c_X11_checkAtLeast_t hl  hr1) (by decide) rfl rfl (Nat.le_of_ble_eq_true rfl) (Nat.le_refl 1) (Nat.le_refl 6) dX11_found_2 (z_outX hc he rfl)
set_option maxRecDepth 100000 in
set_option maxHeartbeats 4000000 in
theorem c_X11_found {l : Launch} (hl : l.stackTraces = false) {a : Nat → Nat} {x1 x3 x4 : Int} {st : z_St} {o : z_R (Int × z_St)} (h : J_X11_found x1 x3 x4 st = some o) : z_MX 1 l yX11_found cX11_found 5 (some .long) 13 z_T z_N a [.ref (a 0), .long (zJ x1), .int (zI x3), .int (zI x4)] st o := z_ofX hl (by decide +kernel) (Nat.le_of_ble_eq_true rfl) (fun κ hc hap he => w_X11_found hc hap he h)
theorem c_X11_found_r {l : Launch} (hl : l.stackTraces = false) {a : Nat → Nat} {x1 x3 x4 : Int} {st : z_St} {v9 : Int × z_St} (h : J_X11_found x1 x3 x4 st = some (.inl v9)) : z_MX 1 l yX11_found cX11_found 5 (some .long) 13 z_T z_N a [.ref (a 0), .long (zJ x1), .int (zI x3), .int (zI x4)] st (.inl v9) := by
  have h9 := c_X11_found (a := a) (o := .inl v9) hl h
  exact h9
theorem c_X11_found_t {l : Launch} (hl : l.stackTraces = false) {a : Nat → Nat} {x1 x3 x4 : Int} {st : z_St} {e9 : Nat} {st9 : z_St} (h : J_X11_found x1 x3 x4 st = some (.inr (e9, st9))) : z_MX 1 l yX11_found cX11_found 5 (some .long) 13 z_T z_N a [.ref (a 0), .long (zJ x1), .int (zI x3), .int (zI x4)] st (.inr (e9, st9)) := by
  have h9 := c_X11_found (a := a) (o := .inr (e9, st9)) hl h
  exact h9
theorem dX11_readyLattice_0 : decode cX11_readyLattice 0 = .ok (.aload_n 0, 1) := by decide +kernel
theorem dX11_readyLattice_1 : decode cX11_readyLattice 1 = .ok (.invokevirtual 141, 3) := by decide +kernel
theorem dX11_readyLattice_4 : decode cX11_readyLattice 4 = .ok (.aload_n 0, 1) := by decide +kernel
theorem dX11_readyLattice_5 : decode cX11_readyLattice 5 = .ok (.getfield 54, 3) := by decide +kernel
theorem dX11_readyLattice_8 : decode cX11_readyLattice 8 = .ok (.getfield 336, 3) := by decide +kernel
theorem dX11_readyLattice_11 : decode cX11_readyLattice 11 = .ok (.ifCond .ne 35, 3) := by decide +kernel
theorem dX11_readyLattice_14 : decode cX11_readyLattice 14 = .ok (.aload_n 0, 1) := by decide +kernel
theorem dX11_readyLattice_15 : decode cX11_readyLattice 15 = .ok (.getfield 54, 3) := by decide +kernel
theorem dX11_readyLattice_18 : decode cX11_readyLattice 18 = .ok (.aload_n 0, 1) := by decide +kernel
theorem dX11_readyLattice_19 : decode cX11_readyLattice 19 = .ok (.getfield 33, 3) := by decide +kernel
theorem dX11_readyLattice_22 : decode cX11_readyLattice 22 = .ok (.aload_n 0, 1) := by decide +kernel
theorem dX11_readyLattice_23 : decode cX11_readyLattice 23 = .ok (.getfield 19, 3) := by decide +kernel
theorem dX11_readyLattice_26 : decode cX11_readyLattice 26 = .ok (.getfield 186, 3) := by decide +kernel
theorem dX11_readyLattice_29 : decode cX11_readyLattice 29 = .ok (.aload_n 0, 1) := by decide +kernel
theorem dX11_readyLattice_30 : decode cX11_readyLattice 30 = .ok (.getfield 12, 3) := by decide +kernel
theorem dX11_readyLattice_33 : decode cX11_readyLattice 33 = .ok (.getfield 84, 3) := by decide +kernel
theorem dX11_readyLattice_36 : decode cX11_readyLattice 36 = .ok (.aload_n 0, 1) := by decide +kernel
theorem dX11_readyLattice_37 : decode cX11_readyLattice 37 = .ok (.getfield 40, 3) := by decide +kernel
theorem dX11_readyLattice_40 : decode cX11_readyLattice 40 = .ok (.invokevirtual 144, 3) := by decide +kernel
theorem dX11_readyLattice_43 : decode cX11_readyLattice 43 = .ok (.invokevirtual 345, 3) := by decide +kernel
theorem dX11_readyLattice_46 : decode cX11_readyLattice 46 = .ok (.return_, 1) := by decide +kernel
def J_X11_readyLattice_46 (st : z_St) : Option (z_St) :=
  some st
set_option maxRecDepth 100000 in
set_option maxHeartbeats 4000000 in
theorem w_X11_readyLattice_46 {κ : zK} {a : Nat → Nat} {st : z_St} {o : z_St} (hc : z_C κ RX11 cX11_readyLattice 1 13 0 0) (hap : z_AP κ a z_N) (he : z_E 2 κ none z_T z_N a 0 o) (h : J_X11_readyLattice_46 st = some o) : z_V κ z_T z_N a 0 0 46 [] [] st := by
  unfold J_X11_readyLattice_46 at h
  have h := Option.some.inj h
  subst h
  exact z_retV hc he dX11_readyLattice_46
def J_X11_readyLattice (st : z_St) : Option (z_St) :=
  z_b (J_X11_readyRows st) fun st2 =>
  z_g (z32 (st2 144 5)) (if st2 144 5 = 0 then
    z_b (J_X5_leastWeight st2) fun r3 =>
    z_b (J_X3_fill (st2 24 4) (st2 1 2) r3 st2) fun st6 =>
    J_X11_readyLattice_46 st6
  else
    J_X11_readyLattice_46 st2)
set_option maxRecDepth 100000 in
set_option maxHeartbeats 4000000 in
theorem w_X11_readyLattice {κ : zK} {a : Nat → Nat} {st : z_St} {o : z_St} (hc : z_C κ RX11 cX11_readyLattice 1 13 0 0) (hap : z_AP κ a z_N) (he : z_E 2 κ none z_T z_N a 0 o) (h : J_X11_readyLattice st = some o) : z_V κ z_T z_N a 0 0 0 [(0, .ref (a 0))] [] st := by
  unfold J_X11_readyLattice at h
  refine z_aload_n (i := 0) 0 hc dX11_readyLattice_0 rfl rfl ?_
  obtain ⟨st2, hr1, h⟩ := z_b_some h
  refine z_callVV [] hc hap o_X11_readyRows ml_RX11_141 (fun l hl => c_X11_readyRows hl  hr1) (by decide) tT_0 (by decide) ⟨_, rfl, rfl⟩ rfl rfl (Nat.le_of_ble_eq_true rfl) (Nat.zero_le _) (Nat.zero_le _) dX11_readyLattice_1 ?_
  refine z_aload_n (i := 0) 0 hc dX11_readyLattice_4 rfl rfl ?_
  refine z_getA (k' := 144) hc fl_RX11_54 tT_0 (by decide) rfl rfl dX11_readyLattice_5 ?_
  refine z_getZ (kI := 144) (jI := 5) hc fl_RX11_336 tT_144 (by decide) rfl rfl rfl dX11_readyLattice_8 ?_
  refine z_if_ne (tgt := 46) hc dX11_readyLattice_11 (by decide) h (fun c11 h => ?_) (fun c11 h => ?_)
  · refine z_aload_n (i := 0) 0 hc dX11_readyLattice_14 rfl rfl ?_
    refine z_getA (k' := 144) hc fl_RX11_54 tT_0 (by decide) rfl rfl dX11_readyLattice_15 ?_
    refine z_aload_n (i := 0) 0 hc dX11_readyLattice_18 rfl rfl ?_
    refine z_getA (k' := 99) hc fl_RX11_33 tT_0 (by decide) rfl rfl dX11_readyLattice_19 ?_
    refine z_aload_n (i := 0) 0 hc dX11_readyLattice_22 rfl rfl ?_
    refine z_getA (k' := 24) hc fl_RX11_19 tT_0 (by decide) rfl rfl dX11_readyLattice_23 ?_
    refine z_getI (kI := 24) (jI := 4) hc fl_RX11_186 tT_24 (by decide) rfl rfl rfl dX11_readyLattice_26 ?_
    refine z_aload_n (i := 0) 0 hc dX11_readyLattice_29 rfl rfl ?_
    refine z_getA (k' := 1) hc fl_RX11_12 tT_0 (by decide) rfl rfl dX11_readyLattice_30 ?_
    refine z_getI (kI := 1) (jI := 2) hc fl_RX11_84 tT_1 (by decide) rfl rfl rfl dX11_readyLattice_33 ?_
    refine z_aload_n (i := 0) 0 hc dX11_readyLattice_36 rfl rfl ?_
    refine z_getA (k' := 134) hc fl_RX11_40 tT_0 (by decide) rfl rfl dX11_readyLattice_37 ?_
    obtain ⟨r3, hr3, h⟩ := z_b_some h
    refine z_callVJ [] hc hap o_X5_leastWeight ml_RX11_144 (fun l hl => c_X5_leastWeight hl  hr3) (by decide) tT_134 (by decide) ⟨_, rfl, rfl⟩ rfl rfl (Nat.le_of_ble_eq_true rfl) (Nat.zero_le _) (Nat.zero_le _) dX11_readyLattice_40 ?_
    obtain ⟨st6, hr5, h⟩ := z_b_some h
    refine z_callVV [.ref (a 99), .int (zI (st2 24 4)), .int (zI (st2 1 2)), .long (zJ r3)] hc hap o_X3_fill ml_RX11_345 (fun l hl => c_X3_fill hl  hr5) (by decide) tT_144 (by decide) ⟨_, rfl, rfl⟩ rfl rfl (Nat.le_of_ble_eq_true rfl) (Nat.zero_le _) (Nat.zero_le _) dX11_readyLattice_43 ?_
    refine z_sub [] [] rfl ?_
    exact w_X11_readyLattice_46 hc hap he h
  · refine z_sub [] [] rfl ?_
    exact w_X11_readyLattice_46 hc hap he h
set_option maxRecDepth 100000 in
set_option maxHeartbeats 4000000 in
theorem c_X11_readyLattice {l : Launch} (hl : l.stackTraces = false) {a : Nat → Nat} {st : z_St} {o : z_St} (h : J_X11_readyLattice st = some o) : z_M 2 l yX11_readyLattice cX11_readyLattice 1 none 13 z_T z_N a [.ref (a 0)] st 0 o := z_of hl (by decide +kernel) (Nat.le_of_ble_eq_true rfl) (fun κ hc hap he => w_X11_readyLattice hc hap he h)
theorem dX11_arcs_0 : decode cX11_arcs 0 = .ok (.lload_n 1, 1) := by decide +kernel
theorem dX11_arcs_1 : decode cX11_arcs 1 = .ok (.lconst 0, 1) := by decide +kernel
theorem dX11_arcs_2 : decode cX11_arcs 2 = .ok (.invokestatic 266, 3) := by decide +kernel
theorem dX11_arcs_5 : decode cX11_arcs 5 = .ok (.aload_n 0, 1) := by decide +kernel
theorem dX11_arcs_6 : decode cX11_arcs 6 = .ok (.invokevirtual 287, 3) := by decide +kernel
theorem dX11_arcs_9 : decode cX11_arcs 9 = .ok (.aload_n 0, 1) := by decide +kernel
theorem dX11_arcs_10 : decode cX11_arcs 10 = .ok (.getfield 54, 3) := by decide +kernel
theorem dX11_arcs_13 : decode cX11_arcs 13 = .ok (.lload_n 1, 1) := by decide +kernel
theorem dX11_arcs_14 : decode cX11_arcs 14 = .ok (.invokevirtual 290, 3) := by decide +kernel
theorem dX11_arcs_17 : decode cX11_arcs 17 = .ok (.ireturn, 1) := by decide +kernel
def J_X11_arcs (x1 : Int) (st : z_St) : Option (z_R (Int × z_St)) :=
  z_x (J_X11_checkAtLeast x1 0 st) fun _ =>
    z_b (J_X11_readyLattice st) fun st4 =>
    z_b (J_X3_countWithin x1 st4) fun r5 =>
    some (.inl (r5, st4))
set_option maxRecDepth 100000 in
set_option maxHeartbeats 4000000 in
theorem w_X11_arcs {κ : zK} {a : Nat → Nat} {x1 : Int} {st : z_St} {o : z_R (Int × z_St)} (hc : z_C κ RX11 cX11_arcs 3 14 (z_mc o) (z_ms o)) (hap : z_AP κ a z_N) (he : z_EX 0 κ (some .int) z_T z_N a o) (h : J_X11_arcs x1 st = some o) : z_V κ z_T z_N a 0 0 0 [(0, .ref (a 0)), (1, .long (zJ x1))] [] st := by
  unfold J_X11_arcs at h
  refine z_lload_n (i := 1) 1 hc dX11_arcs_0 rfl rfl ?_
  refine z_lconst 0 hc dX11_arcs_1 rfl ?_
  rcases z_x_cases h with ⟨u9, hr1, h⟩ | ⟨q9, hr1, h⟩
  · refine z_xcallSV [.long (zJ x1), .long (zJ 0)] hc hap o_X11_checkAtLeast ml_RX11_266 (fun l hl => c_X11_checkAtLeast_r hl  hr1) (by decide) rfl rfl (Nat.le_of_ble_eq_true rfl) (Nat.zero_le _) (Nat.zero_le _) dX11_arcs_2 ?_
    refine z_aload_n (i := 0) 0 hc dX11_arcs_5 rfl rfl ?_
    obtain ⟨st4, hr3, h⟩ := z_b_some h
    refine z_callVV [] hc hap o_X11_readyLattice ml_RX11_287 (fun l hl => c_X11_readyLattice hl  hr3) (by decide) tT_0 (by decide) ⟨_, rfl, rfl⟩ rfl rfl (Nat.le_of_ble_eq_true rfl) (Nat.zero_le _) (Nat.zero_le _) dX11_arcs_6 ?_
    refine z_aload_n (i := 0) 0 hc dX11_arcs_9 rfl rfl ?_
    refine z_getA (k' := 144) hc fl_RX11_54 tT_0 (by decide) rfl rfl dX11_arcs_10 ?_
    refine z_lload_n (i := 1) 1 hc dX11_arcs_13 rfl rfl ?_
    obtain ⟨r5, hr5, h⟩ := z_b_some h
    refine z_callVI [.long (zJ x1)] hc hap o_X3_countWithin ml_RX11_290 (fun l hl => c_X3_countWithin hl  hr5) (by decide) tT_144 (by decide) ⟨_, rfl, rfl⟩ rfl rfl (Nat.le_of_ble_eq_true rfl) (Nat.zero_le _) (Nat.zero_le _) dX11_arcs_14 ?_
    have h := Option.some.inj h
    subst h
    exact z_retXI hc he rfl dX11_arcs_17
  · obtain ⟨e9, st9⟩ := q9
    subst h
    refine z_xthrS (kd := 2) [.long (zJ x1), .long (zJ 0)] hc hap o_X11_checkAtLeast ml_RX11_266 (fun l hl => c_X11_checkAtLeast_t hl  hr1) (by decide) rfl rfl (Nat.le_of_ble_eq_true rfl) (Nat.le_refl 1) (Nat.le_refl 6) dX11_arcs_2 (z_outX hc he rfl)
set_option maxRecDepth 100000 in
set_option maxHeartbeats 4000000 in
theorem c_X11_arcs {l : Launch} (hl : l.stackTraces = false) {a : Nat → Nat} {x1 : Int} {st : z_St} {o : z_R (Int × z_St)} (h : J_X11_arcs x1 st = some o) : z_MX 0 l yX11_arcs cX11_arcs 3 (some .int) 14 z_T z_N a [.ref (a 0), .long (zJ x1)] st o := z_ofX hl (by decide +kernel) (Nat.le_of_ble_eq_true rfl) (fun κ hc hap he => w_X11_arcs hc hap he h)
theorem c_X11_arcs_r {l : Launch} (hl : l.stackTraces = false) {a : Nat → Nat} {x1 : Int} {st : z_St} {v9 : Int × z_St} (h : J_X11_arcs x1 st = some (.inl v9)) : z_MX 0 l yX11_arcs cX11_arcs 3 (some .int) 14 z_T z_N a [.ref (a 0), .long (zJ x1)] st (.inl v9) := by
  have h9 := c_X11_arcs (a := a) (o := .inl v9) hl h
  exact h9
theorem c_X11_arcs_t {l : Launch} (hl : l.stackTraces = false) {a : Nat → Nat} {x1 : Int} {st : z_St} {e9 : Nat} {st9 : z_St} (h : J_X11_arcs x1 st = some (.inr (e9, st9))) : z_MX 0 l yX11_arcs cX11_arcs 3 (some .int) 14 z_T z_N a [.ref (a 0), .long (zJ x1)] st (.inr (e9, st9)) := by
  have h9 := c_X11_arcs (a := a) (o := .inr (e9, st9)) hl h
  exact h9
theorem dX11_arc_0 : decode cX11_arc 0 = .ok (.lload_n 1, 1) := by decide +kernel
theorem dX11_arc_1 : decode cX11_arc 1 = .ok (.lconst 0, 1) := by decide +kernel
theorem dX11_arc_2 : decode cX11_arc 2 = .ok (.invokestatic 266, 3) := by decide +kernel
theorem dX11_arc_5 : decode cX11_arc 5 = .ok (.aload_n 0, 1) := by decide +kernel
theorem dX11_arc_6 : decode cX11_arc 6 = .ok (.invokevirtual 287, 3) := by decide +kernel
theorem dX11_arc_9 : decode cX11_arc 9 = .ok (.iload_n 3, 1) := by decide +kernel
theorem dX11_arc_10 : decode cX11_arc 10 = .ok (.aload_n 0, 1) := by decide +kernel
theorem dX11_arc_11 : decode cX11_arc 11 = .ok (.getfield 54, 3) := by decide +kernel
theorem dX11_arc_14 : decode cX11_arc 14 = .ok (.lload_n 1, 1) := by decide +kernel
theorem dX11_arc_15 : decode cX11_arc 15 = .ok (.invokevirtual 290, 3) := by decide +kernel
theorem dX11_arc_18 : decode cX11_arc 18 = .ok (.invokestatic 105, 3) := by decide +kernel
theorem dX11_arc_21 : decode cX11_arc 21 = .ok (.iload 4, 2) := by decide +kernel
theorem dX11_arc_23 : decode cX11_arc 23 = .ok (.iconst 0, 1) := by decide +kernel
theorem dX11_arc_24 : decode cX11_arc 24 = .ok (.iconst 3, 1) := by decide +kernel
theorem dX11_arc_25 : decode cX11_arc 25 = .ok (.invokestatic 112, 3) := by decide +kernel
theorem dX11_arc_28 : decode cX11_arc 28 = .ok (.aload_n 0, 1) := by decide +kernel
theorem dX11_arc_29 : decode cX11_arc 29 = .ok (.getfield 54, 3) := by decide +kernel
theorem dX11_arc_32 : decode cX11_arc 32 = .ok (.lload_n 1, 1) := by decide +kernel
theorem dX11_arc_33 : decode cX11_arc 33 = .ok (.iload_n 3, 1) := by decide +kernel
theorem dX11_arc_34 : decode cX11_arc 34 = .ok (.iload 4, 2) := by decide +kernel
theorem dX11_arc_36 : decode cX11_arc 36 = .ok (.invokevirtual 294, 3) := by decide +kernel
theorem dX11_arc_39 : decode cX11_arc 39 = .ok (.lreturn, 1) := by decide +kernel
def J_X11_arc (x1 x3 x4 : Int) (st : z_St) : Option (z_R (Int × z_St)) :=
  z_x (J_X11_checkAtLeast x1 0 st) fun _ =>
    z_b (J_X11_readyLattice st) fun st4 =>
    z_b (J_X3_countWithin x1 st4) fun r5 =>
    z_x (J_X11_checkIndex x3 r5 st4) fun _ =>
      z_x (J_X11_checkRange x4 0 3 st4) fun _ =>
        z_b (J_X3_tellWithin x1 x3 x4 st4) fun r11 =>
        some (.inl (r11, st4))
set_option maxRecDepth 100000 in
set_option maxHeartbeats 4000000 in
theorem w_X11_arc {κ : zK} {a : Nat → Nat} {x1 x3 x4 : Int} {st : z_St} {o : z_R (Int × z_St)} (hc : z_C κ RX11 cX11_arc 5 14 (z_mc o) (z_ms o)) (hap : z_AP κ a z_N) (he : z_EX 1 κ (some .long) z_T z_N a o) (h : J_X11_arc x1 x3 x4 st = some o) : z_V κ z_T z_N a 0 0 0 [(0, .ref (a 0)), (1, .long (zJ x1)), (3, .int (zI x3)), (4, .int (zI x4))] [] st := by
  unfold J_X11_arc at h
  refine z_lload_n (i := 1) 1 hc dX11_arc_0 rfl rfl ?_
  refine z_lconst 0 hc dX11_arc_1 rfl ?_
  rcases z_x_cases h with ⟨u9, hr1, h⟩ | ⟨q9, hr1, h⟩
  · refine z_xcallSV [.long (zJ x1), .long (zJ 0)] hc hap o_X11_checkAtLeast ml_RX11_266 (fun l hl => c_X11_checkAtLeast_r hl  hr1) (by decide) rfl rfl (Nat.le_of_ble_eq_true rfl) (Nat.zero_le _) (Nat.zero_le _) dX11_arc_2 ?_
    refine z_aload_n (i := 0) 0 hc dX11_arc_5 rfl rfl ?_
    obtain ⟨st4, hr3, h⟩ := z_b_some h
    refine z_callVV [] hc hap o_X11_readyLattice ml_RX11_287 (fun l hl => c_X11_readyLattice hl  hr3) (by decide) tT_0 (by decide) ⟨_, rfl, rfl⟩ rfl rfl (Nat.le_of_ble_eq_true rfl) (Nat.zero_le _) (Nat.zero_le _) dX11_arc_6 ?_
    refine z_iload_n (i := 3) 2 hc dX11_arc_9 rfl rfl ?_
    refine z_aload_n (i := 0) 0 hc dX11_arc_10 rfl rfl ?_
    refine z_getA (k' := 144) hc fl_RX11_54 tT_0 (by decide) rfl rfl dX11_arc_11 ?_
    refine z_lload_n (i := 1) 1 hc dX11_arc_14 rfl rfl ?_
    obtain ⟨r5, hr5, h⟩ := z_b_some h
    refine z_callVI [.long (zJ x1)] hc hap o_X3_countWithin ml_RX11_290 (fun l hl => c_X3_countWithin hl  hr5) (by decide) tT_144 (by decide) ⟨_, rfl, rfl⟩ rfl rfl (Nat.le_of_ble_eq_true rfl) (Nat.zero_le _) (Nat.zero_le _) dX11_arc_15 ?_
    rcases z_x_cases h with ⟨u9, hr7, h⟩ | ⟨q9, hr7, h⟩
    · refine z_xcallSV [.int (zI x3), .int (zI r5)] hc hap o_X11_checkIndex ml_RX11_105 (fun l hl => c_X11_checkIndex_r hl  hr7) (by decide) rfl rfl (Nat.le_of_ble_eq_true rfl) (Nat.zero_le _) (Nat.zero_le _) dX11_arc_18 ?_
      refine z_iload 3 hc dX11_arc_21 rfl ?_
      refine z_iconst hc dX11_arc_23 ?_
      refine z_iconst hc dX11_arc_24 ?_
      rcases z_x_cases h with ⟨u9, hr9, h⟩ | ⟨q9, hr9, h⟩
      · refine z_xcallSV [.int (zI x4), .int (zI 0), .int (zI 3)] hc hap o_X11_checkRange ml_RX11_112 (fun l hl => c_X11_checkRange_r hl  hr9) (by decide) rfl rfl (Nat.le_of_ble_eq_true rfl) (Nat.zero_le _) (Nat.zero_le _) dX11_arc_25 ?_
        refine z_aload_n (i := 0) 0 hc dX11_arc_28 rfl rfl ?_
        refine z_getA (k' := 144) hc fl_RX11_54 tT_0 (by decide) rfl rfl dX11_arc_29 ?_
        refine z_lload_n (i := 1) 1 hc dX11_arc_32 rfl rfl ?_
        refine z_iload_n (i := 3) 2 hc dX11_arc_33 rfl rfl ?_
        refine z_iload 3 hc dX11_arc_34 rfl ?_
        obtain ⟨r11, hr11, h⟩ := z_b_some h
        refine z_callVJ [.long (zJ x1), .int (zI x3), .int (zI x4)] hc hap o_X3_tellWithin ml_RX11_294 (fun l hl => c_X3_tellWithin hl  hr11) (by decide) tT_144 (by decide) ⟨_, rfl, rfl⟩ rfl rfl (Nat.le_of_ble_eq_true rfl) (Nat.zero_le _) (Nat.zero_le _) dX11_arc_36 ?_
        have h := Option.some.inj h
        subst h
        exact z_retXJ hc he rfl dX11_arc_39
      · obtain ⟨e9, st9⟩ := q9
        subst h
        refine z_xthrS (kd := 2) [.int (zI x4), .int (zI 0), .int (zI 3)] hc hap o_X11_checkRange ml_RX11_112 (fun l hl => c_X11_checkRange_t hl  hr9) (by decide) rfl rfl (Nat.le_of_ble_eq_true rfl) (Nat.le_refl 1) (Nat.le_refl 6) dX11_arc_25 (z_outX hc he rfl)
    · obtain ⟨e9, st9⟩ := q9
      subst h
      refine z_xthrS (kd := 2) [.int (zI x3), .int (zI r5)] hc hap o_X11_checkIndex ml_RX11_105 (fun l hl => c_X11_checkIndex_t hl  hr7) (by decide) rfl rfl (Nat.le_of_ble_eq_true rfl) (Nat.le_refl 1) (Nat.le_refl 6) dX11_arc_18 (z_outX hc he rfl)
  · obtain ⟨e9, st9⟩ := q9
    subst h
    refine z_xthrS (kd := 2) [.long (zJ x1), .long (zJ 0)] hc hap o_X11_checkAtLeast ml_RX11_266 (fun l hl => c_X11_checkAtLeast_t hl  hr1) (by decide) rfl rfl (Nat.le_of_ble_eq_true rfl) (Nat.le_refl 1) (Nat.le_refl 6) dX11_arc_2 (z_outX hc he rfl)
set_option maxRecDepth 100000 in
set_option maxHeartbeats 4000000 in
theorem c_X11_arc {l : Launch} (hl : l.stackTraces = false) {a : Nat → Nat} {x1 x3 x4 : Int} {st : z_St} {o : z_R (Int × z_St)} (h : J_X11_arc x1 x3 x4 st = some o) : z_MX 1 l yX11_arc cX11_arc 5 (some .long) 14 z_T z_N a [.ref (a 0), .long (zJ x1), .int (zI x3), .int (zI x4)] st o := z_ofX hl (by decide +kernel) (Nat.le_of_ble_eq_true rfl) (fun κ hc hap he => w_X11_arc hc hap he h)
theorem c_X11_arc_r {l : Launch} (hl : l.stackTraces = false) {a : Nat → Nat} {x1 x3 x4 : Int} {st : z_St} {v9 : Int × z_St} (h : J_X11_arc x1 x3 x4 st = some (.inl v9)) : z_MX 1 l yX11_arc cX11_arc 5 (some .long) 14 z_T z_N a [.ref (a 0), .long (zJ x1), .int (zI x3), .int (zI x4)] st (.inl v9) := by
  have h9 := c_X11_arc (a := a) (o := .inl v9) hl h
  exact h9
theorem c_X11_arc_t {l : Launch} (hl : l.stackTraces = false) {a : Nat → Nat} {x1 x3 x4 : Int} {st : z_St} {e9 : Nat} {st9 : z_St} (h : J_X11_arc x1 x3 x4 st = some (.inr (e9, st9))) : z_MX 1 l yX11_arc cX11_arc 5 (some .long) 14 z_T z_N a [.ref (a 0), .long (zJ x1), .int (zI x3), .int (zI x4)] st (.inr (e9, st9)) := by
  have h9 := c_X11_arc (a := a) (o := .inr (e9, st9)) hl h
  exact h9
theorem dX11_keyword_0 : decode cX11_keyword 0 = .ok (.iload_n 1, 1) := by decide +kernel
theorem dX11_keyword_1 : decode cX11_keyword 1 = .ok (.aload_n 0, 1) := by decide +kernel
theorem dX11_keyword_2 : decode cX11_keyword 2 = .ok (.getfield 19, 3) := by decide +kernel
theorem dX11_keyword_5 : decode cX11_keyword 5 = .ok (.getfield 186, 3) := by decide +kernel
theorem dX11_keyword_8 : decode cX11_keyword 8 = .ok (.invokestatic 105, 3) := by decide +kernel
theorem dX11_keyword_11 : decode cX11_keyword 11 = .ok (.aload_n 0, 1) := by decide +kernel
theorem dX11_keyword_12 : decode cX11_keyword 12 = .ok (.invokevirtual 287, 3) := by decide +kernel
theorem dX11_keyword_15 : decode cX11_keyword 15 = .ok (.aload_n 0, 1) := by decide +kernel
theorem dX11_keyword_16 : decode cX11_keyword 16 = .ok (.getfield 54, 3) := by decide +kernel
theorem dX11_keyword_19 : decode cX11_keyword 19 = .ok (.iload_n 1, 1) := by decide +kernel
theorem dX11_keyword_20 : decode cX11_keyword 20 = .ok (.invokevirtual 298, 3) := by decide +kernel
theorem dX11_keyword_23 : decode cX11_keyword 23 = .ok (.invokestatic 223, 3) := by decide +kernel
theorem dX11_keyword_26 : decode cX11_keyword 26 = .ok (.lreturn, 1) := by decide +kernel
def J_X11_keyword (x1 : Int) (st : z_St) : Option (z_R (Int × z_St)) :=
  z_x (J_X11_checkIndex x1 (st 24 4) st) fun _ =>
    z_b (J_X11_readyLattice st) fun st4 =>
    z_b (J_X3_leastSlackOf x1 st4) fun r5 =>
    z_b (J_X11_orNone r5 st4) fun r7 =>
    some (.inl (r7, st4))
set_option maxRecDepth 100000 in
set_option maxHeartbeats 4000000 in
theorem w_X11_keyword {κ : zK} {a : Nat → Nat} {x1 : Int} {st : z_St} {o : z_R (Int × z_St)} (hc : z_C κ RX11 cX11_keyword 2 14 (z_mc o) (z_ms o)) (hap : z_AP κ a z_N) (he : z_EX 1 κ (some .long) z_T z_N a o) (h : J_X11_keyword x1 st = some o) : z_V κ z_T z_N a 0 0 0 [(0, .ref (a 0)), (1, .int (zI x1))] [] st := by
  unfold J_X11_keyword at h
  refine z_iload_n (i := 1) 1 hc dX11_keyword_0 rfl rfl ?_
  refine z_aload_n (i := 0) 0 hc dX11_keyword_1 rfl rfl ?_
  refine z_getA (k' := 24) hc fl_RX11_19 tT_0 (by decide) rfl rfl dX11_keyword_2 ?_
  refine z_getI (kI := 24) (jI := 4) hc fl_RX11_186 tT_24 (by decide) rfl rfl rfl dX11_keyword_5 ?_
  rcases z_x_cases h with ⟨u9, hr1, h⟩ | ⟨q9, hr1, h⟩
  · refine z_xcallSV [.int (zI x1), .int (zI (st 24 4))] hc hap o_X11_checkIndex ml_RX11_105 (fun l hl => c_X11_checkIndex_r hl  hr1) (by decide) rfl rfl (Nat.le_of_ble_eq_true rfl) (Nat.zero_le _) (Nat.zero_le _) dX11_keyword_8 ?_
    refine z_aload_n (i := 0) 0 hc dX11_keyword_11 rfl rfl ?_
    obtain ⟨st4, hr3, h⟩ := z_b_some h
    refine z_callVV [] hc hap o_X11_readyLattice ml_RX11_287 (fun l hl => c_X11_readyLattice hl  hr3) (by decide) tT_0 (by decide) ⟨_, rfl, rfl⟩ rfl rfl (Nat.le_of_ble_eq_true rfl) (Nat.zero_le _) (Nat.zero_le _) dX11_keyword_12 ?_
    refine z_aload_n (i := 0) 0 hc dX11_keyword_15 rfl rfl ?_
    refine z_getA (k' := 144) hc fl_RX11_54 tT_0 (by decide) rfl rfl dX11_keyword_16 ?_
    refine z_iload_n (i := 1) 1 hc dX11_keyword_19 rfl rfl ?_
    obtain ⟨r5, hr5, h⟩ := z_b_some h
    refine z_callVJ [.int (zI x1)] hc hap o_X3_leastSlackOf ml_RX11_298 (fun l hl => c_X3_leastSlackOf hl  hr5) (by decide) tT_144 (by decide) ⟨_, rfl, rfl⟩ rfl rfl (Nat.le_of_ble_eq_true rfl) (Nat.zero_le _) (Nat.zero_le _) dX11_keyword_20 ?_
    obtain ⟨r7, hr7, h⟩ := z_b_some h
    refine z_callSJ [.long (zJ r5)] hc hap o_X11_orNone ml_RX11_223 (fun l hl => c_X11_orNone hl  hr7) (by decide) rfl rfl (Nat.le_of_ble_eq_true rfl) (Nat.zero_le _) (Nat.zero_le _) dX11_keyword_23 ?_
    have h := Option.some.inj h
    subst h
    exact z_retXJ hc he rfl dX11_keyword_26
  · obtain ⟨e9, st9⟩ := q9
    subst h
    refine z_xthrS (kd := 2) [.int (zI x1), .int (zI (st 24 4))] hc hap o_X11_checkIndex ml_RX11_105 (fun l hl => c_X11_checkIndex_t hl  hr1) (by decide) rfl rfl (Nat.le_of_ble_eq_true rfl) (Nat.le_refl 1) (Nat.le_refl 6) dX11_keyword_8 (z_outX hc he rfl)
set_option maxRecDepth 100000 in
set_option maxHeartbeats 4000000 in
theorem c_X11_keyword {l : Launch} (hl : l.stackTraces = false) {a : Nat → Nat} {x1 : Int} {st : z_St} {o : z_R (Int × z_St)} (h : J_X11_keyword x1 st = some o) : z_MX 1 l yX11_keyword cX11_keyword 2 (some .long) 14 z_T z_N a [.ref (a 0), .int (zI x1)] st o := z_ofX hl (by decide +kernel) (Nat.le_of_ble_eq_true rfl) (fun κ hc hap he => w_X11_keyword hc hap he h)
theorem c_X11_keyword_r {l : Launch} (hl : l.stackTraces = false) {a : Nat → Nat} {x1 : Int} {st : z_St} {v9 : Int × z_St} (h : J_X11_keyword x1 st = some (.inl v9)) : z_MX 1 l yX11_keyword cX11_keyword 2 (some .long) 14 z_T z_N a [.ref (a 0), .int (zI x1)] st (.inl v9) := by
  have h9 := c_X11_keyword (a := a) (o := .inl v9) hl h
  exact h9
theorem c_X11_keyword_t {l : Launch} (hl : l.stackTraces = false) {a : Nat → Nat} {x1 : Int} {st : z_St} {e9 : Nat} {st9 : z_St} (h : J_X11_keyword x1 st = some (.inr (e9, st9))) : z_MX 1 l yX11_keyword cX11_keyword 2 (some .long) 14 z_T z_N a [.ref (a 0), .int (zI x1)] st (.inr (e9, st9)) := by
  have h9 := c_X11_keyword (a := a) (o := .inr (e9, st9)) hl h
  exact h9
