theorem tT_199 : z_T 199 = .inr (1, 1, 1, 0, 0) := rfl
theorem o_X11_frame : z_oV yX11_frame cX11_frame 4 (some .int) 3 := ⟨⟨z_t2 165 rfl rfl, z_t1 1 rfl rfl, by decide +kernel, by decide⟩, z_t2 163 rfl rfl, z_t2 164 rfl rfl⟩
theorem ml_RL_7 : Cond.methodLink RL 7 yX11_frame ∈ z_tbl := z_t2 162 rfl rfl
theorem cl_RL_13 : Cond.classLink RL 13 (z_en 1) ∈ z_tbl := z_t2 160 rfl rfl
theorem cl_RL_15 : Cond.classLink RL 15 (z_en 2) ∈ z_tbl := z_t2 161 rfl rfl
theorem o_X11_speak : z_oV yX11_speak cX11_speak 3 (some .int) 1 := ⟨⟨z_t3 26 rfl rfl, z_t1 1 rfl rfl, by decide +kernel, by decide⟩, z_t3 24 rfl rfl, z_t3 25 rfl rfl⟩
theorem ml_RL_17 : Cond.methodLink RL 17 yX11_speak ∈ z_tbl := z_t3 23 rfl rfl
theorem cl_RL_21 : Cond.classLink RL 21 (z_en 3) ∈ z_tbl := z_t3 22 rfl rfl
theorem o_X11_shift : z_oV yX11_shift cX11_shift 5 (some .int) 3 := ⟨⟨z_t3 52 rfl rfl, z_t1 1 rfl rfl, by decide +kernel, by decide⟩, z_t3 50 rfl rfl, z_t3 51 rfl rfl⟩
theorem ml_RL_23 : Cond.methodLink RL 23 yX11_shift ∈ z_tbl := z_t3 49 rfl rfl
theorem o_X11_shiftOf : z_oV yX11_shiftOf cX11_shiftOf 3 (some .int) 2 := ⟨⟨z_t3 59 rfl rfl, z_t1 1 rfl rfl, by decide +kernel, by decide⟩, z_t3 57 rfl rfl, z_t3 58 rfl rfl⟩
theorem ml_RL_26 : Cond.methodLink RL 26 yX11_shiftOf ∈ z_tbl := z_t3 56 rfl rfl
theorem o_X11_fit : z_oV yX11_fit cX11_fit 5 (some .long) 0 := ⟨⟨z_t3 66 rfl rfl, z_t1 1 rfl rfl, by decide +kernel, by decide⟩, z_t3 64 rfl rfl, z_t3 65 rfl rfl⟩
theorem ml_RL_30 : Cond.methodLink RL 30 yX11_fit ∈ z_tbl := z_t3 63 rfl rfl
theorem o_X11_sound : z_oV yX11_sound cX11_sound 6 (some .int) 4 := ⟨⟨z_t3 239 rfl rfl, z_t1 1 rfl rfl, by decide +kernel, by decide⟩, z_t3 237 rfl rfl, z_t3 238 rfl rfl⟩
theorem ml_RL_34 : Cond.methodLink RL 34 yX11_sound ∈ z_tbl := z_t3 236 rfl rfl
theorem o_X11_question : z_oV yX11_question cX11_question 6 (some .int) 4 := ⟨⟨z_t4 7 rfl rfl, z_t1 1 rfl rfl, by decide +kernel, by decide⟩, z_t4 5 rfl rfl, z_t4 6 rfl rfl⟩
theorem ml_RL_38 : Cond.methodLink RL 38 yX11_question ∈ z_tbl := z_t4 4 rfl rfl
theorem o_X11_type : z_oV yX11_type cX11_type 2 (some .int) 1 := ⟨⟨z_t4 19 rfl rfl, z_t1 1 rfl rfl, by decide +kernel, by decide⟩, z_t4 17 rfl rfl, z_t4 18 rfl rfl⟩
theorem ml_RL_41 : Cond.methodLink RL 41 yX11_type ∈ z_tbl := z_t4 16 rfl rfl
theorem o_X11_word : z_oV yX11_word cX11_word 2 (some .int) 1 := ⟨⟨z_t4 27 rfl rfl, z_t1 1 rfl rfl, by decide +kernel, by decide⟩, z_t4 25 rfl rfl, z_t4 26 rfl rfl⟩
theorem ml_RL_45 : Cond.methodLink RL 45 yX11_word ∈ z_tbl := z_t4 24 rfl rfl
theorem o_X11_saying : z_oV yX11_saying cX11_saying 4 (some .int) 2 := ⟨⟨z_t4 47 rfl rfl, z_t1 1 rfl rfl, by decide +kernel, by decide⟩, z_t4 45 rfl rfl, z_t4 46 rfl rfl⟩
theorem ml_RL_48 : Cond.methodLink RL 48 yX11_saying ∈ z_tbl := z_t4 44 rfl rfl
theorem o_X11_form : z_oV yX11_form cX11_form 5 (some .int) 3 := ⟨⟨z_t4 55 rfl rfl, z_t1 1 rfl rfl, by decide +kernel, by decide⟩, z_t4 53 rfl rfl, z_t4 54 rfl rfl⟩
theorem ml_RL_51 : Cond.methodLink RL 51 yX11_form ∈ z_tbl := z_t4 52 rfl rfl
theorem o_X11_cost : z_oV yX11_cost cX11_cost 4 (some .long) 3 := ⟨⟨z_t4 64 rfl rfl, z_t1 1 rfl rfl, by decide +kernel, by decide⟩, z_t4 62 rfl rfl, z_t4 63 rfl rfl⟩
theorem ml_RL_54 : Cond.methodLink RL 54 yX11_cost ∈ z_tbl := z_t4 61 rfl rfl
theorem o_X11_over : z_oV yX11_over cX11_over 4 (some .long) 3 := ⟨⟨z_t4 72 rfl rfl, z_t1 1 rfl rfl, by decide +kernel, by decide⟩, z_t4 70 rfl rfl, z_t4 71 rfl rfl⟩
theorem ml_RL_58 : Cond.methodLink RL 58 yX11_over ∈ z_tbl := z_t4 69 rfl rfl
theorem o_X11_learn : z_oV yX11_learn cX11_learn 3 (some .int) 1 := ⟨⟨z_t4 89 rfl rfl, z_t1 1 rfl rfl, by decide +kernel, by decide⟩, z_t4 87 rfl rfl, z_t4 88 rfl rfl⟩
theorem ml_RL_61 : Cond.methodLink RL 61 yX11_learn ∈ z_tbl := z_t4 86 rfl rfl
theorem o_X11_back : z_oV yX11_back cX11_back 3 (some .int) 1 := ⟨⟨z_t4 105 rfl rfl, z_t1 1 rfl rfl, by decide +kernel, by decide⟩, z_t4 103 rfl rfl, z_t4 104 rfl rfl⟩
theorem ml_RL_64 : Cond.methodLink RL 64 yX11_back ∈ z_tbl := z_t4 102 rfl rfl
theorem o_X11_factor : z_oV yX11_factor cX11_factor 3 (some .int) 1 := ⟨⟨z_t4 113 rfl rfl, z_t1 1 rfl rfl, by decide +kernel, by decide⟩, z_t4 111 rfl rfl, z_t4 112 rfl rfl⟩
theorem ml_RL_67 : Cond.methodLink RL 67 yX11_factor ∈ z_tbl := z_t4 110 rfl rfl
theorem o_X11_price : z_oV yX11_price cX11_price 3 (some .long) 2 := ⟨⟨z_t4 120 rfl rfl, z_t1 1 rfl rfl, by decide +kernel, by decide⟩, z_t4 118 rfl rfl, z_t4 119 rfl rfl⟩
theorem ml_RL_70 : Cond.methodLink RL 70 yX11_price ∈ z_tbl := z_t4 117 rfl rfl
theorem o_X11_weight : z_oV yX11_weight cX11_weight 2 (some .long) 1 := ⟨⟨z_t4 132 rfl rfl, z_t1 1 rfl rfl, by decide +kernel, by decide⟩, z_t4 130 rfl rfl, z_t4 131 rfl rfl⟩
theorem ml_RL_74 : Cond.methodLink RL 74 yX11_weight ∈ z_tbl := z_t4 129 rfl rfl
theorem o_X11_weightAnew : z_oV yX11_weightAnew cX11_weightAnew 2 (some .long) 1 := ⟨⟨z_t4 143 rfl rfl, z_t1 1 rfl rfl, by decide +kernel, by decide⟩, z_t4 141 rfl rfl, z_t4 142 rfl rfl⟩
theorem ml_RL_78 : Cond.methodLink RL 78 yX11_weightAnew ∈ z_tbl := z_t4 140 rfl rfl
theorem o_X11_best : z_oV yX11_best cX11_best 2 (some .int) 1 := ⟨⟨z_t4 160 rfl rfl, z_t1 1 rfl rfl, by decide +kernel, by decide⟩, z_t4 158 rfl rfl, z_t4 159 rfl rfl⟩
theorem ml_RL_81 : Cond.methodLink RL 81 yX11_best ∈ z_tbl := z_t4 157 rfl rfl
theorem o_X11_found : z_oV yX11_found cX11_found 5 (some .long) 3 := ⟨⟨z_t4 170 rfl rfl, z_t1 1 rfl rfl, by decide +kernel, by decide⟩, z_t4 168 rfl rfl, z_t4 169 rfl rfl⟩
theorem ml_RL_84 : Cond.methodLink RL 84 yX11_found ∈ z_tbl := z_t4 167 rfl rfl
theorem o_X11_arcs : z_oV yX11_arcs cX11_arcs 3 (some .int) 1 := ⟨⟨z_t4 214 rfl rfl, z_t1 1 rfl rfl, by decide +kernel, by decide⟩, z_t4 212 rfl rfl, z_t4 213 rfl rfl⟩
theorem ml_RL_88 : Cond.methodLink RL 88 yX11_arcs ∈ z_tbl := z_t4 211 rfl rfl
theorem o_X11_arc : z_oV yX11_arc cX11_arc 5 (some .long) 3 := ⟨⟨z_t5 19 rfl rfl, z_t1 1 rfl rfl, by decide +kernel, by decide⟩, z_t5 17 rfl rfl, z_t5 18 rfl rfl⟩
theorem ml_RL_92 : Cond.methodLink RL 92 yX11_arc ∈ z_tbl := z_t5 16 rfl rfl
theorem o_X11_keyword : z_oV yX11_keyword cX11_keyword 2 (some .long) 1 := ⟨⟨z_t5 31 rfl rfl, z_t1 1 rfl rfl, by decide +kernel, by decide⟩, z_t5 29 rfl rfl, z_t5 30 rfl rfl⟩
theorem ml_RL_95 : Cond.methodLink RL 95 yX11_keyword ∈ z_tbl := z_t5 28 rfl rfl
theorem o_X11_sure : z_oV yX11_sure cX11_sure 5 (some .int) 2 := ⟨⟨z_t5 42 rfl rfl, z_t1 1 rfl rfl, by decide +kernel, by decide⟩, z_t5 40 rfl rfl, z_t5 41 rfl rfl⟩
theorem ml_RL_98 : Cond.methodLink RL 98 yX11_sure ∈ z_tbl := z_t5 39 rfl rfl
theorem o_X11_path : z_oV yX11_path cX11_path 3 (some .int) 2 := ⟨⟨z_t5 57 rfl rfl, z_t1 1 rfl rfl, by decide +kernel, by decide⟩, z_t5 55 rfl rfl, z_t5 56 rfl rfl⟩
theorem ml_RL_102 : Cond.methodLink RL 102 yX11_path ∈ z_tbl := z_t5 54 rfl rfl
theorem o_X11_errors : z_oV yX11_errors cX11_errors 2 (some .int) 1 := ⟨⟨z_t5 64 rfl rfl, z_t1 1 rfl rfl, by decide +kernel, by decide⟩, z_t5 62 rfl rfl, z_t5 63 rfl rfl⟩
theorem ml_RL_105 : Cond.methodLink RL 105 yX11_errors ∈ z_tbl := z_t5 61 rfl rfl
theorem o_X11_sum : z_oV yX11_sum cX11_sum 2 (some .int) 1 := ⟨⟨z_t5 80 rfl rfl, z_t1 1 rfl rfl, by decide +kernel, by decide⟩, z_t5 78 rfl rfl, z_t5 79 rfl rfl⟩
theorem ml_RL_108 : Cond.methodLink RL 108 yX11_sum ∈ z_tbl := z_t5 77 rfl rfl
theorem dL_frame_0 : decode cL_frame 0 = .ok (.aload 4, 2) := by decide +kernel
theorem dL_frame_2 : decode cL_frame 2 = .ok (.iconst 0, 1) := by decide +kernel
theorem dL_frame_3 : decode cL_frame 3 = .ok (.aload_n 0, 1) := by decide +kernel
theorem dL_frame_4 : decode cL_frame 4 = .ok (.iload_n 1, 1) := by decide +kernel
theorem dL_frame_5 : decode cL_frame 5 = .ok (.iload_n 2, 1) := by decide +kernel
theorem dL_frame_6 : decode cL_frame 6 = .ok (.iload_n 3, 1) := by decide +kernel
theorem dL_frame_7 : decode cL_frame 7 = .ok (.invokevirtual 7, 3) := by decide +kernel
theorem dL_frame_10 : decode cL_frame 10 = .ok (.i2l, 1) := by decide +kernel
theorem dL_frame_11 : decode cL_frame 11 = .ok (.lastore, 1) := by decide +kernel
theorem dL_frame_12 : decode cL_frame 12 = .ok (.goto 11, 3) := by decide +kernel
theorem dL_frame_15 : decode cL_frame 15 = .ok (.astore 5, 2) := by decide +kernel
theorem dL_frame_17 : decode cL_frame 17 = .ok (.iconst 1, 1) := by decide +kernel
theorem dL_frame_18 : decode cL_frame 18 = .ok (.ireturn, 1) := by decide +kernel
theorem dL_frame_19 : decode cL_frame 19 = .ok (.astore 5, 2) := by decide +kernel
theorem dL_frame_21 : decode cL_frame 21 = .ok (.iconst 2, 1) := by decide +kernel
theorem dL_frame_22 : decode cL_frame 22 = .ok (.ireturn, 1) := by decide +kernel
theorem dL_frame_23 : decode cL_frame 23 = .ok (.iconst 0, 1) := by decide +kernel
theorem dL_frame_24 : decode cL_frame 24 = .ok (.ireturn, 1) := by decide +kernel
def hL_frame : List (Nat × Nat × Nat × Nat) := [(0, 12, 15, 13), (0, 12, 19, 15)]
def J_L_frame (x1 x2 x3 : Int) (st : z_St) : Option (Int × z_St) := match J_X11_frame x1 x2 x3 st with
  | none => none
  | some (.inl q) => z_g (z32 q.1) <| some (0, z_up q.2 199 0 q.1)
  | some (.inr q) => if q.1 = 1 then some (1, q.2) else if q.1 = 2 then some (2, q.2) else none
theorem kL_frame : Cond.codeWith yL_frame cL_frame 6 (some .int) hL_frame ∈ z_tbl := z_t2 159 rfl rfl
set_option maxRecDepth 100000 in
set_option maxHeartbeats 4000000 in
theorem c_L_frame {l : Launch} (hl : l.stackTraces = false) {a : Nat → Nat} {x1 x2 x3 : Int} {st : z_St} {o : Int × z_St} (h : J_L_frame x1 x2 x3 st = some o) : z_MW l yL_frame cL_frame 6 hL_frame 11 z_T z_N a [.ref (a 0), .int (zI x1), .int (zI x2), .int (zI x3), .ref (a 199)] st o.1 o.2 := by
  refine z_ofW hl (by decide +kernel) (Nat.le_of_ble_eq_true rfl) kL_frame (fun κ hc hap he => ?_)
  show z_V κ z_T z_N a 0 0 0 [(0, .ref (a 0)), (1, .int (zI x1)), (2, .int (zI x2)), (3, .int (zI x3)), (4, .ref (a 199))] [] st
  unfold J_L_frame at h
  cases hJ : J_X11_frame x1 x2 x3 st with
  | none => rw [hJ] at h; cases h
  | some R9 =>
    rw [hJ] at h
    rcases R9 with q9 | ⟨e9, st9⟩
    · dsimp only at h
      obtain ⟨hg, h⟩ := z_g_some h
      cases h
      refine z_aload 4 hc dL_frame_0 rfl ?_
      refine z_iconst hc dL_frame_2 ?_
      refine z_aload_n (i := 0) 0 hc dL_frame_3 rfl rfl ?_
      refine z_iload_n (i := 1) 1 hc dL_frame_4 rfl rfl ?_
      refine z_iload_n (i := 2) 2 hc dL_frame_5 rfl rfl ?_
      refine z_iload_n (i := 3) 3 hc dL_frame_6 rfl rfl ?_
      refine z_xcallVI [.int (zI x1), .int (zI x2), .int (zI x3)] hc hap o_X11_frame ml_RL_7 (fun l hl => c_X11_frame_r hl hJ) (by decide) tT_0 (by decide) ⟨_, rfl, rfl⟩ rfl rfl (Nat.le_of_ble_eq_true rfl) (Nat.zero_le _) (Nat.zero_le _) dL_frame_7 ?_
      refine z_i2lc hc dL_frame_10 hg ?_
      refine z_last (kI := 199) (nI9 := 1) (F := fun st9 => some st9) (o := z_up q9.2 199 0 q9.1) hc hap tT_199 (by decide) rfl rfl (by decide) dL_frame_11 (z_g_pos (by decide)) (fun st9 hst9 => ?_)
      cases hst9
      refine z_goto (tgt := 23) hc dL_frame_12 (by decide) ?_
      refine z_iconst hc dL_frame_23 ?_
      refine z_wide (Nat.zero_le 1) (Nat.zero_le 6) ?_
      exact z_retW hc he dL_frame_24
    · dsimp only at h
      by_cases e0 : e9 = 1
      · subst e0
        rw [if_pos rfl] at h
        cases h
        refine z_aload 4 hc dL_frame_0 rfl ?_
        refine z_iconst hc dL_frame_2 ?_
        refine z_aload_n (i := 0) 0 hc dL_frame_3 rfl rfl ?_
        refine z_iload_n (i := 1) 1 hc dL_frame_4 rfl rfl ?_
        refine z_iload_n (i := 2) 2 hc dL_frame_5 rfl rfl ?_
        refine z_iload_n (i := 3) 3 hc dL_frame_6 rfl rfl ?_
        refine z_xthrV (kd := 0) [.int (zI x1), .int (zI x2), .int (zI x3)] hc hap o_X11_frame ml_RL_7 (fun l hl => c_X11_frame_t hl hJ) (by decide) tT_0 (by decide) ⟨_, rfl, rfl⟩ rfl rfl (Nat.le_of_ble_eq_true rfl) (Nat.le_refl 1) (Nat.le_refl 6) dL_frame_7 ?_
        refine z_catch (e9 := 1) [] ⟨0, 12, 15, 13⟩ [⟨0, 12, 19, 15⟩] hc he rfl (by decide) (fun z hz => nomatch hz) (by decide) (by decide) cl_RL_13 (fun q9 => ?_)
        refine z_astore ((5, .ref q9) :: [(0, .ref (a 0)), (1, .int (zI x1)), (2, .int (zI x2)), (3, .int (zI x3)), (4, .ref (a 199))]) hc dL_frame_15 (by decide) rfl ?_
        refine z_iconst hc dL_frame_17 ?_
        exact z_retW hc he dL_frame_18
      rw [if_neg e0] at h
      by_cases e1 : e9 = 2
      · subst e1
        rw [if_pos rfl] at h
        cases h
        refine z_aload 4 hc dL_frame_0 rfl ?_
        refine z_iconst hc dL_frame_2 ?_
        refine z_aload_n (i := 0) 0 hc dL_frame_3 rfl rfl ?_
        refine z_iload_n (i := 1) 1 hc dL_frame_4 rfl rfl ?_
        refine z_iload_n (i := 2) 2 hc dL_frame_5 rfl rfl ?_
        refine z_iload_n (i := 3) 3 hc dL_frame_6 rfl rfl ?_
        refine z_xthrV (kd := 0) [.int (zI x1), .int (zI x2), .int (zI x3)] hc hap o_X11_frame ml_RL_7 (fun l hl => c_X11_frame_t hl hJ) (by decide) tT_0 (by decide) ⟨_, rfl, rfl⟩ rfl rfl (Nat.le_of_ble_eq_true rfl) (Nat.le_refl 1) (Nat.le_refl 6) dL_frame_7 ?_
        refine z_catch (e9 := 2) [⟨0, 12, 15, 13⟩] ⟨0, 12, 19, 15⟩ [] hc he rfl (by decide) (fun z hz => by
        rcases List.mem_cons.mp hz with e | hz
        · subst e; exact ⟨1, by decide, by decide, cl_RL_13, by decide⟩
        · cases hz) (by decide) (by decide) cl_RL_15 (fun q9 => ?_)
        refine z_astore ((5, .ref q9) :: [(0, .ref (a 0)), (1, .int (zI x1)), (2, .int (zI x2)), (3, .int (zI x3)), (4, .ref (a 199))]) hc dL_frame_19 (by decide) rfl ?_
        refine z_iconst hc dL_frame_21 ?_
        exact z_retW hc he dL_frame_22
      rw [if_neg e1] at h
      cases h
theorem dL_speak_0 : decode cL_speak 0 = .ok (.aload_n 2, 1) := by decide +kernel
theorem dL_speak_1 : decode cL_speak 1 = .ok (.iconst 0, 1) := by decide +kernel
theorem dL_speak_2 : decode cL_speak 2 = .ok (.aload_n 0, 1) := by decide +kernel
theorem dL_speak_3 : decode cL_speak 3 = .ok (.iload_n 1, 1) := by decide +kernel
theorem dL_speak_4 : decode cL_speak 4 = .ok (.invokevirtual 17, 3) := by decide +kernel
theorem dL_speak_7 : decode cL_speak 7 = .ok (.i2l, 1) := by decide +kernel
theorem dL_speak_8 : decode cL_speak 8 = .ok (.lastore, 1) := by decide +kernel
theorem dL_speak_9 : decode cL_speak 9 = .ok (.goto 6, 3) := by decide +kernel
theorem dL_speak_12 : decode cL_speak 12 = .ok (.astore_n 3, 1) := by decide +kernel
theorem dL_speak_13 : decode cL_speak 13 = .ok (.iconst 1, 1) := by decide +kernel
theorem dL_speak_14 : decode cL_speak 14 = .ok (.ireturn, 1) := by decide +kernel
theorem dL_speak_15 : decode cL_speak 15 = .ok (.iconst 0, 1) := by decide +kernel
theorem dL_speak_16 : decode cL_speak 16 = .ok (.ireturn, 1) := by decide +kernel
def hL_speak : List (Nat × Nat × Nat × Nat) := [(0, 9, 12, 21)]
def J_L_speak (x1 : Int) (st : z_St) : Option (Int × z_St) := match J_X11_speak x1 st with
  | none => none
  | some (.inl q) => z_g (z32 q.1) <| some (0, z_up q.2 199 0 q.1)
  | some (.inr q) => if q.1 = 3 then some (1, q.2) else none
theorem kL_speak : Cond.codeWith yL_speak cL_speak 4 (some .int) hL_speak ∈ z_tbl := z_t3 21 rfl rfl
set_option maxRecDepth 100000 in
set_option maxHeartbeats 4000000 in
theorem c_L_speak {l : Launch} (hl : l.stackTraces = false) {a : Nat → Nat} {x1 : Int} {st : z_St} {o : Int × z_St} (h : J_L_speak x1 st = some o) : z_MW l yL_speak cL_speak 4 hL_speak 10 z_T z_N a [.ref (a 0), .int (zI x1), .ref (a 199)] st o.1 o.2 := by
  refine z_ofW hl (by decide +kernel) (Nat.le_of_ble_eq_true rfl) kL_speak (fun κ hc hap he => ?_)
  show z_V κ z_T z_N a 0 0 0 [(0, .ref (a 0)), (1, .int (zI x1)), (2, .ref (a 199))] [] st
  unfold J_L_speak at h
  cases hJ : J_X11_speak x1 st with
  | none => rw [hJ] at h; cases h
  | some R9 =>
    rw [hJ] at h
    rcases R9 with q9 | ⟨e9, st9⟩
    · dsimp only at h
      obtain ⟨hg, h⟩ := z_g_some h
      cases h
      refine z_aload_n (i := 2) 2 hc dL_speak_0 rfl rfl ?_
      refine z_iconst hc dL_speak_1 ?_
      refine z_aload_n (i := 0) 0 hc dL_speak_2 rfl rfl ?_
      refine z_iload_n (i := 1) 1 hc dL_speak_3 rfl rfl ?_
      refine z_xcallVI [.int (zI x1)] hc hap o_X11_speak ml_RL_17 (fun l hl => c_X11_speak_r hl hJ) (by decide) tT_0 (by decide) ⟨_, rfl, rfl⟩ rfl rfl (Nat.le_of_ble_eq_true rfl) (Nat.zero_le _) (Nat.zero_le _) dL_speak_4 ?_
      refine z_i2lc hc dL_speak_7 hg ?_
      refine z_last (kI := 199) (nI9 := 1) (F := fun st9 => some st9) (o := z_up q9.2 199 0 q9.1) hc hap tT_199 (by decide) rfl rfl (by decide) dL_speak_8 (z_g_pos (by decide)) (fun st9 hst9 => ?_)
      cases hst9
      refine z_goto (tgt := 15) hc dL_speak_9 (by decide) ?_
      refine z_iconst hc dL_speak_15 ?_
      refine z_wide (Nat.zero_le 1) (Nat.zero_le 6) ?_
      exact z_retW hc he dL_speak_16
    · dsimp only at h
      by_cases e0 : e9 = 3
      · subst e0
        rw [if_pos rfl] at h
        cases h
        refine z_aload_n (i := 2) 2 hc dL_speak_0 rfl rfl ?_
        refine z_iconst hc dL_speak_1 ?_
        refine z_aload_n (i := 0) 0 hc dL_speak_2 rfl rfl ?_
        refine z_iload_n (i := 1) 1 hc dL_speak_3 rfl rfl ?_
        refine z_xthrV (kd := 0) [.int (zI x1)] hc hap o_X11_speak ml_RL_17 (fun l hl => c_X11_speak_t hl hJ) (by decide) tT_0 (by decide) ⟨_, rfl, rfl⟩ rfl rfl (Nat.le_of_ble_eq_true rfl) (Nat.le_refl 1) (Nat.le_refl 6) dL_speak_4 ?_
        refine z_catch (e9 := 3) [] ⟨0, 9, 12, 21⟩ [] hc he rfl (by decide) (fun z hz => nomatch hz) (by decide) (by decide) cl_RL_21 (fun q9 => ?_)
        refine z_astore_n (i := 3) ((3, .ref q9) :: [(0, .ref (a 0)), (1, .int (zI x1)), (2, .ref (a 199))]) hc dL_speak_12 rfl (by decide) rfl ?_
        refine z_iconst hc dL_speak_13 ?_
        exact z_retW hc he dL_speak_14
      rw [if_neg e0] at h
      cases h
theorem dL_shift_0 : decode cL_shift 0 = .ok (.aload 4, 2) := by decide +kernel
theorem dL_shift_2 : decode cL_shift 2 = .ok (.iconst 0, 1) := by decide +kernel
theorem dL_shift_3 : decode cL_shift 3 = .ok (.aload_n 0, 1) := by decide +kernel
theorem dL_shift_4 : decode cL_shift 4 = .ok (.iload_n 1, 1) := by decide +kernel
theorem dL_shift_5 : decode cL_shift 5 = .ok (.iload_n 2, 1) := by decide +kernel
theorem dL_shift_6 : decode cL_shift 6 = .ok (.iload_n 3, 1) := by decide +kernel
theorem dL_shift_7 : decode cL_shift 7 = .ok (.invokevirtual 23, 3) := by decide +kernel
theorem dL_shift_10 : decode cL_shift 10 = .ok (.i2l, 1) := by decide +kernel
theorem dL_shift_11 : decode cL_shift 11 = .ok (.lastore, 1) := by decide +kernel
theorem dL_shift_12 : decode cL_shift 12 = .ok (.goto 11, 3) := by decide +kernel
theorem dL_shift_15 : decode cL_shift 15 = .ok (.astore 5, 2) := by decide +kernel
theorem dL_shift_17 : decode cL_shift 17 = .ok (.iconst 1, 1) := by decide +kernel
theorem dL_shift_18 : decode cL_shift 18 = .ok (.ireturn, 1) := by decide +kernel
theorem dL_shift_19 : decode cL_shift 19 = .ok (.astore 5, 2) := by decide +kernel
theorem dL_shift_21 : decode cL_shift 21 = .ok (.iconst 2, 1) := by decide +kernel
theorem dL_shift_22 : decode cL_shift 22 = .ok (.ireturn, 1) := by decide +kernel
theorem dL_shift_23 : decode cL_shift 23 = .ok (.iconst 0, 1) := by decide +kernel
theorem dL_shift_24 : decode cL_shift 24 = .ok (.ireturn, 1) := by decide +kernel
def hL_shift : List (Nat × Nat × Nat × Nat) := [(0, 12, 15, 21), (0, 12, 19, 13)]
def J_L_shift (x1 x2 x3 : Int) (st : z_St) : Option (Int × z_St) := match J_X11_shift x1 x2 x3 st with
  | none => none
  | some (.inl q) => z_g (z32 q.1) <| some (0, z_up q.2 199 0 q.1)
  | some (.inr q) => if q.1 = 3 then some (1, q.2) else if q.1 = 1 then some (2, q.2) else none
theorem kL_shift : Cond.codeWith yL_shift cL_shift 6 (some .int) hL_shift ∈ z_tbl := z_t3 48 rfl rfl
set_option maxRecDepth 100000 in
set_option maxHeartbeats 4000000 in
theorem c_L_shift {l : Launch} (hl : l.stackTraces = false) {a : Nat → Nat} {x1 x2 x3 : Int} {st : z_St} {o : Int × z_St} (h : J_L_shift x1 x2 x3 st = some o) : z_MW l yL_shift cL_shift 6 hL_shift 10 z_T z_N a [.ref (a 0), .int (zI x1), .int (zI x2), .int (zI x3), .ref (a 199)] st o.1 o.2 := by
  refine z_ofW hl (by decide +kernel) (Nat.le_of_ble_eq_true rfl) kL_shift (fun κ hc hap he => ?_)
  show z_V κ z_T z_N a 0 0 0 [(0, .ref (a 0)), (1, .int (zI x1)), (2, .int (zI x2)), (3, .int (zI x3)), (4, .ref (a 199))] [] st
  unfold J_L_shift at h
  cases hJ : J_X11_shift x1 x2 x3 st with
  | none => rw [hJ] at h; cases h
  | some R9 =>
    rw [hJ] at h
    rcases R9 with q9 | ⟨e9, st9⟩
    · dsimp only at h
      obtain ⟨hg, h⟩ := z_g_some h
      cases h
      refine z_aload 4 hc dL_shift_0 rfl ?_
      refine z_iconst hc dL_shift_2 ?_
      refine z_aload_n (i := 0) 0 hc dL_shift_3 rfl rfl ?_
      refine z_iload_n (i := 1) 1 hc dL_shift_4 rfl rfl ?_
      refine z_iload_n (i := 2) 2 hc dL_shift_5 rfl rfl ?_
      refine z_iload_n (i := 3) 3 hc dL_shift_6 rfl rfl ?_
      refine z_xcallVI [.int (zI x1), .int (zI x2), .int (zI x3)] hc hap o_X11_shift ml_RL_23 (fun l hl => c_X11_shift_r hl hJ) (by decide) tT_0 (by decide) ⟨_, rfl, rfl⟩ rfl rfl (Nat.le_of_ble_eq_true rfl) (Nat.zero_le _) (Nat.zero_le _) dL_shift_7 ?_
      refine z_i2lc hc dL_shift_10 hg ?_
      refine z_last (kI := 199) (nI9 := 1) (F := fun st9 => some st9) (o := z_up q9.2 199 0 q9.1) hc hap tT_199 (by decide) rfl rfl (by decide) dL_shift_11 (z_g_pos (by decide)) (fun st9 hst9 => ?_)
      cases hst9
      refine z_goto (tgt := 23) hc dL_shift_12 (by decide) ?_
      refine z_iconst hc dL_shift_23 ?_
      refine z_wide (Nat.zero_le 1) (Nat.zero_le 6) ?_
      exact z_retW hc he dL_shift_24
    · dsimp only at h
      by_cases e0 : e9 = 3
      · subst e0
        rw [if_pos rfl] at h
        cases h
        refine z_aload 4 hc dL_shift_0 rfl ?_
        refine z_iconst hc dL_shift_2 ?_
        refine z_aload_n (i := 0) 0 hc dL_shift_3 rfl rfl ?_
        refine z_iload_n (i := 1) 1 hc dL_shift_4 rfl rfl ?_
        refine z_iload_n (i := 2) 2 hc dL_shift_5 rfl rfl ?_
        refine z_iload_n (i := 3) 3 hc dL_shift_6 rfl rfl ?_
        refine z_xthrV (kd := 0) [.int (zI x1), .int (zI x2), .int (zI x3)] hc hap o_X11_shift ml_RL_23 (fun l hl => c_X11_shift_t hl hJ) (by decide) tT_0 (by decide) ⟨_, rfl, rfl⟩ rfl rfl (Nat.le_of_ble_eq_true rfl) (Nat.le_refl 1) (Nat.le_refl 6) dL_shift_7 ?_
        refine z_catch (e9 := 3) [] ⟨0, 12, 15, 21⟩ [⟨0, 12, 19, 13⟩] hc he rfl (by decide) (fun z hz => nomatch hz) (by decide) (by decide) cl_RL_21 (fun q9 => ?_)
        refine z_astore ((5, .ref q9) :: [(0, .ref (a 0)), (1, .int (zI x1)), (2, .int (zI x2)), (3, .int (zI x3)), (4, .ref (a 199))]) hc dL_shift_15 (by decide) rfl ?_
        refine z_iconst hc dL_shift_17 ?_
        exact z_retW hc he dL_shift_18
      rw [if_neg e0] at h
      by_cases e1 : e9 = 1
      · subst e1
        rw [if_pos rfl] at h
        cases h
        refine z_aload 4 hc dL_shift_0 rfl ?_
        refine z_iconst hc dL_shift_2 ?_
        refine z_aload_n (i := 0) 0 hc dL_shift_3 rfl rfl ?_
        refine z_iload_n (i := 1) 1 hc dL_shift_4 rfl rfl ?_
        refine z_iload_n (i := 2) 2 hc dL_shift_5 rfl rfl ?_
        refine z_iload_n (i := 3) 3 hc dL_shift_6 rfl rfl ?_
        refine z_xthrV (kd := 0) [.int (zI x1), .int (zI x2), .int (zI x3)] hc hap o_X11_shift ml_RL_23 (fun l hl => c_X11_shift_t hl hJ) (by decide) tT_0 (by decide) ⟨_, rfl, rfl⟩ rfl rfl (Nat.le_of_ble_eq_true rfl) (Nat.le_refl 1) (Nat.le_refl 6) dL_shift_7 ?_
        refine z_catch (e9 := 1) [⟨0, 12, 15, 21⟩] ⟨0, 12, 19, 13⟩ [] hc he rfl (by decide) (fun z hz => by
        rcases List.mem_cons.mp hz with e | hz
        · subst e; exact ⟨3, by decide, by decide, cl_RL_21, by decide⟩
        · cases hz) (by decide) (by decide) cl_RL_13 (fun q9 => ?_)
        refine z_astore ((5, .ref q9) :: [(0, .ref (a 0)), (1, .int (zI x1)), (2, .int (zI x2)), (3, .int (zI x3)), (4, .ref (a 199))]) hc dL_shift_19 (by decide) rfl ?_
        refine z_iconst hc dL_shift_21 ?_
        exact z_retW hc he dL_shift_22
      rw [if_neg e1] at h
      cases h
theorem dL_shiftOf_0 : decode cL_shiftOf 0 = .ok (.aload_n 3, 1) := by decide +kernel
theorem dL_shiftOf_1 : decode cL_shiftOf 1 = .ok (.iconst 0, 1) := by decide +kernel
theorem dL_shiftOf_2 : decode cL_shiftOf 2 = .ok (.aload_n 0, 1) := by decide +kernel
theorem dL_shiftOf_3 : decode cL_shiftOf 3 = .ok (.iload_n 1, 1) := by decide +kernel
theorem dL_shiftOf_4 : decode cL_shiftOf 4 = .ok (.iload_n 2, 1) := by decide +kernel
theorem dL_shiftOf_5 : decode cL_shiftOf 5 = .ok (.invokevirtual 26, 3) := by decide +kernel
theorem dL_shiftOf_8 : decode cL_shiftOf 8 = .ok (.i2l, 1) := by decide +kernel
theorem dL_shiftOf_9 : decode cL_shiftOf 9 = .ok (.lastore, 1) := by decide +kernel
theorem dL_shiftOf_10 : decode cL_shiftOf 10 = .ok (.goto 11, 3) := by decide +kernel
theorem dL_shiftOf_13 : decode cL_shiftOf 13 = .ok (.astore 4, 2) := by decide +kernel
theorem dL_shiftOf_15 : decode cL_shiftOf 15 = .ok (.iconst 1, 1) := by decide +kernel
theorem dL_shiftOf_16 : decode cL_shiftOf 16 = .ok (.ireturn, 1) := by decide +kernel
theorem dL_shiftOf_17 : decode cL_shiftOf 17 = .ok (.astore 4, 2) := by decide +kernel
theorem dL_shiftOf_19 : decode cL_shiftOf 19 = .ok (.iconst 2, 1) := by decide +kernel
theorem dL_shiftOf_20 : decode cL_shiftOf 20 = .ok (.ireturn, 1) := by decide +kernel
theorem dL_shiftOf_21 : decode cL_shiftOf 21 = .ok (.iconst 0, 1) := by decide +kernel
theorem dL_shiftOf_22 : decode cL_shiftOf 22 = .ok (.ireturn, 1) := by decide +kernel
def hL_shiftOf : List (Nat × Nat × Nat × Nat) := [(0, 10, 13, 21), (0, 10, 17, 13)]
def J_L_shiftOf (x1 x2 : Int) (st : z_St) : Option (Int × z_St) := match J_X11_shiftOf x1 x2 st with
  | none => none
  | some (.inl q) => z_g (z32 q) <| some (0, z_up st 199 0 q)
  | some (.inr q) => if q.1 = 3 then some (1, q.2) else if q.1 = 1 then some (2, q.2) else none
theorem kL_shiftOf : Cond.codeWith yL_shiftOf cL_shiftOf 5 (some .int) hL_shiftOf ∈ z_tbl := z_t3 55 rfl rfl
set_option maxRecDepth 100000 in
set_option maxHeartbeats 4000000 in
theorem c_L_shiftOf {l : Launch} (hl : l.stackTraces = false) {a : Nat → Nat} {x1 x2 : Int} {st : z_St} {o : Int × z_St} (h : J_L_shiftOf x1 x2 st = some o) : z_MW l yL_shiftOf cL_shiftOf 5 hL_shiftOf 10 z_T z_N a [.ref (a 0), .int (zI x1), .int (zI x2), .ref (a 199)] st o.1 o.2 := by
  refine z_ofW hl (by decide +kernel) (Nat.le_of_ble_eq_true rfl) kL_shiftOf (fun κ hc hap he => ?_)
  show z_V κ z_T z_N a 0 0 0 [(0, .ref (a 0)), (1, .int (zI x1)), (2, .int (zI x2)), (3, .ref (a 199))] [] st
  unfold J_L_shiftOf at h
  cases hJ : J_X11_shiftOf x1 x2 st with
  | none => rw [hJ] at h; cases h
  | some R9 =>
    rw [hJ] at h
    rcases R9 with q9 | ⟨e9, st9⟩
    · dsimp only at h
      obtain ⟨hg, h⟩ := z_g_some h
      cases h
      refine z_aload_n (i := 3) 3 hc dL_shiftOf_0 rfl rfl ?_
      refine z_iconst hc dL_shiftOf_1 ?_
      refine z_aload_n (i := 0) 0 hc dL_shiftOf_2 rfl rfl ?_
      refine z_iload_n (i := 1) 1 hc dL_shiftOf_3 rfl rfl ?_
      refine z_iload_n (i := 2) 2 hc dL_shiftOf_4 rfl rfl ?_
      refine z_xcallVI [.int (zI x1), .int (zI x2)] hc hap o_X11_shiftOf ml_RL_26 (fun l hl => c_X11_shiftOf_r hl hJ) (by decide) tT_0 (by decide) ⟨_, rfl, rfl⟩ rfl rfl (Nat.le_of_ble_eq_true rfl) (Nat.zero_le _) (Nat.zero_le _) dL_shiftOf_5 ?_
      refine z_i2lc hc dL_shiftOf_8 hg ?_
      refine z_last (kI := 199) (nI9 := 1) (F := fun st9 => some st9) (o := z_up st 199 0 q9) hc hap tT_199 (by decide) rfl rfl (by decide) dL_shiftOf_9 (z_g_pos (by decide)) (fun st9 hst9 => ?_)
      cases hst9
      refine z_goto (tgt := 21) hc dL_shiftOf_10 (by decide) ?_
      refine z_iconst hc dL_shiftOf_21 ?_
      refine z_wide (Nat.zero_le 1) (Nat.zero_le 6) ?_
      exact z_retW hc he dL_shiftOf_22
    · dsimp only at h
      by_cases e0 : e9 = 3
      · subst e0
        rw [if_pos rfl] at h
        cases h
        refine z_aload_n (i := 3) 3 hc dL_shiftOf_0 rfl rfl ?_
        refine z_iconst hc dL_shiftOf_1 ?_
        refine z_aload_n (i := 0) 0 hc dL_shiftOf_2 rfl rfl ?_
        refine z_iload_n (i := 1) 1 hc dL_shiftOf_3 rfl rfl ?_
        refine z_iload_n (i := 2) 2 hc dL_shiftOf_4 rfl rfl ?_
        refine z_xthrV (kd := 0) [.int (zI x1), .int (zI x2)] hc hap o_X11_shiftOf ml_RL_26 (fun l hl => c_X11_shiftOf_t hl hJ) (by decide) tT_0 (by decide) ⟨_, rfl, rfl⟩ rfl rfl (Nat.le_of_ble_eq_true rfl) (Nat.le_refl 1) (Nat.le_refl 6) dL_shiftOf_5 ?_
        refine z_catch (e9 := 3) [] ⟨0, 10, 13, 21⟩ [⟨0, 10, 17, 13⟩] hc he rfl (by decide) (fun z hz => nomatch hz) (by decide) (by decide) cl_RL_21 (fun q9 => ?_)
        refine z_astore ((4, .ref q9) :: [(0, .ref (a 0)), (1, .int (zI x1)), (2, .int (zI x2)), (3, .ref (a 199))]) hc dL_shiftOf_13 (by decide) rfl ?_
        refine z_iconst hc dL_shiftOf_15 ?_
        exact z_retW hc he dL_shiftOf_16
      rw [if_neg e0] at h
      by_cases e1 : e9 = 1
      · subst e1
        rw [if_pos rfl] at h
        cases h
        refine z_aload_n (i := 3) 3 hc dL_shiftOf_0 rfl rfl ?_
        refine z_iconst hc dL_shiftOf_1 ?_
        refine z_aload_n (i := 0) 0 hc dL_shiftOf_2 rfl rfl ?_
        refine z_iload_n (i := 1) 1 hc dL_shiftOf_3 rfl rfl ?_
        refine z_iload_n (i := 2) 2 hc dL_shiftOf_4 rfl rfl ?_
        refine z_xthrV (kd := 0) [.int (zI x1), .int (zI x2)] hc hap o_X11_shiftOf ml_RL_26 (fun l hl => c_X11_shiftOf_t hl hJ) (by decide) tT_0 (by decide) ⟨_, rfl, rfl⟩ rfl rfl (Nat.le_of_ble_eq_true rfl) (Nat.le_refl 1) (Nat.le_refl 6) dL_shiftOf_5 ?_
        refine z_catch (e9 := 1) [⟨0, 10, 13, 21⟩] ⟨0, 10, 17, 13⟩ [] hc he rfl (by decide) (fun z hz => by
        rcases List.mem_cons.mp hz with e | hz
        · subst e; exact ⟨3, by decide, by decide, cl_RL_21, by decide⟩
        · cases hz) (by decide) (by decide) cl_RL_13 (fun q9 => ?_)
        refine z_astore ((4, .ref q9) :: [(0, .ref (a 0)), (1, .int (zI x1)), (2, .int (zI x2)), (3, .ref (a 199))]) hc dL_shiftOf_17 (by decide) rfl ?_
        refine z_iconst hc dL_shiftOf_19 ?_
        exact z_retW hc he dL_shiftOf_20
      rw [if_neg e1] at h
      cases h
theorem dL_fit_0 : decode cL_fit 0 = .ok (.aload_n 1, 1) := by decide +kernel
theorem dL_fit_1 : decode cL_fit 1 = .ok (.iconst 0, 1) := by decide +kernel
theorem dL_fit_2 : decode cL_fit 2 = .ok (.aload_n 0, 1) := by decide +kernel
theorem dL_fit_3 : decode cL_fit 3 = .ok (.invokevirtual 30, 3) := by decide +kernel
theorem dL_fit_6 : decode cL_fit 6 = .ok (.lastore, 1) := by decide +kernel
theorem dL_fit_7 : decode cL_fit 7 = .ok (.goto 6, 3) := by decide +kernel
theorem dL_fit_10 : decode cL_fit 10 = .ok (.astore_n 2, 1) := by decide +kernel
theorem dL_fit_11 : decode cL_fit 11 = .ok (.iconst 1, 1) := by decide +kernel
theorem dL_fit_12 : decode cL_fit 12 = .ok (.ireturn, 1) := by decide +kernel
theorem dL_fit_13 : decode cL_fit 13 = .ok (.iconst 0, 1) := by decide +kernel
theorem dL_fit_14 : decode cL_fit 14 = .ok (.ireturn, 1) := by decide +kernel
def hL_fit : List (Nat × Nat × Nat × Nat) := [(0, 7, 10, 15)]
def J_L_fit (st : z_St) : Option (Int × z_St) := match J_X11_fit st with
  | none => none
  | some (.inl q) => some (0, z_up q.2 199 0 q.1)
  | some (.inr q) => if q.1 = 2 then some (1, q.2) else none
theorem kL_fit : Cond.codeWith yL_fit cL_fit 3 (some .int) hL_fit ∈ z_tbl := z_t3 62 rfl rfl
set_option maxRecDepth 100000 in
set_option maxHeartbeats 4000000 in
theorem c_L_fit {l : Launch} (hl : l.stackTraces = false) {a : Nat → Nat} {st : z_St} {o : Int × z_St} (h : J_L_fit st = some o) : z_MW l yL_fit cL_fit 3 hL_fit 15 z_T z_N a [.ref (a 0), .ref (a 199)] st o.1 o.2 := by
  refine z_ofW hl (by decide +kernel) (Nat.le_of_ble_eq_true rfl) kL_fit (fun κ hc hap he => ?_)
  show z_V κ z_T z_N a 0 0 0 [(0, .ref (a 0)), (1, .ref (a 199))] [] st
  unfold J_L_fit at h
  cases hJ : J_X11_fit st with
  | none => rw [hJ] at h; cases h
  | some R9 =>
    rw [hJ] at h
    rcases R9 with q9 | ⟨e9, st9⟩
    · dsimp only at h
      cases h
      refine z_aload_n (i := 1) 1 hc dL_fit_0 rfl rfl ?_
      refine z_iconst hc dL_fit_1 ?_
      refine z_aload_n (i := 0) 0 hc dL_fit_2 rfl rfl ?_
      refine z_xcallVJ [] hc hap o_X11_fit ml_RL_30 (fun l hl => c_X11_fit_r hl hJ) (by decide) tT_0 (by decide) ⟨_, rfl, rfl⟩ rfl rfl (Nat.le_of_ble_eq_true rfl) (Nat.zero_le _) (Nat.zero_le _) dL_fit_3 ?_
      refine z_last (kI := 199) (nI9 := 1) (F := fun st9 => some st9) (o := z_up q9.2 199 0 q9.1) hc hap tT_199 (by decide) rfl rfl (by decide) dL_fit_6 (z_g_pos (by decide)) (fun st9 hst9 => ?_)
      cases hst9
      refine z_goto (tgt := 13) hc dL_fit_7 (by decide) ?_
      refine z_iconst hc dL_fit_13 ?_
      refine z_wide (Nat.zero_le 1) (Nat.zero_le 6) ?_
      exact z_retW hc he dL_fit_14
    · dsimp only at h
      by_cases e0 : e9 = 2
      · subst e0
        rw [if_pos rfl] at h
        cases h
        refine z_aload_n (i := 1) 1 hc dL_fit_0 rfl rfl ?_
        refine z_iconst hc dL_fit_1 ?_
        refine z_aload_n (i := 0) 0 hc dL_fit_2 rfl rfl ?_
        refine z_xthrV (kd := 1) [] hc hap o_X11_fit ml_RL_30 (fun l hl => c_X11_fit_t hl hJ) (by decide) tT_0 (by decide) ⟨_, rfl, rfl⟩ rfl rfl (Nat.le_of_ble_eq_true rfl) (Nat.le_refl 1) (Nat.le_refl 6) dL_fit_3 ?_
        refine z_catch (e9 := 2) [] ⟨0, 7, 10, 15⟩ [] hc he rfl (by decide) (fun z hz => nomatch hz) (by decide) (by decide) cl_RL_15 (fun q9 => ?_)
        refine z_astore_n (i := 2) ((2, .ref q9) :: [(0, .ref (a 0)), (1, .ref (a 199))]) hc dL_fit_10 rfl (by decide) rfl ?_
        refine z_iconst hc dL_fit_11 ?_
        exact z_retW hc he dL_fit_12
      rw [if_neg e0] at h
      cases h
theorem dL_sound_0 : decode cL_sound 0 = .ok (.aload 5, 2) := by decide +kernel
theorem dL_sound_2 : decode cL_sound 2 = .ok (.iconst 0, 1) := by decide +kernel
theorem dL_sound_3 : decode cL_sound 3 = .ok (.aload_n 0, 1) := by decide +kernel
theorem dL_sound_4 : decode cL_sound 4 = .ok (.iload_n 1, 1) := by decide +kernel
theorem dL_sound_5 : decode cL_sound 5 = .ok (.iload_n 2, 1) := by decide +kernel
theorem dL_sound_6 : decode cL_sound 6 = .ok (.iload_n 3, 1) := by decide +kernel
theorem dL_sound_7 : decode cL_sound 7 = .ok (.iload 4, 2) := by decide +kernel
theorem dL_sound_9 : decode cL_sound 9 = .ok (.invokevirtual 34, 3) := by decide +kernel
theorem dL_sound_12 : decode cL_sound 12 = .ok (.i2l, 1) := by decide +kernel
theorem dL_sound_13 : decode cL_sound 13 = .ok (.lastore, 1) := by decide +kernel
theorem dL_sound_14 : decode cL_sound 14 = .ok (.goto 11, 3) := by decide +kernel
theorem dL_sound_17 : decode cL_sound 17 = .ok (.astore 6, 2) := by decide +kernel
theorem dL_sound_19 : decode cL_sound 19 = .ok (.iconst 1, 1) := by decide +kernel
theorem dL_sound_20 : decode cL_sound 20 = .ok (.ireturn, 1) := by decide +kernel
theorem dL_sound_21 : decode cL_sound 21 = .ok (.astore 6, 2) := by decide +kernel
theorem dL_sound_23 : decode cL_sound 23 = .ok (.iconst 2, 1) := by decide +kernel
theorem dL_sound_24 : decode cL_sound 24 = .ok (.ireturn, 1) := by decide +kernel
theorem dL_sound_25 : decode cL_sound 25 = .ok (.iconst 0, 1) := by decide +kernel
theorem dL_sound_26 : decode cL_sound 26 = .ok (.ireturn, 1) := by decide +kernel
def hL_sound : List (Nat × Nat × Nat × Nat) := [(0, 14, 17, 13), (0, 14, 21, 15)]
def J_L_sound (x1 x2 x3 x4 : Int) (st : z_St) : Option (Int × z_St) := match J_X11_sound x1 x2 x3 x4 st with
  | none => none
  | some (.inl q) => z_g (z32 q.1) <| some (0, z_up q.2 199 0 q.1)
  | some (.inr q) => if q.1 = 1 then some (1, q.2) else if q.1 = 2 then some (2, q.2) else none
theorem kL_sound : Cond.codeWith yL_sound cL_sound 7 (some .int) hL_sound ∈ z_tbl := z_t3 235 rfl rfl
set_option maxRecDepth 100000 in
set_option maxHeartbeats 4000000 in
theorem c_L_sound {l : Launch} (hl : l.stackTraces = false) {a : Nat → Nat} {x1 x2 x3 x4 : Int} {st : z_St} {o : Int × z_St} (h : J_L_sound x1 x2 x3 x4 st = some o) : z_MW l yL_sound cL_sound 7 hL_sound 11 z_T z_N a [.ref (a 0), .int (zI x1), .int (zI x2), .int (zI x3), .int (zI x4), .ref (a 199)] st o.1 o.2 := by
  refine z_ofW hl (by decide +kernel) (Nat.le_of_ble_eq_true rfl) kL_sound (fun κ hc hap he => ?_)
  show z_V κ z_T z_N a 0 0 0 [(0, .ref (a 0)), (1, .int (zI x1)), (2, .int (zI x2)), (3, .int (zI x3)), (4, .int (zI x4)), (5, .ref (a 199))] [] st
  unfold J_L_sound at h
  cases hJ : J_X11_sound x1 x2 x3 x4 st with
  | none => rw [hJ] at h; cases h
  | some R9 =>
    rw [hJ] at h
    rcases R9 with q9 | ⟨e9, st9⟩
    · dsimp only at h
      obtain ⟨hg, h⟩ := z_g_some h
      cases h
      refine z_aload 5 hc dL_sound_0 rfl ?_
      refine z_iconst hc dL_sound_2 ?_
      refine z_aload_n (i := 0) 0 hc dL_sound_3 rfl rfl ?_
      refine z_iload_n (i := 1) 1 hc dL_sound_4 rfl rfl ?_
      refine z_iload_n (i := 2) 2 hc dL_sound_5 rfl rfl ?_
      refine z_iload_n (i := 3) 3 hc dL_sound_6 rfl rfl ?_
      refine z_iload 4 hc dL_sound_7 rfl ?_
      refine z_xcallVI [.int (zI x1), .int (zI x2), .int (zI x3), .int (zI x4)] hc hap o_X11_sound ml_RL_34 (fun l hl => c_X11_sound_r hl hJ) (by decide) tT_0 (by decide) ⟨_, rfl, rfl⟩ rfl rfl (Nat.le_of_ble_eq_true rfl) (Nat.zero_le _) (Nat.zero_le _) dL_sound_9 ?_
      refine z_i2lc hc dL_sound_12 hg ?_
      refine z_last (kI := 199) (nI9 := 1) (F := fun st9 => some st9) (o := z_up q9.2 199 0 q9.1) hc hap tT_199 (by decide) rfl rfl (by decide) dL_sound_13 (z_g_pos (by decide)) (fun st9 hst9 => ?_)
      cases hst9
      refine z_goto (tgt := 25) hc dL_sound_14 (by decide) ?_
      refine z_iconst hc dL_sound_25 ?_
      refine z_wide (Nat.zero_le 1) (Nat.zero_le 6) ?_
      exact z_retW hc he dL_sound_26
    · dsimp only at h
      by_cases e0 : e9 = 1
      · subst e0
        rw [if_pos rfl] at h
        cases h
        refine z_aload 5 hc dL_sound_0 rfl ?_
        refine z_iconst hc dL_sound_2 ?_
        refine z_aload_n (i := 0) 0 hc dL_sound_3 rfl rfl ?_
        refine z_iload_n (i := 1) 1 hc dL_sound_4 rfl rfl ?_
        refine z_iload_n (i := 2) 2 hc dL_sound_5 rfl rfl ?_
        refine z_iload_n (i := 3) 3 hc dL_sound_6 rfl rfl ?_
        refine z_iload 4 hc dL_sound_7 rfl ?_
        refine z_xthrV (kd := 0) [.int (zI x1), .int (zI x2), .int (zI x3), .int (zI x4)] hc hap o_X11_sound ml_RL_34 (fun l hl => c_X11_sound_t hl hJ) (by decide) tT_0 (by decide) ⟨_, rfl, rfl⟩ rfl rfl (Nat.le_of_ble_eq_true rfl) (Nat.le_refl 1) (Nat.le_refl 6) dL_sound_9 ?_
        refine z_catch (e9 := 1) [] ⟨0, 14, 17, 13⟩ [⟨0, 14, 21, 15⟩] hc he rfl (by decide) (fun z hz => nomatch hz) (by decide) (by decide) cl_RL_13 (fun q9 => ?_)
        refine z_astore ((6, .ref q9) :: [(0, .ref (a 0)), (1, .int (zI x1)), (2, .int (zI x2)), (3, .int (zI x3)), (4, .int (zI x4)), (5, .ref (a 199))]) hc dL_sound_17 (by decide) rfl ?_
        refine z_iconst hc dL_sound_19 ?_
        exact z_retW hc he dL_sound_20
      rw [if_neg e0] at h
      by_cases e1 : e9 = 2
      · subst e1
        rw [if_pos rfl] at h
        cases h
        refine z_aload 5 hc dL_sound_0 rfl ?_
        refine z_iconst hc dL_sound_2 ?_
        refine z_aload_n (i := 0) 0 hc dL_sound_3 rfl rfl ?_
        refine z_iload_n (i := 1) 1 hc dL_sound_4 rfl rfl ?_
        refine z_iload_n (i := 2) 2 hc dL_sound_5 rfl rfl ?_
        refine z_iload_n (i := 3) 3 hc dL_sound_6 rfl rfl ?_
        refine z_iload 4 hc dL_sound_7 rfl ?_
        refine z_xthrV (kd := 0) [.int (zI x1), .int (zI x2), .int (zI x3), .int (zI x4)] hc hap o_X11_sound ml_RL_34 (fun l hl => c_X11_sound_t hl hJ) (by decide) tT_0 (by decide) ⟨_, rfl, rfl⟩ rfl rfl (Nat.le_of_ble_eq_true rfl) (Nat.le_refl 1) (Nat.le_refl 6) dL_sound_9 ?_
        refine z_catch (e9 := 2) [⟨0, 14, 17, 13⟩] ⟨0, 14, 21, 15⟩ [] hc he rfl (by decide) (fun z hz => by
        rcases List.mem_cons.mp hz with e | hz
        · subst e; exact ⟨1, by decide, by decide, cl_RL_13, by decide⟩
        · cases hz) (by decide) (by decide) cl_RL_15 (fun q9 => ?_)
        refine z_astore ((6, .ref q9) :: [(0, .ref (a 0)), (1, .int (zI x1)), (2, .int (zI x2)), (3, .int (zI x3)), (4, .int (zI x4)), (5, .ref (a 199))]) hc dL_sound_21 (by decide) rfl ?_
        refine z_iconst hc dL_sound_23 ?_
        exact z_retW hc he dL_sound_24
      rw [if_neg e1] at h
      cases h
theorem dL_question_0 : decode cL_question 0 = .ok (.aload 5, 2) := by decide +kernel
theorem dL_question_2 : decode cL_question 2 = .ok (.iconst 0, 1) := by decide +kernel
theorem dL_question_3 : decode cL_question 3 = .ok (.aload_n 0, 1) := by decide +kernel
theorem dL_question_4 : decode cL_question 4 = .ok (.iload_n 1, 1) := by decide +kernel
theorem dL_question_5 : decode cL_question 5 = .ok (.iload_n 2, 1) := by decide +kernel
theorem dL_question_6 : decode cL_question 6 = .ok (.iload_n 3, 1) := by decide +kernel
theorem dL_question_7 : decode cL_question 7 = .ok (.iload 4, 2) := by decide +kernel
theorem dL_question_9 : decode cL_question 9 = .ok (.invokevirtual 38, 3) := by decide +kernel
theorem dL_question_12 : decode cL_question 12 = .ok (.i2l, 1) := by decide +kernel
theorem dL_question_13 : decode cL_question 13 = .ok (.lastore, 1) := by decide +kernel
theorem dL_question_14 : decode cL_question 14 = .ok (.goto 15, 3) := by decide +kernel
theorem dL_question_17 : decode cL_question 17 = .ok (.astore 6, 2) := by decide +kernel
theorem dL_question_19 : decode cL_question 19 = .ok (.iconst 1, 1) := by decide +kernel
theorem dL_question_20 : decode cL_question 20 = .ok (.ireturn, 1) := by decide +kernel
theorem dL_question_21 : decode cL_question 21 = .ok (.astore 6, 2) := by decide +kernel
theorem dL_question_23 : decode cL_question 23 = .ok (.iconst 2, 1) := by decide +kernel
theorem dL_question_24 : decode cL_question 24 = .ok (.ireturn, 1) := by decide +kernel
theorem dL_question_25 : decode cL_question 25 = .ok (.astore 6, 2) := by decide +kernel
theorem dL_question_27 : decode cL_question 27 = .ok (.iconst 3, 1) := by decide +kernel
theorem dL_question_28 : decode cL_question 28 = .ok (.ireturn, 1) := by decide +kernel
theorem dL_question_29 : decode cL_question 29 = .ok (.iconst 0, 1) := by decide +kernel
theorem dL_question_30 : decode cL_question 30 = .ok (.ireturn, 1) := by decide +kernel
def hL_question : List (Nat × Nat × Nat × Nat) := [(0, 14, 17, 21), (0, 14, 21, 13), (0, 14, 25, 15)]
def J_L_question (x1 x2 x3 x4 : Int) (st : z_St) : Option (Int × z_St) := match J_X11_question x1 x2 x3 x4 st with
  | none => none
  | some (.inl q) => z_g (z32 q.1) <| some (0, z_up q.2 199 0 q.1)
  | some (.inr q) => if q.1 = 3 then some (1, q.2) else if q.1 = 1 then some (2, q.2) else if q.1 = 2 then some (3, q.2) else none
theorem kL_question : Cond.codeWith yL_question cL_question 7 (some .int) hL_question ∈ z_tbl := z_t4 3 rfl rfl
set_option maxRecDepth 100000 in
set_option maxHeartbeats 4000000 in
theorem c_L_question {l : Launch} (hl : l.stackTraces = false) {a : Nat → Nat} {x1 x2 x3 x4 : Int} {st : z_St} {o : Int × z_St} (h : J_L_question x1 x2 x3 x4 st = some o) : z_MW l yL_question cL_question 7 hL_question 10 z_T z_N a [.ref (a 0), .int (zI x1), .int (zI x2), .int (zI x3), .int (zI x4), .ref (a 199)] st o.1 o.2 := by
  refine z_ofW hl (by decide +kernel) (Nat.le_of_ble_eq_true rfl) kL_question (fun κ hc hap he => ?_)
  show z_V κ z_T z_N a 0 0 0 [(0, .ref (a 0)), (1, .int (zI x1)), (2, .int (zI x2)), (3, .int (zI x3)), (4, .int (zI x4)), (5, .ref (a 199))] [] st
  unfold J_L_question at h
  cases hJ : J_X11_question x1 x2 x3 x4 st with
  | none => rw [hJ] at h; cases h
  | some R9 =>
    rw [hJ] at h
    rcases R9 with q9 | ⟨e9, st9⟩
    · dsimp only at h
      obtain ⟨hg, h⟩ := z_g_some h
      cases h
      refine z_aload 5 hc dL_question_0 rfl ?_
      refine z_iconst hc dL_question_2 ?_
      refine z_aload_n (i := 0) 0 hc dL_question_3 rfl rfl ?_
      refine z_iload_n (i := 1) 1 hc dL_question_4 rfl rfl ?_
      refine z_iload_n (i := 2) 2 hc dL_question_5 rfl rfl ?_
      refine z_iload_n (i := 3) 3 hc dL_question_6 rfl rfl ?_
      refine z_iload 4 hc dL_question_7 rfl ?_
      refine z_xcallVI [.int (zI x1), .int (zI x2), .int (zI x3), .int (zI x4)] hc hap o_X11_question ml_RL_38 (fun l hl => c_X11_question_r hl hJ) (by decide) tT_0 (by decide) ⟨_, rfl, rfl⟩ rfl rfl (Nat.le_of_ble_eq_true rfl) (Nat.zero_le _) (Nat.zero_le _) dL_question_9 ?_
      refine z_i2lc hc dL_question_12 hg ?_
      refine z_last (kI := 199) (nI9 := 1) (F := fun st9 => some st9) (o := z_up q9.2 199 0 q9.1) hc hap tT_199 (by decide) rfl rfl (by decide) dL_question_13 (z_g_pos (by decide)) (fun st9 hst9 => ?_)
      cases hst9
      refine z_goto (tgt := 29) hc dL_question_14 (by decide) ?_
      refine z_iconst hc dL_question_29 ?_
      refine z_wide (Nat.zero_le 1) (Nat.zero_le 6) ?_
      exact z_retW hc he dL_question_30
    · dsimp only at h
      by_cases e0 : e9 = 3
      · subst e0
        rw [if_pos rfl] at h
        cases h
        refine z_aload 5 hc dL_question_0 rfl ?_
        refine z_iconst hc dL_question_2 ?_
        refine z_aload_n (i := 0) 0 hc dL_question_3 rfl rfl ?_
        refine z_iload_n (i := 1) 1 hc dL_question_4 rfl rfl ?_
        refine z_iload_n (i := 2) 2 hc dL_question_5 rfl rfl ?_
        refine z_iload_n (i := 3) 3 hc dL_question_6 rfl rfl ?_
        refine z_iload 4 hc dL_question_7 rfl ?_
        refine z_xthrV (kd := 0) [.int (zI x1), .int (zI x2), .int (zI x3), .int (zI x4)] hc hap o_X11_question ml_RL_38 (fun l hl => c_X11_question_t hl hJ) (by decide) tT_0 (by decide) ⟨_, rfl, rfl⟩ rfl rfl (Nat.le_of_ble_eq_true rfl) (Nat.le_refl 1) (Nat.le_refl 6) dL_question_9 ?_
        refine z_catch (e9 := 3) [] ⟨0, 14, 17, 21⟩ [⟨0, 14, 21, 13⟩, ⟨0, 14, 25, 15⟩] hc he rfl (by decide) (fun z hz => nomatch hz) (by decide) (by decide) cl_RL_21 (fun q9 => ?_)
        refine z_astore ((6, .ref q9) :: [(0, .ref (a 0)), (1, .int (zI x1)), (2, .int (zI x2)), (3, .int (zI x3)), (4, .int (zI x4)), (5, .ref (a 199))]) hc dL_question_17 (by decide) rfl ?_
        refine z_iconst hc dL_question_19 ?_
        exact z_retW hc he dL_question_20
      rw [if_neg e0] at h
      by_cases e1 : e9 = 1
      · subst e1
        rw [if_pos rfl] at h
        cases h
        refine z_aload 5 hc dL_question_0 rfl ?_
        refine z_iconst hc dL_question_2 ?_
        refine z_aload_n (i := 0) 0 hc dL_question_3 rfl rfl ?_
        refine z_iload_n (i := 1) 1 hc dL_question_4 rfl rfl ?_
        refine z_iload_n (i := 2) 2 hc dL_question_5 rfl rfl ?_
        refine z_iload_n (i := 3) 3 hc dL_question_6 rfl rfl ?_
        refine z_iload 4 hc dL_question_7 rfl ?_
        refine z_xthrV (kd := 0) [.int (zI x1), .int (zI x2), .int (zI x3), .int (zI x4)] hc hap o_X11_question ml_RL_38 (fun l hl => c_X11_question_t hl hJ) (by decide) tT_0 (by decide) ⟨_, rfl, rfl⟩ rfl rfl (Nat.le_of_ble_eq_true rfl) (Nat.le_refl 1) (Nat.le_refl 6) dL_question_9 ?_
        refine z_catch (e9 := 1) [⟨0, 14, 17, 21⟩] ⟨0, 14, 21, 13⟩ [⟨0, 14, 25, 15⟩] hc he rfl (by decide) (fun z hz => by
        rcases List.mem_cons.mp hz with e | hz
        · subst e; exact ⟨3, by decide, by decide, cl_RL_21, by decide⟩
        · cases hz) (by decide) (by decide) cl_RL_13 (fun q9 => ?_)
        refine z_astore ((6, .ref q9) :: [(0, .ref (a 0)), (1, .int (zI x1)), (2, .int (zI x2)), (3, .int (zI x3)), (4, .int (zI x4)), (5, .ref (a 199))]) hc dL_question_21 (by decide) rfl ?_
        refine z_iconst hc dL_question_23 ?_
        exact z_retW hc he dL_question_24
      rw [if_neg e1] at h
      by_cases e2 : e9 = 2
      · subst e2
        rw [if_pos rfl] at h
        cases h
        refine z_aload 5 hc dL_question_0 rfl ?_
        refine z_iconst hc dL_question_2 ?_
        refine z_aload_n (i := 0) 0 hc dL_question_3 rfl rfl ?_
        refine z_iload_n (i := 1) 1 hc dL_question_4 rfl rfl ?_
        refine z_iload_n (i := 2) 2 hc dL_question_5 rfl rfl ?_
        refine z_iload_n (i := 3) 3 hc dL_question_6 rfl rfl ?_
        refine z_iload 4 hc dL_question_7 rfl ?_
        refine z_xthrV (kd := 0) [.int (zI x1), .int (zI x2), .int (zI x3), .int (zI x4)] hc hap o_X11_question ml_RL_38 (fun l hl => c_X11_question_t hl hJ) (by decide) tT_0 (by decide) ⟨_, rfl, rfl⟩ rfl rfl (Nat.le_of_ble_eq_true rfl) (Nat.le_refl 1) (Nat.le_refl 6) dL_question_9 ?_
        refine z_catch (e9 := 2) [⟨0, 14, 17, 21⟩, ⟨0, 14, 21, 13⟩] ⟨0, 14, 25, 15⟩ [] hc he rfl (by decide) (fun z hz => by
        rcases List.mem_cons.mp hz with e | hz
        · subst e; exact ⟨3, by decide, by decide, cl_RL_21, by decide⟩
        · rcases List.mem_cons.mp hz with e | hz
          · subst e; exact ⟨1, by decide, by decide, cl_RL_13, by decide⟩
          · cases hz) (by decide) (by decide) cl_RL_15 (fun q9 => ?_)
        refine z_astore ((6, .ref q9) :: [(0, .ref (a 0)), (1, .int (zI x1)), (2, .int (zI x2)), (3, .int (zI x3)), (4, .int (zI x4)), (5, .ref (a 199))]) hc dL_question_25 (by decide) rfl ?_
        refine z_iconst hc dL_question_27 ?_
        exact z_retW hc he dL_question_28
      rw [if_neg e2] at h
      cases h
theorem dL_type_0 : decode cL_type 0 = .ok (.aload_n 2, 1) := by decide +kernel
theorem dL_type_1 : decode cL_type 1 = .ok (.iconst 0, 1) := by decide +kernel
theorem dL_type_2 : decode cL_type 2 = .ok (.aload_n 0, 1) := by decide +kernel
theorem dL_type_3 : decode cL_type 3 = .ok (.iload_n 1, 1) := by decide +kernel
theorem dL_type_4 : decode cL_type 4 = .ok (.invokevirtual 41, 3) := by decide +kernel
theorem dL_type_7 : decode cL_type 7 = .ok (.i2l, 1) := by decide +kernel
theorem dL_type_8 : decode cL_type 8 = .ok (.lastore, 1) := by decide +kernel
theorem dL_type_9 : decode cL_type 9 = .ok (.goto 9, 3) := by decide +kernel
theorem dL_type_12 : decode cL_type 12 = .ok (.astore_n 3, 1) := by decide +kernel
theorem dL_type_13 : decode cL_type 13 = .ok (.iconst 1, 1) := by decide +kernel
theorem dL_type_14 : decode cL_type 14 = .ok (.ireturn, 1) := by decide +kernel
theorem dL_type_15 : decode cL_type 15 = .ok (.astore_n 3, 1) := by decide +kernel
theorem dL_type_16 : decode cL_type 16 = .ok (.iconst 2, 1) := by decide +kernel
theorem dL_type_17 : decode cL_type 17 = .ok (.ireturn, 1) := by decide +kernel
theorem dL_type_18 : decode cL_type 18 = .ok (.iconst 0, 1) := by decide +kernel
theorem dL_type_19 : decode cL_type 19 = .ok (.ireturn, 1) := by decide +kernel
def hL_type : List (Nat × Nat × Nat × Nat) := [(0, 9, 12, 13), (0, 9, 15, 15)]
def J_L_type (x1 : Int) (st : z_St) : Option (Int × z_St) := match J_X11_type x1 st with
  | none => none
  | some (.inl q) => z_g (z32 q.1) <| some (0, z_up q.2 199 0 q.1)
  | some (.inr q) => if q.1 = 1 then some (1, q.2) else if q.1 = 2 then some (2, q.2) else none
theorem kL_type : Cond.codeWith yL_type cL_type 4 (some .int) hL_type ∈ z_tbl := z_t4 15 rfl rfl
set_option maxRecDepth 100000 in
set_option maxHeartbeats 4000000 in
theorem c_L_type {l : Launch} (hl : l.stackTraces = false) {a : Nat → Nat} {x1 : Int} {st : z_St} {o : Int × z_St} (h : J_L_type x1 st = some o) : z_MW l yL_type cL_type 4 hL_type 10 z_T z_N a [.ref (a 0), .int (zI x1), .ref (a 199)] st o.1 o.2 := by
  refine z_ofW hl (by decide +kernel) (Nat.le_of_ble_eq_true rfl) kL_type (fun κ hc hap he => ?_)
  show z_V κ z_T z_N a 0 0 0 [(0, .ref (a 0)), (1, .int (zI x1)), (2, .ref (a 199))] [] st
  unfold J_L_type at h
  cases hJ : J_X11_type x1 st with
  | none => rw [hJ] at h; cases h
  | some R9 =>
    rw [hJ] at h
    rcases R9 with q9 | ⟨e9, st9⟩
    · dsimp only at h
      obtain ⟨hg, h⟩ := z_g_some h
      cases h
      refine z_aload_n (i := 2) 2 hc dL_type_0 rfl rfl ?_
      refine z_iconst hc dL_type_1 ?_
      refine z_aload_n (i := 0) 0 hc dL_type_2 rfl rfl ?_
      refine z_iload_n (i := 1) 1 hc dL_type_3 rfl rfl ?_
      refine z_xcallVI [.int (zI x1)] hc hap o_X11_type ml_RL_41 (fun l hl => c_X11_type_r hl hJ) (by decide) tT_0 (by decide) ⟨_, rfl, rfl⟩ rfl rfl (Nat.le_of_ble_eq_true rfl) (Nat.zero_le _) (Nat.zero_le _) dL_type_4 ?_
      refine z_i2lc hc dL_type_7 hg ?_
      refine z_last (kI := 199) (nI9 := 1) (F := fun st9 => some st9) (o := z_up q9.2 199 0 q9.1) hc hap tT_199 (by decide) rfl rfl (by decide) dL_type_8 (z_g_pos (by decide)) (fun st9 hst9 => ?_)
      cases hst9
      refine z_goto (tgt := 18) hc dL_type_9 (by decide) ?_
      refine z_iconst hc dL_type_18 ?_
      refine z_wide (Nat.zero_le 1) (Nat.zero_le 6) ?_
      exact z_retW hc he dL_type_19
    · dsimp only at h
      by_cases e0 : e9 = 1
      · subst e0
        rw [if_pos rfl] at h
        cases h
        refine z_aload_n (i := 2) 2 hc dL_type_0 rfl rfl ?_
        refine z_iconst hc dL_type_1 ?_
        refine z_aload_n (i := 0) 0 hc dL_type_2 rfl rfl ?_
        refine z_iload_n (i := 1) 1 hc dL_type_3 rfl rfl ?_
        refine z_xthrV (kd := 0) [.int (zI x1)] hc hap o_X11_type ml_RL_41 (fun l hl => c_X11_type_t hl hJ) (by decide) tT_0 (by decide) ⟨_, rfl, rfl⟩ rfl rfl (Nat.le_of_ble_eq_true rfl) (Nat.le_refl 1) (Nat.le_refl 6) dL_type_4 ?_
        refine z_catch (e9 := 1) [] ⟨0, 9, 12, 13⟩ [⟨0, 9, 15, 15⟩] hc he rfl (by decide) (fun z hz => nomatch hz) (by decide) (by decide) cl_RL_13 (fun q9 => ?_)
        refine z_astore_n (i := 3) ((3, .ref q9) :: [(0, .ref (a 0)), (1, .int (zI x1)), (2, .ref (a 199))]) hc dL_type_12 rfl (by decide) rfl ?_
        refine z_iconst hc dL_type_13 ?_
        exact z_retW hc he dL_type_14
      rw [if_neg e0] at h
      by_cases e1 : e9 = 2
      · subst e1
        rw [if_pos rfl] at h
        cases h
        refine z_aload_n (i := 2) 2 hc dL_type_0 rfl rfl ?_
        refine z_iconst hc dL_type_1 ?_
        refine z_aload_n (i := 0) 0 hc dL_type_2 rfl rfl ?_
        refine z_iload_n (i := 1) 1 hc dL_type_3 rfl rfl ?_
        refine z_xthrV (kd := 0) [.int (zI x1)] hc hap o_X11_type ml_RL_41 (fun l hl => c_X11_type_t hl hJ) (by decide) tT_0 (by decide) ⟨_, rfl, rfl⟩ rfl rfl (Nat.le_of_ble_eq_true rfl) (Nat.le_refl 1) (Nat.le_refl 6) dL_type_4 ?_
        refine z_catch (e9 := 2) [⟨0, 9, 12, 13⟩] ⟨0, 9, 15, 15⟩ [] hc he rfl (by decide) (fun z hz => by
        rcases List.mem_cons.mp hz with e | hz
        · subst e; exact ⟨1, by decide, by decide, cl_RL_13, by decide⟩
        · cases hz) (by decide) (by decide) cl_RL_15 (fun q9 => ?_)
        refine z_astore_n (i := 3) ((3, .ref q9) :: [(0, .ref (a 0)), (1, .int (zI x1)), (2, .ref (a 199))]) hc dL_type_15 rfl (by decide) rfl ?_
        refine z_iconst hc dL_type_16 ?_
        exact z_retW hc he dL_type_17
      rw [if_neg e1] at h
      cases h
theorem dL_word_0 : decode cL_word 0 = .ok (.aload_n 2, 1) := by decide +kernel
theorem dL_word_1 : decode cL_word 1 = .ok (.iconst 0, 1) := by decide +kernel
theorem dL_word_2 : decode cL_word 2 = .ok (.aload_n 0, 1) := by decide +kernel
theorem dL_word_3 : decode cL_word 3 = .ok (.iload_n 1, 1) := by decide +kernel
theorem dL_word_4 : decode cL_word 4 = .ok (.invokevirtual 45, 3) := by decide +kernel
theorem dL_word_7 : decode cL_word 7 = .ok (.i2l, 1) := by decide +kernel
theorem dL_word_8 : decode cL_word 8 = .ok (.lastore, 1) := by decide +kernel
theorem dL_word_9 : decode cL_word 9 = .ok (.goto 9, 3) := by decide +kernel
theorem dL_word_12 : decode cL_word 12 = .ok (.astore_n 3, 1) := by decide +kernel
theorem dL_word_13 : decode cL_word 13 = .ok (.iconst 1, 1) := by decide +kernel
theorem dL_word_14 : decode cL_word 14 = .ok (.ireturn, 1) := by decide +kernel
theorem dL_word_15 : decode cL_word 15 = .ok (.astore_n 3, 1) := by decide +kernel
theorem dL_word_16 : decode cL_word 16 = .ok (.iconst 2, 1) := by decide +kernel
theorem dL_word_17 : decode cL_word 17 = .ok (.ireturn, 1) := by decide +kernel
theorem dL_word_18 : decode cL_word 18 = .ok (.iconst 0, 1) := by decide +kernel
theorem dL_word_19 : decode cL_word 19 = .ok (.ireturn, 1) := by decide +kernel
def hL_word : List (Nat × Nat × Nat × Nat) := [(0, 9, 12, 13), (0, 9, 15, 15)]
def J_L_word (x1 : Int) (st : z_St) : Option (Int × z_St) := match J_X11_word x1 st with
  | none => none
  | some (.inl q) => z_g (z32 q.1) <| some (0, z_up q.2 199 0 q.1)
  | some (.inr q) => if q.1 = 1 then some (1, q.2) else if q.1 = 2 then some (2, q.2) else none
theorem kL_word : Cond.codeWith yL_word cL_word 4 (some .int) hL_word ∈ z_tbl := z_t4 23 rfl rfl
set_option maxRecDepth 100000 in
set_option maxHeartbeats 4000000 in
theorem c_L_word {l : Launch} (hl : l.stackTraces = false) {a : Nat → Nat} {x1 : Int} {st : z_St} {o : Int × z_St} (h : J_L_word x1 st = some o) : z_MW l yL_word cL_word 4 hL_word 11 z_T z_N a [.ref (a 0), .int (zI x1), .ref (a 199)] st o.1 o.2 := by
  refine z_ofW hl (by decide +kernel) (Nat.le_of_ble_eq_true rfl) kL_word (fun κ hc hap he => ?_)
  show z_V κ z_T z_N a 0 0 0 [(0, .ref (a 0)), (1, .int (zI x1)), (2, .ref (a 199))] [] st
  unfold J_L_word at h
  cases hJ : J_X11_word x1 st with
  | none => rw [hJ] at h; cases h
  | some R9 =>
    rw [hJ] at h
    rcases R9 with q9 | ⟨e9, st9⟩
    · dsimp only at h
      obtain ⟨hg, h⟩ := z_g_some h
      cases h
      refine z_aload_n (i := 2) 2 hc dL_word_0 rfl rfl ?_
      refine z_iconst hc dL_word_1 ?_
      refine z_aload_n (i := 0) 0 hc dL_word_2 rfl rfl ?_
      refine z_iload_n (i := 1) 1 hc dL_word_3 rfl rfl ?_
      refine z_xcallVI [.int (zI x1)] hc hap o_X11_word ml_RL_45 (fun l hl => c_X11_word_r hl hJ) (by decide) tT_0 (by decide) ⟨_, rfl, rfl⟩ rfl rfl (Nat.le_of_ble_eq_true rfl) (Nat.zero_le _) (Nat.zero_le _) dL_word_4 ?_
      refine z_i2lc hc dL_word_7 hg ?_
      refine z_last (kI := 199) (nI9 := 1) (F := fun st9 => some st9) (o := z_up q9.2 199 0 q9.1) hc hap tT_199 (by decide) rfl rfl (by decide) dL_word_8 (z_g_pos (by decide)) (fun st9 hst9 => ?_)
      cases hst9
      refine z_goto (tgt := 18) hc dL_word_9 (by decide) ?_
      refine z_iconst hc dL_word_18 ?_
      refine z_wide (Nat.zero_le 1) (Nat.zero_le 6) ?_
      exact z_retW hc he dL_word_19
    · dsimp only at h
      by_cases e0 : e9 = 1
      · subst e0
        rw [if_pos rfl] at h
        cases h
        refine z_aload_n (i := 2) 2 hc dL_word_0 rfl rfl ?_
        refine z_iconst hc dL_word_1 ?_
        refine z_aload_n (i := 0) 0 hc dL_word_2 rfl rfl ?_
        refine z_iload_n (i := 1) 1 hc dL_word_3 rfl rfl ?_
        refine z_xthrV (kd := 0) [.int (zI x1)] hc hap o_X11_word ml_RL_45 (fun l hl => c_X11_word_t hl hJ) (by decide) tT_0 (by decide) ⟨_, rfl, rfl⟩ rfl rfl (Nat.le_of_ble_eq_true rfl) (Nat.le_refl 1) (Nat.le_refl 6) dL_word_4 ?_
        refine z_catch (e9 := 1) [] ⟨0, 9, 12, 13⟩ [⟨0, 9, 15, 15⟩] hc he rfl (by decide) (fun z hz => nomatch hz) (by decide) (by decide) cl_RL_13 (fun q9 => ?_)
        refine z_astore_n (i := 3) ((3, .ref q9) :: [(0, .ref (a 0)), (1, .int (zI x1)), (2, .ref (a 199))]) hc dL_word_12 rfl (by decide) rfl ?_
        refine z_iconst hc dL_word_13 ?_
        exact z_retW hc he dL_word_14
      rw [if_neg e0] at h
      by_cases e1 : e9 = 2
      · subst e1
        rw [if_pos rfl] at h
        cases h
        refine z_aload_n (i := 2) 2 hc dL_word_0 rfl rfl ?_
        refine z_iconst hc dL_word_1 ?_
        refine z_aload_n (i := 0) 0 hc dL_word_2 rfl rfl ?_
        refine z_iload_n (i := 1) 1 hc dL_word_3 rfl rfl ?_
        refine z_xthrV (kd := 0) [.int (zI x1)] hc hap o_X11_word ml_RL_45 (fun l hl => c_X11_word_t hl hJ) (by decide) tT_0 (by decide) ⟨_, rfl, rfl⟩ rfl rfl (Nat.le_of_ble_eq_true rfl) (Nat.le_refl 1) (Nat.le_refl 6) dL_word_4 ?_
        refine z_catch (e9 := 2) [⟨0, 9, 12, 13⟩] ⟨0, 9, 15, 15⟩ [] hc he rfl (by decide) (fun z hz => by
        rcases List.mem_cons.mp hz with e | hz
        · subst e; exact ⟨1, by decide, by decide, cl_RL_13, by decide⟩
        · cases hz) (by decide) (by decide) cl_RL_15 (fun q9 => ?_)
        refine z_astore_n (i := 3) ((3, .ref q9) :: [(0, .ref (a 0)), (1, .int (zI x1)), (2, .ref (a 199))]) hc dL_word_15 rfl (by decide) rfl ?_
        refine z_iconst hc dL_word_16 ?_
        exact z_retW hc he dL_word_17
      rw [if_neg e1] at h
      cases h
theorem dL_saying_0 : decode cL_saying 0 = .ok (.aload_n 3, 1) := by decide +kernel
theorem dL_saying_1 : decode cL_saying 1 = .ok (.iconst 0, 1) := by decide +kernel
theorem dL_saying_2 : decode cL_saying 2 = .ok (.aload_n 0, 1) := by decide +kernel
theorem dL_saying_3 : decode cL_saying 3 = .ok (.iload_n 1, 1) := by decide +kernel
theorem dL_saying_4 : decode cL_saying 4 = .ok (.iload_n 2, 1) := by decide +kernel
theorem dL_saying_5 : decode cL_saying 5 = .ok (.invokevirtual 48, 3) := by decide +kernel
theorem dL_saying_8 : decode cL_saying 8 = .ok (.i2l, 1) := by decide +kernel
theorem dL_saying_9 : decode cL_saying 9 = .ok (.lastore, 1) := by decide +kernel
theorem dL_saying_10 : decode cL_saying 10 = .ok (.goto 15, 3) := by decide +kernel
theorem dL_saying_13 : decode cL_saying 13 = .ok (.astore 4, 2) := by decide +kernel
theorem dL_saying_15 : decode cL_saying 15 = .ok (.iconst 1, 1) := by decide +kernel
theorem dL_saying_16 : decode cL_saying 16 = .ok (.ireturn, 1) := by decide +kernel
theorem dL_saying_17 : decode cL_saying 17 = .ok (.astore 4, 2) := by decide +kernel
theorem dL_saying_19 : decode cL_saying 19 = .ok (.iconst 2, 1) := by decide +kernel
theorem dL_saying_20 : decode cL_saying 20 = .ok (.ireturn, 1) := by decide +kernel
theorem dL_saying_21 : decode cL_saying 21 = .ok (.astore 4, 2) := by decide +kernel
theorem dL_saying_23 : decode cL_saying 23 = .ok (.iconst 3, 1) := by decide +kernel
theorem dL_saying_24 : decode cL_saying 24 = .ok (.ireturn, 1) := by decide +kernel
theorem dL_saying_25 : decode cL_saying 25 = .ok (.iconst 0, 1) := by decide +kernel
theorem dL_saying_26 : decode cL_saying 26 = .ok (.ireturn, 1) := by decide +kernel
def hL_saying : List (Nat × Nat × Nat × Nat) := [(0, 10, 13, 21), (0, 10, 17, 13), (0, 10, 21, 15)]
def J_L_saying (x1 x2 : Int) (st : z_St) : Option (Int × z_St) := match J_X11_saying x1 x2 st with
  | none => none
  | some (.inl q) => z_g (z32 q.1) <| some (0, z_up q.2 199 0 q.1)
  | some (.inr q) => if q.1 = 3 then some (1, q.2) else if q.1 = 1 then some (2, q.2) else if q.1 = 2 then some (3, q.2) else none
theorem kL_saying : Cond.codeWith yL_saying cL_saying 5 (some .int) hL_saying ∈ z_tbl := z_t4 43 rfl rfl
set_option maxRecDepth 100000 in
set_option maxHeartbeats 4000000 in
theorem c_L_saying {l : Launch} (hl : l.stackTraces = false) {a : Nat → Nat} {x1 x2 : Int} {st : z_St} {o : Int × z_St} (h : J_L_saying x1 x2 st = some o) : z_MW l yL_saying cL_saying 5 hL_saying 11 z_T z_N a [.ref (a 0), .int (zI x1), .int (zI x2), .ref (a 199)] st o.1 o.2 := by
  refine z_ofW hl (by decide +kernel) (Nat.le_of_ble_eq_true rfl) kL_saying (fun κ hc hap he => ?_)
  show z_V κ z_T z_N a 0 0 0 [(0, .ref (a 0)), (1, .int (zI x1)), (2, .int (zI x2)), (3, .ref (a 199))] [] st
  unfold J_L_saying at h
  cases hJ : J_X11_saying x1 x2 st with
  | none => rw [hJ] at h; cases h
  | some R9 =>
    rw [hJ] at h
    rcases R9 with q9 | ⟨e9, st9⟩
    · dsimp only at h
      obtain ⟨hg, h⟩ := z_g_some h
      cases h
      refine z_aload_n (i := 3) 3 hc dL_saying_0 rfl rfl ?_
      refine z_iconst hc dL_saying_1 ?_
      refine z_aload_n (i := 0) 0 hc dL_saying_2 rfl rfl ?_
      refine z_iload_n (i := 1) 1 hc dL_saying_3 rfl rfl ?_
      refine z_iload_n (i := 2) 2 hc dL_saying_4 rfl rfl ?_
      refine z_xcallVI [.int (zI x1), .int (zI x2)] hc hap o_X11_saying ml_RL_48 (fun l hl => c_X11_saying_r hl hJ) (by decide) tT_0 (by decide) ⟨_, rfl, rfl⟩ rfl rfl (Nat.le_of_ble_eq_true rfl) (Nat.zero_le _) (Nat.zero_le _) dL_saying_5 ?_
      refine z_i2lc hc dL_saying_8 hg ?_
      refine z_last (kI := 199) (nI9 := 1) (F := fun st9 => some st9) (o := z_up q9.2 199 0 q9.1) hc hap tT_199 (by decide) rfl rfl (by decide) dL_saying_9 (z_g_pos (by decide)) (fun st9 hst9 => ?_)
      cases hst9
      refine z_goto (tgt := 25) hc dL_saying_10 (by decide) ?_
      refine z_iconst hc dL_saying_25 ?_
      refine z_wide (Nat.zero_le 1) (Nat.zero_le 6) ?_
      exact z_retW hc he dL_saying_26
    · dsimp only at h
      by_cases e0 : e9 = 3
      · subst e0
        rw [if_pos rfl] at h
        cases h
        refine z_aload_n (i := 3) 3 hc dL_saying_0 rfl rfl ?_
        refine z_iconst hc dL_saying_1 ?_
        refine z_aload_n (i := 0) 0 hc dL_saying_2 rfl rfl ?_
        refine z_iload_n (i := 1) 1 hc dL_saying_3 rfl rfl ?_
        refine z_iload_n (i := 2) 2 hc dL_saying_4 rfl rfl ?_
        refine z_xthrV (kd := 0) [.int (zI x1), .int (zI x2)] hc hap o_X11_saying ml_RL_48 (fun l hl => c_X11_saying_t hl hJ) (by decide) tT_0 (by decide) ⟨_, rfl, rfl⟩ rfl rfl (Nat.le_of_ble_eq_true rfl) (Nat.le_refl 1) (Nat.le_refl 6) dL_saying_5 ?_
        refine z_catch (e9 := 3) [] ⟨0, 10, 13, 21⟩ [⟨0, 10, 17, 13⟩, ⟨0, 10, 21, 15⟩] hc he rfl (by decide) (fun z hz => nomatch hz) (by decide) (by decide) cl_RL_21 (fun q9 => ?_)
        refine z_astore ((4, .ref q9) :: [(0, .ref (a 0)), (1, .int (zI x1)), (2, .int (zI x2)), (3, .ref (a 199))]) hc dL_saying_13 (by decide) rfl ?_
        refine z_iconst hc dL_saying_15 ?_
        exact z_retW hc he dL_saying_16
      rw [if_neg e0] at h
      by_cases e1 : e9 = 1
      · subst e1
        rw [if_pos rfl] at h
        cases h
        refine z_aload_n (i := 3) 3 hc dL_saying_0 rfl rfl ?_
        refine z_iconst hc dL_saying_1 ?_
        refine z_aload_n (i := 0) 0 hc dL_saying_2 rfl rfl ?_
        refine z_iload_n (i := 1) 1 hc dL_saying_3 rfl rfl ?_
        refine z_iload_n (i := 2) 2 hc dL_saying_4 rfl rfl ?_
        refine z_xthrV (kd := 0) [.int (zI x1), .int (zI x2)] hc hap o_X11_saying ml_RL_48 (fun l hl => c_X11_saying_t hl hJ) (by decide) tT_0 (by decide) ⟨_, rfl, rfl⟩ rfl rfl (Nat.le_of_ble_eq_true rfl) (Nat.le_refl 1) (Nat.le_refl 6) dL_saying_5 ?_
        refine z_catch (e9 := 1) [⟨0, 10, 13, 21⟩] ⟨0, 10, 17, 13⟩ [⟨0, 10, 21, 15⟩] hc he rfl (by decide) (fun z hz => by
        rcases List.mem_cons.mp hz with e | hz
        · subst e; exact ⟨3, by decide, by decide, cl_RL_21, by decide⟩
        · cases hz) (by decide) (by decide) cl_RL_13 (fun q9 => ?_)
        refine z_astore ((4, .ref q9) :: [(0, .ref (a 0)), (1, .int (zI x1)), (2, .int (zI x2)), (3, .ref (a 199))]) hc dL_saying_17 (by decide) rfl ?_
        refine z_iconst hc dL_saying_19 ?_
        exact z_retW hc he dL_saying_20
      rw [if_neg e1] at h
      by_cases e2 : e9 = 2
      · subst e2
        rw [if_pos rfl] at h
        cases h
        refine z_aload_n (i := 3) 3 hc dL_saying_0 rfl rfl ?_
        refine z_iconst hc dL_saying_1 ?_
        refine z_aload_n (i := 0) 0 hc dL_saying_2 rfl rfl ?_
        refine z_iload_n (i := 1) 1 hc dL_saying_3 rfl rfl ?_
        refine z_iload_n (i := 2) 2 hc dL_saying_4 rfl rfl ?_
        refine z_xthrV (kd := 0) [.int (zI x1), .int (zI x2)] hc hap o_X11_saying ml_RL_48 (fun l hl => c_X11_saying_t hl hJ) (by decide) tT_0 (by decide) ⟨_, rfl, rfl⟩ rfl rfl (Nat.le_of_ble_eq_true rfl) (Nat.le_refl 1) (Nat.le_refl 6) dL_saying_5 ?_
        refine z_catch (e9 := 2) [⟨0, 10, 13, 21⟩, ⟨0, 10, 17, 13⟩] ⟨0, 10, 21, 15⟩ [] hc he rfl (by decide) (fun z hz => by
        rcases List.mem_cons.mp hz with e | hz
        · subst e; exact ⟨3, by decide, by decide, cl_RL_21, by decide⟩
        · rcases List.mem_cons.mp hz with e | hz
          · subst e; exact ⟨1, by decide, by decide, cl_RL_13, by decide⟩
          · cases hz) (by decide) (by decide) cl_RL_15 (fun q9 => ?_)
        refine z_astore ((4, .ref q9) :: [(0, .ref (a 0)), (1, .int (zI x1)), (2, .int (zI x2)), (3, .ref (a 199))]) hc dL_saying_21 (by decide) rfl ?_
        refine z_iconst hc dL_saying_23 ?_
        exact z_retW hc he dL_saying_24
      rw [if_neg e2] at h
      cases h
theorem dL_form_0 : decode cL_form 0 = .ok (.aload 4, 2) := by decide +kernel
theorem dL_form_2 : decode cL_form 2 = .ok (.iconst 0, 1) := by decide +kernel
theorem dL_form_3 : decode cL_form 3 = .ok (.aload_n 0, 1) := by decide +kernel
theorem dL_form_4 : decode cL_form 4 = .ok (.iload_n 1, 1) := by decide +kernel
theorem dL_form_5 : decode cL_form 5 = .ok (.iload_n 2, 1) := by decide +kernel
theorem dL_form_6 : decode cL_form 6 = .ok (.iload_n 3, 1) := by decide +kernel
theorem dL_form_7 : decode cL_form 7 = .ok (.invokevirtual 51, 3) := by decide +kernel
theorem dL_form_10 : decode cL_form 10 = .ok (.i2l, 1) := by decide +kernel
theorem dL_form_11 : decode cL_form 11 = .ok (.lastore, 1) := by decide +kernel
theorem dL_form_12 : decode cL_form 12 = .ok (.goto 7, 3) := by decide +kernel
theorem dL_form_15 : decode cL_form 15 = .ok (.astore 5, 2) := by decide +kernel
theorem dL_form_17 : decode cL_form 17 = .ok (.iconst 1, 1) := by decide +kernel
theorem dL_form_18 : decode cL_form 18 = .ok (.ireturn, 1) := by decide +kernel
theorem dL_form_19 : decode cL_form 19 = .ok (.iconst 0, 1) := by decide +kernel
theorem dL_form_20 : decode cL_form 20 = .ok (.ireturn, 1) := by decide +kernel
def hL_form : List (Nat × Nat × Nat × Nat) := [(0, 12, 15, 21)]
def J_L_form (x1 x2 x3 : Int) (st : z_St) : Option (Int × z_St) := match J_X11_form x1 x2 x3 st with
  | none => none
  | some (.inl q) => z_g (z32 q) <| some (0, z_up st 199 0 q)
  | some (.inr q) => if q.1 = 3 then some (1, q.2) else none
theorem kL_form : Cond.codeWith yL_form cL_form 6 (some .int) hL_form ∈ z_tbl := z_t4 51 rfl rfl
set_option maxRecDepth 100000 in
set_option maxHeartbeats 4000000 in
theorem c_L_form {l : Launch} (hl : l.stackTraces = false) {a : Nat → Nat} {x1 x2 x3 : Int} {st : z_St} {o : Int × z_St} (h : J_L_form x1 x2 x3 st = some o) : z_MW l yL_form cL_form 6 hL_form 11 z_T z_N a [.ref (a 0), .int (zI x1), .int (zI x2), .int (zI x3), .ref (a 199)] st o.1 o.2 := by
  refine z_ofW hl (by decide +kernel) (Nat.le_of_ble_eq_true rfl) kL_form (fun κ hc hap he => ?_)
  show z_V κ z_T z_N a 0 0 0 [(0, .ref (a 0)), (1, .int (zI x1)), (2, .int (zI x2)), (3, .int (zI x3)), (4, .ref (a 199))] [] st
  unfold J_L_form at h
  cases hJ : J_X11_form x1 x2 x3 st with
  | none => rw [hJ] at h; cases h
  | some R9 =>
    rw [hJ] at h
    rcases R9 with q9 | ⟨e9, st9⟩
    · dsimp only at h
      obtain ⟨hg, h⟩ := z_g_some h
      cases h
      refine z_aload 4 hc dL_form_0 rfl ?_
      refine z_iconst hc dL_form_2 ?_
      refine z_aload_n (i := 0) 0 hc dL_form_3 rfl rfl ?_
      refine z_iload_n (i := 1) 1 hc dL_form_4 rfl rfl ?_
      refine z_iload_n (i := 2) 2 hc dL_form_5 rfl rfl ?_
      refine z_iload_n (i := 3) 3 hc dL_form_6 rfl rfl ?_
      refine z_xcallVI [.int (zI x1), .int (zI x2), .int (zI x3)] hc hap o_X11_form ml_RL_51 (fun l hl => c_X11_form_r hl hJ) (by decide) tT_0 (by decide) ⟨_, rfl, rfl⟩ rfl rfl (Nat.le_of_ble_eq_true rfl) (Nat.zero_le _) (Nat.zero_le _) dL_form_7 ?_
      refine z_i2lc hc dL_form_10 hg ?_
      refine z_last (kI := 199) (nI9 := 1) (F := fun st9 => some st9) (o := z_up st 199 0 q9) hc hap tT_199 (by decide) rfl rfl (by decide) dL_form_11 (z_g_pos (by decide)) (fun st9 hst9 => ?_)
      cases hst9
      refine z_goto (tgt := 19) hc dL_form_12 (by decide) ?_
      refine z_iconst hc dL_form_19 ?_
      refine z_wide (Nat.zero_le 1) (Nat.zero_le 6) ?_
      exact z_retW hc he dL_form_20
    · dsimp only at h
      by_cases e0 : e9 = 3
      · subst e0
        rw [if_pos rfl] at h
        cases h
        refine z_aload 4 hc dL_form_0 rfl ?_
        refine z_iconst hc dL_form_2 ?_
        refine z_aload_n (i := 0) 0 hc dL_form_3 rfl rfl ?_
        refine z_iload_n (i := 1) 1 hc dL_form_4 rfl rfl ?_
        refine z_iload_n (i := 2) 2 hc dL_form_5 rfl rfl ?_
        refine z_iload_n (i := 3) 3 hc dL_form_6 rfl rfl ?_
        refine z_xthrV (kd := 0) [.int (zI x1), .int (zI x2), .int (zI x3)] hc hap o_X11_form ml_RL_51 (fun l hl => c_X11_form_t hl hJ) (by decide) tT_0 (by decide) ⟨_, rfl, rfl⟩ rfl rfl (Nat.le_of_ble_eq_true rfl) (Nat.le_refl 1) (Nat.le_refl 6) dL_form_7 ?_
        refine z_catch (e9 := 3) [] ⟨0, 12, 15, 21⟩ [] hc he rfl (by decide) (fun z hz => nomatch hz) (by decide) (by decide) cl_RL_21 (fun q9 => ?_)
        refine z_astore ((5, .ref q9) :: [(0, .ref (a 0)), (1, .int (zI x1)), (2, .int (zI x2)), (3, .int (zI x3)), (4, .ref (a 199))]) hc dL_form_15 (by decide) rfl ?_
        refine z_iconst hc dL_form_17 ?_
        exact z_retW hc he dL_form_18
      rw [if_neg e0] at h
      cases h
theorem dL_cost_0 : decode cL_cost 0 = .ok (.aload 4, 2) := by decide +kernel
theorem dL_cost_2 : decode cL_cost 2 = .ok (.iconst 0, 1) := by decide +kernel
theorem dL_cost_3 : decode cL_cost 3 = .ok (.aload_n 0, 1) := by decide +kernel
theorem dL_cost_4 : decode cL_cost 4 = .ok (.iload_n 1, 1) := by decide +kernel
theorem dL_cost_5 : decode cL_cost 5 = .ok (.iload_n 2, 1) := by decide +kernel
theorem dL_cost_6 : decode cL_cost 6 = .ok (.iload_n 3, 1) := by decide +kernel
theorem dL_cost_7 : decode cL_cost 7 = .ok (.invokevirtual 54, 3) := by decide +kernel
theorem dL_cost_10 : decode cL_cost 10 = .ok (.lastore, 1) := by decide +kernel
theorem dL_cost_11 : decode cL_cost 11 = .ok (.goto 11, 3) := by decide +kernel
theorem dL_cost_14 : decode cL_cost 14 = .ok (.astore 5, 2) := by decide +kernel
theorem dL_cost_16 : decode cL_cost 16 = .ok (.iconst 1, 1) := by decide +kernel
theorem dL_cost_17 : decode cL_cost 17 = .ok (.ireturn, 1) := by decide +kernel
theorem dL_cost_18 : decode cL_cost 18 = .ok (.astore 5, 2) := by decide +kernel
theorem dL_cost_20 : decode cL_cost 20 = .ok (.iconst 2, 1) := by decide +kernel
theorem dL_cost_21 : decode cL_cost 21 = .ok (.ireturn, 1) := by decide +kernel
theorem dL_cost_22 : decode cL_cost 22 = .ok (.iconst 0, 1) := by decide +kernel
theorem dL_cost_23 : decode cL_cost 23 = .ok (.ireturn, 1) := by decide +kernel
def hL_cost : List (Nat × Nat × Nat × Nat) := [(0, 11, 14, 21), (0, 11, 18, 13)]
def J_L_cost (x1 x2 x3 : Int) (st : z_St) : Option (Int × z_St) := match J_X11_cost x1 x2 x3 st with
  | none => none
  | some (.inl q) => some (0, z_up st 199 0 q)
  | some (.inr q) => if q.1 = 3 then some (1, q.2) else if q.1 = 1 then some (2, q.2) else none
theorem kL_cost : Cond.codeWith yL_cost cL_cost 6 (some .int) hL_cost ∈ z_tbl := z_t4 60 rfl rfl
set_option maxRecDepth 100000 in
set_option maxHeartbeats 4000000 in
theorem c_L_cost {l : Launch} (hl : l.stackTraces = false) {a : Nat → Nat} {x1 x2 x3 : Int} {st : z_St} {o : Int × z_St} (h : J_L_cost x1 x2 x3 st = some o) : z_MW l yL_cost cL_cost 6 hL_cost 11 z_T z_N a [.ref (a 0), .int (zI x1), .int (zI x2), .int (zI x3), .ref (a 199)] st o.1 o.2 := by
  refine z_ofW hl (by decide +kernel) (Nat.le_of_ble_eq_true rfl) kL_cost (fun κ hc hap he => ?_)
  show z_V κ z_T z_N a 0 0 0 [(0, .ref (a 0)), (1, .int (zI x1)), (2, .int (zI x2)), (3, .int (zI x3)), (4, .ref (a 199))] [] st
  unfold J_L_cost at h
  cases hJ : J_X11_cost x1 x2 x3 st with
  | none => rw [hJ] at h; cases h
  | some R9 =>
    rw [hJ] at h
    rcases R9 with q9 | ⟨e9, st9⟩
    · dsimp only at h
      cases h
      refine z_aload 4 hc dL_cost_0 rfl ?_
      refine z_iconst hc dL_cost_2 ?_
      refine z_aload_n (i := 0) 0 hc dL_cost_3 rfl rfl ?_
      refine z_iload_n (i := 1) 1 hc dL_cost_4 rfl rfl ?_
      refine z_iload_n (i := 2) 2 hc dL_cost_5 rfl rfl ?_
      refine z_iload_n (i := 3) 3 hc dL_cost_6 rfl rfl ?_
      refine z_xcallVJ [.int (zI x1), .int (zI x2), .int (zI x3)] hc hap o_X11_cost ml_RL_54 (fun l hl => c_X11_cost_r hl hJ) (by decide) tT_0 (by decide) ⟨_, rfl, rfl⟩ rfl rfl (Nat.le_of_ble_eq_true rfl) (Nat.zero_le _) (Nat.zero_le _) dL_cost_7 ?_
      refine z_last (kI := 199) (nI9 := 1) (F := fun st9 => some st9) (o := z_up st 199 0 q9) hc hap tT_199 (by decide) rfl rfl (by decide) dL_cost_10 (z_g_pos (by decide)) (fun st9 hst9 => ?_)
      cases hst9
      refine z_goto (tgt := 22) hc dL_cost_11 (by decide) ?_
      refine z_iconst hc dL_cost_22 ?_
      refine z_wide (Nat.zero_le 1) (Nat.zero_le 6) ?_
      exact z_retW hc he dL_cost_23
    · dsimp only at h
      by_cases e0 : e9 = 3
      · subst e0
        rw [if_pos rfl] at h
        cases h
        refine z_aload 4 hc dL_cost_0 rfl ?_
        refine z_iconst hc dL_cost_2 ?_
        refine z_aload_n (i := 0) 0 hc dL_cost_3 rfl rfl ?_
        refine z_iload_n (i := 1) 1 hc dL_cost_4 rfl rfl ?_
        refine z_iload_n (i := 2) 2 hc dL_cost_5 rfl rfl ?_
        refine z_iload_n (i := 3) 3 hc dL_cost_6 rfl rfl ?_
        refine z_xthrV (kd := 1) [.int (zI x1), .int (zI x2), .int (zI x3)] hc hap o_X11_cost ml_RL_54 (fun l hl => c_X11_cost_t hl hJ) (by decide) tT_0 (by decide) ⟨_, rfl, rfl⟩ rfl rfl (Nat.le_of_ble_eq_true rfl) (Nat.le_refl 1) (Nat.le_refl 6) dL_cost_7 ?_
        refine z_catch (e9 := 3) [] ⟨0, 11, 14, 21⟩ [⟨0, 11, 18, 13⟩] hc he rfl (by decide) (fun z hz => nomatch hz) (by decide) (by decide) cl_RL_21 (fun q9 => ?_)
        refine z_astore ((5, .ref q9) :: [(0, .ref (a 0)), (1, .int (zI x1)), (2, .int (zI x2)), (3, .int (zI x3)), (4, .ref (a 199))]) hc dL_cost_14 (by decide) rfl ?_
        refine z_iconst hc dL_cost_16 ?_
        exact z_retW hc he dL_cost_17
      rw [if_neg e0] at h
      by_cases e1 : e9 = 1
      · subst e1
        rw [if_pos rfl] at h
        cases h
        refine z_aload 4 hc dL_cost_0 rfl ?_
        refine z_iconst hc dL_cost_2 ?_
        refine z_aload_n (i := 0) 0 hc dL_cost_3 rfl rfl ?_
        refine z_iload_n (i := 1) 1 hc dL_cost_4 rfl rfl ?_
        refine z_iload_n (i := 2) 2 hc dL_cost_5 rfl rfl ?_
        refine z_iload_n (i := 3) 3 hc dL_cost_6 rfl rfl ?_
        refine z_xthrV (kd := 1) [.int (zI x1), .int (zI x2), .int (zI x3)] hc hap o_X11_cost ml_RL_54 (fun l hl => c_X11_cost_t hl hJ) (by decide) tT_0 (by decide) ⟨_, rfl, rfl⟩ rfl rfl (Nat.le_of_ble_eq_true rfl) (Nat.le_refl 1) (Nat.le_refl 6) dL_cost_7 ?_
        refine z_catch (e9 := 1) [⟨0, 11, 14, 21⟩] ⟨0, 11, 18, 13⟩ [] hc he rfl (by decide) (fun z hz => by
        rcases List.mem_cons.mp hz with e | hz
        · subst e; exact ⟨3, by decide, by decide, cl_RL_21, by decide⟩
        · cases hz) (by decide) (by decide) cl_RL_13 (fun q9 => ?_)
        refine z_astore ((5, .ref q9) :: [(0, .ref (a 0)), (1, .int (zI x1)), (2, .int (zI x2)), (3, .int (zI x3)), (4, .ref (a 199))]) hc dL_cost_18 (by decide) rfl ?_
        refine z_iconst hc dL_cost_20 ?_
        exact z_retW hc he dL_cost_21
      rw [if_neg e1] at h
      cases h
theorem dL_over_0 : decode cL_over 0 = .ok (.aload 4, 2) := by decide +kernel
theorem dL_over_2 : decode cL_over 2 = .ok (.iconst 0, 1) := by decide +kernel
theorem dL_over_3 : decode cL_over 3 = .ok (.aload_n 0, 1) := by decide +kernel
theorem dL_over_4 : decode cL_over 4 = .ok (.iload_n 1, 1) := by decide +kernel
theorem dL_over_5 : decode cL_over 5 = .ok (.iload_n 2, 1) := by decide +kernel
theorem dL_over_6 : decode cL_over 6 = .ok (.iload_n 3, 1) := by decide +kernel
theorem dL_over_7 : decode cL_over 7 = .ok (.invokevirtual 58, 3) := by decide +kernel
theorem dL_over_10 : decode cL_over 10 = .ok (.lastore, 1) := by decide +kernel
theorem dL_over_11 : decode cL_over 11 = .ok (.goto 11, 3) := by decide +kernel
theorem dL_over_14 : decode cL_over 14 = .ok (.astore 5, 2) := by decide +kernel
theorem dL_over_16 : decode cL_over 16 = .ok (.iconst 1, 1) := by decide +kernel
theorem dL_over_17 : decode cL_over 17 = .ok (.ireturn, 1) := by decide +kernel
theorem dL_over_18 : decode cL_over 18 = .ok (.astore 5, 2) := by decide +kernel
theorem dL_over_20 : decode cL_over 20 = .ok (.iconst 2, 1) := by decide +kernel
theorem dL_over_21 : decode cL_over 21 = .ok (.ireturn, 1) := by decide +kernel
theorem dL_over_22 : decode cL_over 22 = .ok (.iconst 0, 1) := by decide +kernel
theorem dL_over_23 : decode cL_over 23 = .ok (.ireturn, 1) := by decide +kernel
def hL_over : List (Nat × Nat × Nat × Nat) := [(0, 11, 14, 21), (0, 11, 18, 13)]
def J_L_over (x1 x2 x3 : Int) (st : z_St) : Option (Int × z_St) := match J_X11_over x1 x2 x3 st with
  | none => none
  | some (.inl q) => some (0, z_up q.2 199 0 q.1)
  | some (.inr q) => if q.1 = 3 then some (1, q.2) else if q.1 = 1 then some (2, q.2) else none
theorem kL_over : Cond.codeWith yL_over cL_over 6 (some .int) hL_over ∈ z_tbl := z_t4 68 rfl rfl
set_option maxRecDepth 100000 in
set_option maxHeartbeats 4000000 in
theorem c_L_over {l : Launch} (hl : l.stackTraces = false) {a : Nat → Nat} {x1 x2 x3 : Int} {st : z_St} {o : Int × z_St} (h : J_L_over x1 x2 x3 st = some o) : z_MW l yL_over cL_over 6 hL_over 14 z_T z_N a [.ref (a 0), .int (zI x1), .int (zI x2), .int (zI x3), .ref (a 199)] st o.1 o.2 := by
  refine z_ofW hl (by decide +kernel) (Nat.le_of_ble_eq_true rfl) kL_over (fun κ hc hap he => ?_)
  show z_V κ z_T z_N a 0 0 0 [(0, .ref (a 0)), (1, .int (zI x1)), (2, .int (zI x2)), (3, .int (zI x3)), (4, .ref (a 199))] [] st
  unfold J_L_over at h
  cases hJ : J_X11_over x1 x2 x3 st with
  | none => rw [hJ] at h; cases h
  | some R9 =>
    rw [hJ] at h
    rcases R9 with q9 | ⟨e9, st9⟩
    · dsimp only at h
      cases h
      refine z_aload 4 hc dL_over_0 rfl ?_
      refine z_iconst hc dL_over_2 ?_
      refine z_aload_n (i := 0) 0 hc dL_over_3 rfl rfl ?_
      refine z_iload_n (i := 1) 1 hc dL_over_4 rfl rfl ?_
      refine z_iload_n (i := 2) 2 hc dL_over_5 rfl rfl ?_
      refine z_iload_n (i := 3) 3 hc dL_over_6 rfl rfl ?_
      refine z_xcallVJ [.int (zI x1), .int (zI x2), .int (zI x3)] hc hap o_X11_over ml_RL_58 (fun l hl => c_X11_over_r hl hJ) (by decide) tT_0 (by decide) ⟨_, rfl, rfl⟩ rfl rfl (Nat.le_of_ble_eq_true rfl) (Nat.zero_le _) (Nat.zero_le _) dL_over_7 ?_
      refine z_last (kI := 199) (nI9 := 1) (F := fun st9 => some st9) (o := z_up q9.2 199 0 q9.1) hc hap tT_199 (by decide) rfl rfl (by decide) dL_over_10 (z_g_pos (by decide)) (fun st9 hst9 => ?_)
      cases hst9
      refine z_goto (tgt := 22) hc dL_over_11 (by decide) ?_
      refine z_iconst hc dL_over_22 ?_
      refine z_wide (Nat.zero_le 1) (Nat.zero_le 6) ?_
      exact z_retW hc he dL_over_23
    · dsimp only at h
      by_cases e0 : e9 = 3
      · subst e0
        rw [if_pos rfl] at h
        cases h
        refine z_aload 4 hc dL_over_0 rfl ?_
        refine z_iconst hc dL_over_2 ?_
        refine z_aload_n (i := 0) 0 hc dL_over_3 rfl rfl ?_
        refine z_iload_n (i := 1) 1 hc dL_over_4 rfl rfl ?_
        refine z_iload_n (i := 2) 2 hc dL_over_5 rfl rfl ?_
        refine z_iload_n (i := 3) 3 hc dL_over_6 rfl rfl ?_
        refine z_xthrV (kd := 1) [.int (zI x1), .int (zI x2), .int (zI x3)] hc hap o_X11_over ml_RL_58 (fun l hl => c_X11_over_t hl hJ) (by decide) tT_0 (by decide) ⟨_, rfl, rfl⟩ rfl rfl (Nat.le_of_ble_eq_true rfl) (Nat.le_refl 1) (Nat.le_refl 6) dL_over_7 ?_
        refine z_catch (e9 := 3) [] ⟨0, 11, 14, 21⟩ [⟨0, 11, 18, 13⟩] hc he rfl (by decide) (fun z hz => nomatch hz) (by decide) (by decide) cl_RL_21 (fun q9 => ?_)
        refine z_astore ((5, .ref q9) :: [(0, .ref (a 0)), (1, .int (zI x1)), (2, .int (zI x2)), (3, .int (zI x3)), (4, .ref (a 199))]) hc dL_over_14 (by decide) rfl ?_
        refine z_iconst hc dL_over_16 ?_
        exact z_retW hc he dL_over_17
      rw [if_neg e0] at h
      by_cases e1 : e9 = 1
      · subst e1
        rw [if_pos rfl] at h
        cases h
        refine z_aload 4 hc dL_over_0 rfl ?_
        refine z_iconst hc dL_over_2 ?_
        refine z_aload_n (i := 0) 0 hc dL_over_3 rfl rfl ?_
        refine z_iload_n (i := 1) 1 hc dL_over_4 rfl rfl ?_
        refine z_iload_n (i := 2) 2 hc dL_over_5 rfl rfl ?_
        refine z_iload_n (i := 3) 3 hc dL_over_6 rfl rfl ?_
        refine z_xthrV (kd := 1) [.int (zI x1), .int (zI x2), .int (zI x3)] hc hap o_X11_over ml_RL_58 (fun l hl => c_X11_over_t hl hJ) (by decide) tT_0 (by decide) ⟨_, rfl, rfl⟩ rfl rfl (Nat.le_of_ble_eq_true rfl) (Nat.le_refl 1) (Nat.le_refl 6) dL_over_7 ?_
        refine z_catch (e9 := 1) [⟨0, 11, 14, 21⟩] ⟨0, 11, 18, 13⟩ [] hc he rfl (by decide) (fun z hz => by
        rcases List.mem_cons.mp hz with e | hz
        · subst e; exact ⟨3, by decide, by decide, cl_RL_21, by decide⟩
        · cases hz) (by decide) (by decide) cl_RL_13 (fun q9 => ?_)
        refine z_astore ((5, .ref q9) :: [(0, .ref (a 0)), (1, .int (zI x1)), (2, .int (zI x2)), (3, .int (zI x3)), (4, .ref (a 199))]) hc dL_over_18 (by decide) rfl ?_
        refine z_iconst hc dL_over_20 ?_
        exact z_retW hc he dL_over_21
      rw [if_neg e1] at h
      cases h
theorem dL_learn_0 : decode cL_learn 0 = .ok (.aload_n 2, 1) := by decide +kernel
theorem dL_learn_1 : decode cL_learn 1 = .ok (.iconst 0, 1) := by decide +kernel
theorem dL_learn_2 : decode cL_learn 2 = .ok (.aload_n 0, 1) := by decide +kernel
theorem dL_learn_3 : decode cL_learn 3 = .ok (.iload_n 1, 1) := by decide +kernel
theorem dL_learn_4 : decode cL_learn 4 = .ok (.invokevirtual 61, 3) := by decide +kernel
theorem dL_learn_7 : decode cL_learn 7 = .ok (.i2l, 1) := by decide +kernel
theorem dL_learn_8 : decode cL_learn 8 = .ok (.lastore, 1) := by decide +kernel
theorem dL_learn_9 : decode cL_learn 9 = .ok (.goto 6, 3) := by decide +kernel
theorem dL_learn_12 : decode cL_learn 12 = .ok (.astore_n 3, 1) := by decide +kernel
theorem dL_learn_13 : decode cL_learn 13 = .ok (.iconst 1, 1) := by decide +kernel
theorem dL_learn_14 : decode cL_learn 14 = .ok (.ireturn, 1) := by decide +kernel
theorem dL_learn_15 : decode cL_learn 15 = .ok (.iconst 0, 1) := by decide +kernel
theorem dL_learn_16 : decode cL_learn 16 = .ok (.ireturn, 1) := by decide +kernel
def hL_learn : List (Nat × Nat × Nat × Nat) := [(0, 9, 12, 13)]
def J_L_learn (x1 : Int) (st : z_St) : Option (Int × z_St) := match J_X11_learn x1 st with
  | none => none
  | some (.inl q) => z_g (z32 q.1) <| some (0, z_up q.2 199 0 q.1)
  | some (.inr q) => if q.1 = 1 then some (1, q.2) else none
theorem kL_learn : Cond.codeWith yL_learn cL_learn 4 (some .int) hL_learn ∈ z_tbl := z_t4 85 rfl rfl
set_option maxRecDepth 100000 in
set_option maxHeartbeats 4000000 in
theorem c_L_learn {l : Launch} (hl : l.stackTraces = false) {a : Nat → Nat} {x1 : Int} {st : z_St} {o : Int × z_St} (h : J_L_learn x1 st = some o) : z_MW l yL_learn cL_learn 4 hL_learn 11 z_T z_N a [.ref (a 0), .int (zI x1), .ref (a 199)] st o.1 o.2 := by
  refine z_ofW hl (by decide +kernel) (Nat.le_of_ble_eq_true rfl) kL_learn (fun κ hc hap he => ?_)
  show z_V κ z_T z_N a 0 0 0 [(0, .ref (a 0)), (1, .int (zI x1)), (2, .ref (a 199))] [] st
  unfold J_L_learn at h
  cases hJ : J_X11_learn x1 st with
  | none => rw [hJ] at h; cases h
  | some R9 =>
    rw [hJ] at h
    rcases R9 with q9 | ⟨e9, st9⟩
    · dsimp only at h
      obtain ⟨hg, h⟩ := z_g_some h
      cases h
      refine z_aload_n (i := 2) 2 hc dL_learn_0 rfl rfl ?_
      refine z_iconst hc dL_learn_1 ?_
      refine z_aload_n (i := 0) 0 hc dL_learn_2 rfl rfl ?_
      refine z_iload_n (i := 1) 1 hc dL_learn_3 rfl rfl ?_
      refine z_xcallVI [.int (zI x1)] hc hap o_X11_learn ml_RL_61 (fun l hl => c_X11_learn_r hl hJ) (by decide) tT_0 (by decide) ⟨_, rfl, rfl⟩ rfl rfl (Nat.le_of_ble_eq_true rfl) (Nat.zero_le _) (Nat.zero_le _) dL_learn_4 ?_
      refine z_i2lc hc dL_learn_7 hg ?_
      refine z_last (kI := 199) (nI9 := 1) (F := fun st9 => some st9) (o := z_up q9.2 199 0 q9.1) hc hap tT_199 (by decide) rfl rfl (by decide) dL_learn_8 (z_g_pos (by decide)) (fun st9 hst9 => ?_)
      cases hst9
      refine z_goto (tgt := 15) hc dL_learn_9 (by decide) ?_
      refine z_iconst hc dL_learn_15 ?_
      refine z_wide (Nat.zero_le 1) (Nat.zero_le 6) ?_
      exact z_retW hc he dL_learn_16
    · dsimp only at h
      by_cases e0 : e9 = 1
      · subst e0
        rw [if_pos rfl] at h
        cases h
        refine z_aload_n (i := 2) 2 hc dL_learn_0 rfl rfl ?_
        refine z_iconst hc dL_learn_1 ?_
        refine z_aload_n (i := 0) 0 hc dL_learn_2 rfl rfl ?_
        refine z_iload_n (i := 1) 1 hc dL_learn_3 rfl rfl ?_
        refine z_xthrV (kd := 0) [.int (zI x1)] hc hap o_X11_learn ml_RL_61 (fun l hl => c_X11_learn_t hl hJ) (by decide) tT_0 (by decide) ⟨_, rfl, rfl⟩ rfl rfl (Nat.le_of_ble_eq_true rfl) (Nat.le_refl 1) (Nat.le_refl 6) dL_learn_4 ?_
        refine z_catch (e9 := 1) [] ⟨0, 9, 12, 13⟩ [] hc he rfl (by decide) (fun z hz => nomatch hz) (by decide) (by decide) cl_RL_13 (fun q9 => ?_)
        refine z_astore_n (i := 3) ((3, .ref q9) :: [(0, .ref (a 0)), (1, .int (zI x1)), (2, .ref (a 199))]) hc dL_learn_12 rfl (by decide) rfl ?_
        refine z_iconst hc dL_learn_13 ?_
        exact z_retW hc he dL_learn_14
      rw [if_neg e0] at h
      cases h
theorem dL_back_0 : decode cL_back 0 = .ok (.aload_n 2, 1) := by decide +kernel
theorem dL_back_1 : decode cL_back 1 = .ok (.iconst 0, 1) := by decide +kernel
theorem dL_back_2 : decode cL_back 2 = .ok (.aload_n 0, 1) := by decide +kernel
theorem dL_back_3 : decode cL_back 3 = .ok (.iload_n 1, 1) := by decide +kernel
theorem dL_back_4 : decode cL_back 4 = .ok (.invokevirtual 64, 3) := by decide +kernel
theorem dL_back_7 : decode cL_back 7 = .ok (.i2l, 1) := by decide +kernel
theorem dL_back_8 : decode cL_back 8 = .ok (.lastore, 1) := by decide +kernel
theorem dL_back_9 : decode cL_back 9 = .ok (.goto 6, 3) := by decide +kernel
theorem dL_back_12 : decode cL_back 12 = .ok (.astore_n 3, 1) := by decide +kernel
theorem dL_back_13 : decode cL_back 13 = .ok (.iconst 1, 1) := by decide +kernel
theorem dL_back_14 : decode cL_back 14 = .ok (.ireturn, 1) := by decide +kernel
theorem dL_back_15 : decode cL_back 15 = .ok (.iconst 0, 1) := by decide +kernel
theorem dL_back_16 : decode cL_back 16 = .ok (.ireturn, 1) := by decide +kernel
def hL_back : List (Nat × Nat × Nat × Nat) := [(0, 9, 12, 13)]
def J_L_back (x1 : Int) (st : z_St) : Option (Int × z_St) := match J_X11_back x1 st with
  | none => none
  | some (.inl q) => z_g (z32 q.1) <| some (0, z_up q.2 199 0 q.1)
  | some (.inr q) => if q.1 = 1 then some (1, q.2) else none
theorem kL_back : Cond.codeWith yL_back cL_back 4 (some .int) hL_back ∈ z_tbl := z_t4 101 rfl rfl
set_option maxRecDepth 100000 in
set_option maxHeartbeats 4000000 in
theorem c_L_back {l : Launch} (hl : l.stackTraces = false) {a : Nat → Nat} {x1 : Int} {st : z_St} {o : Int × z_St} (h : J_L_back x1 st = some o) : z_MW l yL_back cL_back 4 hL_back 10 z_T z_N a [.ref (a 0), .int (zI x1), .ref (a 199)] st o.1 o.2 := by
  refine z_ofW hl (by decide +kernel) (Nat.le_of_ble_eq_true rfl) kL_back (fun κ hc hap he => ?_)
  show z_V κ z_T z_N a 0 0 0 [(0, .ref (a 0)), (1, .int (zI x1)), (2, .ref (a 199))] [] st
  unfold J_L_back at h
  cases hJ : J_X11_back x1 st with
  | none => rw [hJ] at h; cases h
  | some R9 =>
    rw [hJ] at h
    rcases R9 with q9 | ⟨e9, st9⟩
    · dsimp only at h
      obtain ⟨hg, h⟩ := z_g_some h
      cases h
      refine z_aload_n (i := 2) 2 hc dL_back_0 rfl rfl ?_
      refine z_iconst hc dL_back_1 ?_
      refine z_aload_n (i := 0) 0 hc dL_back_2 rfl rfl ?_
      refine z_iload_n (i := 1) 1 hc dL_back_3 rfl rfl ?_
      refine z_xcallVI [.int (zI x1)] hc hap o_X11_back ml_RL_64 (fun l hl => c_X11_back_r hl hJ) (by decide) tT_0 (by decide) ⟨_, rfl, rfl⟩ rfl rfl (Nat.le_of_ble_eq_true rfl) (Nat.zero_le _) (Nat.zero_le _) dL_back_4 ?_
      refine z_i2lc hc dL_back_7 hg ?_
      refine z_last (kI := 199) (nI9 := 1) (F := fun st9 => some st9) (o := z_up q9.2 199 0 q9.1) hc hap tT_199 (by decide) rfl rfl (by decide) dL_back_8 (z_g_pos (by decide)) (fun st9 hst9 => ?_)
      cases hst9
      refine z_goto (tgt := 15) hc dL_back_9 (by decide) ?_
      refine z_iconst hc dL_back_15 ?_
      refine z_wide (Nat.zero_le 1) (Nat.zero_le 6) ?_
      exact z_retW hc he dL_back_16
    · dsimp only at h
      by_cases e0 : e9 = 1
      · subst e0
        rw [if_pos rfl] at h
        cases h
        refine z_aload_n (i := 2) 2 hc dL_back_0 rfl rfl ?_
        refine z_iconst hc dL_back_1 ?_
        refine z_aload_n (i := 0) 0 hc dL_back_2 rfl rfl ?_
        refine z_iload_n (i := 1) 1 hc dL_back_3 rfl rfl ?_
        refine z_xthrV (kd := 0) [.int (zI x1)] hc hap o_X11_back ml_RL_64 (fun l hl => c_X11_back_t hl hJ) (by decide) tT_0 (by decide) ⟨_, rfl, rfl⟩ rfl rfl (Nat.le_of_ble_eq_true rfl) (Nat.le_refl 1) (Nat.le_refl 6) dL_back_4 ?_
        refine z_catch (e9 := 1) [] ⟨0, 9, 12, 13⟩ [] hc he rfl (by decide) (fun z hz => nomatch hz) (by decide) (by decide) cl_RL_13 (fun q9 => ?_)
        refine z_astore_n (i := 3) ((3, .ref q9) :: [(0, .ref (a 0)), (1, .int (zI x1)), (2, .ref (a 199))]) hc dL_back_12 rfl (by decide) rfl ?_
        refine z_iconst hc dL_back_13 ?_
        exact z_retW hc he dL_back_14
      rw [if_neg e0] at h
      cases h
theorem dL_factor_0 : decode cL_factor 0 = .ok (.aload_n 2, 1) := by decide +kernel
theorem dL_factor_1 : decode cL_factor 1 = .ok (.iconst 0, 1) := by decide +kernel
theorem dL_factor_2 : decode cL_factor 2 = .ok (.aload_n 0, 1) := by decide +kernel
theorem dL_factor_3 : decode cL_factor 3 = .ok (.iload_n 1, 1) := by decide +kernel
theorem dL_factor_4 : decode cL_factor 4 = .ok (.invokevirtual 67, 3) := by decide +kernel
theorem dL_factor_7 : decode cL_factor 7 = .ok (.i2l, 1) := by decide +kernel
theorem dL_factor_8 : decode cL_factor 8 = .ok (.lastore, 1) := by decide +kernel
theorem dL_factor_9 : decode cL_factor 9 = .ok (.goto 6, 3) := by decide +kernel
theorem dL_factor_12 : decode cL_factor 12 = .ok (.astore_n 3, 1) := by decide +kernel
theorem dL_factor_13 : decode cL_factor 13 = .ok (.iconst 1, 1) := by decide +kernel
theorem dL_factor_14 : decode cL_factor 14 = .ok (.ireturn, 1) := by decide +kernel
theorem dL_factor_15 : decode cL_factor 15 = .ok (.iconst 0, 1) := by decide +kernel
theorem dL_factor_16 : decode cL_factor 16 = .ok (.ireturn, 1) := by decide +kernel
def hL_factor : List (Nat × Nat × Nat × Nat) := [(0, 9, 12, 13)]
def J_L_factor (x1 : Int) (st : z_St) : Option (Int × z_St) := match J_X11_factor x1 st with
  | none => none
  | some (.inl q) => z_g (z32 q.1) <| some (0, z_up q.2 199 0 q.1)
  | some (.inr q) => if q.1 = 1 then some (1, q.2) else none
theorem kL_factor : Cond.codeWith yL_factor cL_factor 4 (some .int) hL_factor ∈ z_tbl := z_t4 109 rfl rfl
set_option maxRecDepth 100000 in
set_option maxHeartbeats 4000000 in
theorem c_L_factor {l : Launch} (hl : l.stackTraces = false) {a : Nat → Nat} {x1 : Int} {st : z_St} {o : Int × z_St} (h : J_L_factor x1 st = some o) : z_MW l yL_factor cL_factor 4 hL_factor 10 z_T z_N a [.ref (a 0), .int (zI x1), .ref (a 199)] st o.1 o.2 := by
  refine z_ofW hl (by decide +kernel) (Nat.le_of_ble_eq_true rfl) kL_factor (fun κ hc hap he => ?_)
  show z_V κ z_T z_N a 0 0 0 [(0, .ref (a 0)), (1, .int (zI x1)), (2, .ref (a 199))] [] st
  unfold J_L_factor at h
  cases hJ : J_X11_factor x1 st with
  | none => rw [hJ] at h; cases h
  | some R9 =>
    rw [hJ] at h
    rcases R9 with q9 | ⟨e9, st9⟩
    · dsimp only at h
      obtain ⟨hg, h⟩ := z_g_some h
      cases h
      refine z_aload_n (i := 2) 2 hc dL_factor_0 rfl rfl ?_
      refine z_iconst hc dL_factor_1 ?_
      refine z_aload_n (i := 0) 0 hc dL_factor_2 rfl rfl ?_
      refine z_iload_n (i := 1) 1 hc dL_factor_3 rfl rfl ?_
      refine z_xcallVI [.int (zI x1)] hc hap o_X11_factor ml_RL_67 (fun l hl => c_X11_factor_r hl hJ) (by decide) tT_0 (by decide) ⟨_, rfl, rfl⟩ rfl rfl (Nat.le_of_ble_eq_true rfl) (Nat.zero_le _) (Nat.zero_le _) dL_factor_4 ?_
      refine z_i2lc hc dL_factor_7 hg ?_
      refine z_last (kI := 199) (nI9 := 1) (F := fun st9 => some st9) (o := z_up q9.2 199 0 q9.1) hc hap tT_199 (by decide) rfl rfl (by decide) dL_factor_8 (z_g_pos (by decide)) (fun st9 hst9 => ?_)
      cases hst9
      refine z_goto (tgt := 15) hc dL_factor_9 (by decide) ?_
      refine z_iconst hc dL_factor_15 ?_
      refine z_wide (Nat.zero_le 1) (Nat.zero_le 6) ?_
      exact z_retW hc he dL_factor_16
    · dsimp only at h
      by_cases e0 : e9 = 1
      · subst e0
        rw [if_pos rfl] at h
        cases h
        refine z_aload_n (i := 2) 2 hc dL_factor_0 rfl rfl ?_
        refine z_iconst hc dL_factor_1 ?_
        refine z_aload_n (i := 0) 0 hc dL_factor_2 rfl rfl ?_
        refine z_iload_n (i := 1) 1 hc dL_factor_3 rfl rfl ?_
        refine z_xthrV (kd := 0) [.int (zI x1)] hc hap o_X11_factor ml_RL_67 (fun l hl => c_X11_factor_t hl hJ) (by decide) tT_0 (by decide) ⟨_, rfl, rfl⟩ rfl rfl (Nat.le_of_ble_eq_true rfl) (Nat.le_refl 1) (Nat.le_refl 6) dL_factor_4 ?_
        refine z_catch (e9 := 1) [] ⟨0, 9, 12, 13⟩ [] hc he rfl (by decide) (fun z hz => nomatch hz) (by decide) (by decide) cl_RL_13 (fun q9 => ?_)
        refine z_astore_n (i := 3) ((3, .ref q9) :: [(0, .ref (a 0)), (1, .int (zI x1)), (2, .ref (a 199))]) hc dL_factor_12 rfl (by decide) rfl ?_
        refine z_iconst hc dL_factor_13 ?_
        exact z_retW hc he dL_factor_14
      rw [if_neg e0] at h
      cases h
theorem dL_price_0 : decode cL_price 0 = .ok (.aload_n 3, 1) := by decide +kernel
theorem dL_price_1 : decode cL_price 1 = .ok (.iconst 0, 1) := by decide +kernel
theorem dL_price_2 : decode cL_price 2 = .ok (.aload_n 0, 1) := by decide +kernel
theorem dL_price_3 : decode cL_price 3 = .ok (.iload_n 1, 1) := by decide +kernel
theorem dL_price_4 : decode cL_price 4 = .ok (.iload_n 2, 1) := by decide +kernel
theorem dL_price_5 : decode cL_price 5 = .ok (.invokevirtual 70, 3) := by decide +kernel
theorem dL_price_8 : decode cL_price 8 = .ok (.lastore, 1) := by decide +kernel
theorem dL_price_9 : decode cL_price 9 = .ok (.goto 7, 3) := by decide +kernel
theorem dL_price_12 : decode cL_price 12 = .ok (.astore 4, 2) := by decide +kernel
theorem dL_price_14 : decode cL_price 14 = .ok (.iconst 1, 1) := by decide +kernel
theorem dL_price_15 : decode cL_price 15 = .ok (.ireturn, 1) := by decide +kernel
theorem dL_price_16 : decode cL_price 16 = .ok (.iconst 0, 1) := by decide +kernel
theorem dL_price_17 : decode cL_price 17 = .ok (.ireturn, 1) := by decide +kernel
def hL_price : List (Nat × Nat × Nat × Nat) := [(0, 9, 12, 21)]
def J_L_price (x1 x2 : Int) (st : z_St) : Option (Int × z_St) := match J_X11_price x1 x2 st with
  | none => none
  | some (.inl q) => some (0, z_up st 199 0 q)
  | some (.inr q) => if q.1 = 3 then some (1, q.2) else none
theorem kL_price : Cond.codeWith yL_price cL_price 5 (some .int) hL_price ∈ z_tbl := z_t4 116 rfl rfl
set_option maxRecDepth 100000 in
set_option maxHeartbeats 4000000 in
theorem c_L_price {l : Launch} (hl : l.stackTraces = false) {a : Nat → Nat} {x1 x2 : Int} {st : z_St} {o : Int × z_St} (h : J_L_price x1 x2 st = some o) : z_MW l yL_price cL_price 5 hL_price 11 z_T z_N a [.ref (a 0), .int (zI x1), .int (zI x2), .ref (a 199)] st o.1 o.2 := by
  refine z_ofW hl (by decide +kernel) (Nat.le_of_ble_eq_true rfl) kL_price (fun κ hc hap he => ?_)
  show z_V κ z_T z_N a 0 0 0 [(0, .ref (a 0)), (1, .int (zI x1)), (2, .int (zI x2)), (3, .ref (a 199))] [] st
  unfold J_L_price at h
  cases hJ : J_X11_price x1 x2 st with
  | none => rw [hJ] at h; cases h
  | some R9 =>
    rw [hJ] at h
    rcases R9 with q9 | ⟨e9, st9⟩
    · dsimp only at h
      cases h
      refine z_aload_n (i := 3) 3 hc dL_price_0 rfl rfl ?_
      refine z_iconst hc dL_price_1 ?_
      refine z_aload_n (i := 0) 0 hc dL_price_2 rfl rfl ?_
      refine z_iload_n (i := 1) 1 hc dL_price_3 rfl rfl ?_
      refine z_iload_n (i := 2) 2 hc dL_price_4 rfl rfl ?_
      refine z_xcallVJ [.int (zI x1), .int (zI x2)] hc hap o_X11_price ml_RL_70 (fun l hl => c_X11_price_r hl hJ) (by decide) tT_0 (by decide) ⟨_, rfl, rfl⟩ rfl rfl (Nat.le_of_ble_eq_true rfl) (Nat.zero_le _) (Nat.zero_le _) dL_price_5 ?_
      refine z_last (kI := 199) (nI9 := 1) (F := fun st9 => some st9) (o := z_up st 199 0 q9) hc hap tT_199 (by decide) rfl rfl (by decide) dL_price_8 (z_g_pos (by decide)) (fun st9 hst9 => ?_)
      cases hst9
      refine z_goto (tgt := 16) hc dL_price_9 (by decide) ?_
      refine z_iconst hc dL_price_16 ?_
      refine z_wide (Nat.zero_le 1) (Nat.zero_le 6) ?_
      exact z_retW hc he dL_price_17
    · dsimp only at h
      by_cases e0 : e9 = 3
      · subst e0
        rw [if_pos rfl] at h
        cases h
        refine z_aload_n (i := 3) 3 hc dL_price_0 rfl rfl ?_
        refine z_iconst hc dL_price_1 ?_
        refine z_aload_n (i := 0) 0 hc dL_price_2 rfl rfl ?_
        refine z_iload_n (i := 1) 1 hc dL_price_3 rfl rfl ?_
        refine z_iload_n (i := 2) 2 hc dL_price_4 rfl rfl ?_
        refine z_xthrV (kd := 1) [.int (zI x1), .int (zI x2)] hc hap o_X11_price ml_RL_70 (fun l hl => c_X11_price_t hl hJ) (by decide) tT_0 (by decide) ⟨_, rfl, rfl⟩ rfl rfl (Nat.le_of_ble_eq_true rfl) (Nat.le_refl 1) (Nat.le_refl 6) dL_price_5 ?_
        refine z_catch (e9 := 3) [] ⟨0, 9, 12, 21⟩ [] hc he rfl (by decide) (fun z hz => nomatch hz) (by decide) (by decide) cl_RL_21 (fun q9 => ?_)
        refine z_astore ((4, .ref q9) :: [(0, .ref (a 0)), (1, .int (zI x1)), (2, .int (zI x2)), (3, .ref (a 199))]) hc dL_price_12 (by decide) rfl ?_
        refine z_iconst hc dL_price_14 ?_
        exact z_retW hc he dL_price_15
      rw [if_neg e0] at h
      cases h
theorem dL_weight_0 : decode cL_weight 0 = .ok (.aload_n 2, 1) := by decide +kernel
theorem dL_weight_1 : decode cL_weight 1 = .ok (.iconst 0, 1) := by decide +kernel
theorem dL_weight_2 : decode cL_weight 2 = .ok (.aload_n 0, 1) := by decide +kernel
theorem dL_weight_3 : decode cL_weight 3 = .ok (.iload_n 1, 1) := by decide +kernel
theorem dL_weight_4 : decode cL_weight 4 = .ok (.invokevirtual 74, 3) := by decide +kernel
theorem dL_weight_7 : decode cL_weight 7 = .ok (.lastore, 1) := by decide +kernel
theorem dL_weight_8 : decode cL_weight 8 = .ok (.goto 6, 3) := by decide +kernel
theorem dL_weight_11 : decode cL_weight 11 = .ok (.astore_n 3, 1) := by decide +kernel
theorem dL_weight_12 : decode cL_weight 12 = .ok (.iconst 1, 1) := by decide +kernel
theorem dL_weight_13 : decode cL_weight 13 = .ok (.ireturn, 1) := by decide +kernel
theorem dL_weight_14 : decode cL_weight 14 = .ok (.iconst 0, 1) := by decide +kernel
theorem dL_weight_15 : decode cL_weight 15 = .ok (.ireturn, 1) := by decide +kernel
def hL_weight : List (Nat × Nat × Nat × Nat) := [(0, 8, 11, 13)]
def J_L_weight (x1 : Int) (st : z_St) : Option (Int × z_St) := match J_X11_weight x1 st with
  | none => none
  | some (.inl q) => some (0, z_up q.2 199 0 q.1)
  | some (.inr q) => if q.1 = 1 then some (1, q.2) else none
theorem kL_weight : Cond.codeWith yL_weight cL_weight 4 (some .int) hL_weight ∈ z_tbl := z_t4 128 rfl rfl
set_option maxRecDepth 100000 in
set_option maxHeartbeats 4000000 in
theorem c_L_weight {l : Launch} (hl : l.stackTraces = false) {a : Nat → Nat} {x1 : Int} {st : z_St} {o : Int × z_St} (h : J_L_weight x1 st = some o) : z_MW l yL_weight cL_weight 4 hL_weight 14 z_T z_N a [.ref (a 0), .int (zI x1), .ref (a 199)] st o.1 o.2 := by
  refine z_ofW hl (by decide +kernel) (Nat.le_of_ble_eq_true rfl) kL_weight (fun κ hc hap he => ?_)
  show z_V κ z_T z_N a 0 0 0 [(0, .ref (a 0)), (1, .int (zI x1)), (2, .ref (a 199))] [] st
  unfold J_L_weight at h
  cases hJ : J_X11_weight x1 st with
  | none => rw [hJ] at h; cases h
  | some R9 =>
    rw [hJ] at h
    rcases R9 with q9 | ⟨e9, st9⟩
    · dsimp only at h
      cases h
      refine z_aload_n (i := 2) 2 hc dL_weight_0 rfl rfl ?_
      refine z_iconst hc dL_weight_1 ?_
      refine z_aload_n (i := 0) 0 hc dL_weight_2 rfl rfl ?_
      refine z_iload_n (i := 1) 1 hc dL_weight_3 rfl rfl ?_
      refine z_xcallVJ [.int (zI x1)] hc hap o_X11_weight ml_RL_74 (fun l hl => c_X11_weight_r hl hJ) (by decide) tT_0 (by decide) ⟨_, rfl, rfl⟩ rfl rfl (Nat.le_of_ble_eq_true rfl) (Nat.zero_le _) (Nat.zero_le _) dL_weight_4 ?_
      refine z_last (kI := 199) (nI9 := 1) (F := fun st9 => some st9) (o := z_up q9.2 199 0 q9.1) hc hap tT_199 (by decide) rfl rfl (by decide) dL_weight_7 (z_g_pos (by decide)) (fun st9 hst9 => ?_)
      cases hst9
      refine z_goto (tgt := 14) hc dL_weight_8 (by decide) ?_
      refine z_iconst hc dL_weight_14 ?_
      refine z_wide (Nat.zero_le 1) (Nat.zero_le 6) ?_
      exact z_retW hc he dL_weight_15
    · dsimp only at h
      by_cases e0 : e9 = 1
      · subst e0
        rw [if_pos rfl] at h
        cases h
        refine z_aload_n (i := 2) 2 hc dL_weight_0 rfl rfl ?_
        refine z_iconst hc dL_weight_1 ?_
        refine z_aload_n (i := 0) 0 hc dL_weight_2 rfl rfl ?_
        refine z_iload_n (i := 1) 1 hc dL_weight_3 rfl rfl ?_
        refine z_xthrV (kd := 1) [.int (zI x1)] hc hap o_X11_weight ml_RL_74 (fun l hl => c_X11_weight_t hl hJ) (by decide) tT_0 (by decide) ⟨_, rfl, rfl⟩ rfl rfl (Nat.le_of_ble_eq_true rfl) (Nat.le_refl 1) (Nat.le_refl 6) dL_weight_4 ?_
        refine z_catch (e9 := 1) [] ⟨0, 8, 11, 13⟩ [] hc he rfl (by decide) (fun z hz => nomatch hz) (by decide) (by decide) cl_RL_13 (fun q9 => ?_)
        refine z_astore_n (i := 3) ((3, .ref q9) :: [(0, .ref (a 0)), (1, .int (zI x1)), (2, .ref (a 199))]) hc dL_weight_11 rfl (by decide) rfl ?_
        refine z_iconst hc dL_weight_12 ?_
        exact z_retW hc he dL_weight_13
      rw [if_neg e0] at h
      cases h
theorem dL_weightAnew_0 : decode cL_weightAnew 0 = .ok (.aload_n 2, 1) := by decide +kernel
theorem dL_weightAnew_1 : decode cL_weightAnew 1 = .ok (.iconst 0, 1) := by decide +kernel
theorem dL_weightAnew_2 : decode cL_weightAnew 2 = .ok (.aload_n 0, 1) := by decide +kernel
theorem dL_weightAnew_3 : decode cL_weightAnew 3 = .ok (.iload_n 1, 1) := by decide +kernel
theorem dL_weightAnew_4 : decode cL_weightAnew 4 = .ok (.invokevirtual 78, 3) := by decide +kernel
theorem dL_weightAnew_7 : decode cL_weightAnew 7 = .ok (.lastore, 1) := by decide +kernel
theorem dL_weightAnew_8 : decode cL_weightAnew 8 = .ok (.goto 6, 3) := by decide +kernel
theorem dL_weightAnew_11 : decode cL_weightAnew 11 = .ok (.astore_n 3, 1) := by decide +kernel
theorem dL_weightAnew_12 : decode cL_weightAnew 12 = .ok (.iconst 1, 1) := by decide +kernel
theorem dL_weightAnew_13 : decode cL_weightAnew 13 = .ok (.ireturn, 1) := by decide +kernel
theorem dL_weightAnew_14 : decode cL_weightAnew 14 = .ok (.iconst 0, 1) := by decide +kernel
theorem dL_weightAnew_15 : decode cL_weightAnew 15 = .ok (.ireturn, 1) := by decide +kernel
def hL_weightAnew : List (Nat × Nat × Nat × Nat) := [(0, 8, 11, 13)]
def J_L_weightAnew (x1 : Int) (st : z_St) : Option (Int × z_St) := match J_X11_weightAnew x1 st with
  | none => none
  | some (.inl q) => some (0, z_up q.2 199 0 q.1)
  | some (.inr q) => if q.1 = 1 then some (1, q.2) else none
theorem kL_weightAnew : Cond.codeWith yL_weightAnew cL_weightAnew 4 (some .int) hL_weightAnew ∈ z_tbl := z_t4 139 rfl rfl
set_option maxRecDepth 100000 in
set_option maxHeartbeats 4000000 in
theorem c_L_weightAnew {l : Launch} (hl : l.stackTraces = false) {a : Nat → Nat} {x1 : Int} {st : z_St} {o : Int × z_St} (h : J_L_weightAnew x1 st = some o) : z_MW l yL_weightAnew cL_weightAnew 4 hL_weightAnew 26 z_T z_N a [.ref (a 0), .int (zI x1), .ref (a 199)] st o.1 o.2 := by
  refine z_ofW hl (by decide +kernel) (Nat.le_of_ble_eq_true rfl) kL_weightAnew (fun κ hc hap he => ?_)
  show z_V κ z_T z_N a 0 0 0 [(0, .ref (a 0)), (1, .int (zI x1)), (2, .ref (a 199))] [] st
  unfold J_L_weightAnew at h
  cases hJ : J_X11_weightAnew x1 st with
  | none => rw [hJ] at h; cases h
  | some R9 =>
    rw [hJ] at h
    rcases R9 with q9 | ⟨e9, st9⟩
    · dsimp only at h
      cases h
      refine z_aload_n (i := 2) 2 hc dL_weightAnew_0 rfl rfl ?_
      refine z_iconst hc dL_weightAnew_1 ?_
      refine z_aload_n (i := 0) 0 hc dL_weightAnew_2 rfl rfl ?_
      refine z_iload_n (i := 1) 1 hc dL_weightAnew_3 rfl rfl ?_
      refine z_xcallVJ [.int (zI x1)] hc hap o_X11_weightAnew ml_RL_78 (fun l hl => c_X11_weightAnew_r hl hJ) (by decide) tT_0 (by decide) ⟨_, rfl, rfl⟩ rfl rfl (Nat.le_of_ble_eq_true rfl) (Nat.zero_le _) (Nat.zero_le _) dL_weightAnew_4 ?_
      refine z_last (kI := 199) (nI9 := 1) (F := fun st9 => some st9) (o := z_up q9.2 199 0 q9.1) hc hap tT_199 (by decide) rfl rfl (by decide) dL_weightAnew_7 (z_g_pos (by decide)) (fun st9 hst9 => ?_)
      cases hst9
      refine z_goto (tgt := 14) hc dL_weightAnew_8 (by decide) ?_
      refine z_iconst hc dL_weightAnew_14 ?_
      refine z_wide (Nat.zero_le 1) (Nat.zero_le 6) ?_
      exact z_retW hc he dL_weightAnew_15
    · dsimp only at h
      by_cases e0 : e9 = 1
      · subst e0
        rw [if_pos rfl] at h
        cases h
        refine z_aload_n (i := 2) 2 hc dL_weightAnew_0 rfl rfl ?_
        refine z_iconst hc dL_weightAnew_1 ?_
        refine z_aload_n (i := 0) 0 hc dL_weightAnew_2 rfl rfl ?_
        refine z_iload_n (i := 1) 1 hc dL_weightAnew_3 rfl rfl ?_
        refine z_xthrV (kd := 1) [.int (zI x1)] hc hap o_X11_weightAnew ml_RL_78 (fun l hl => c_X11_weightAnew_t hl hJ) (by decide) tT_0 (by decide) ⟨_, rfl, rfl⟩ rfl rfl (Nat.le_of_ble_eq_true rfl) (Nat.le_refl 1) (Nat.le_refl 6) dL_weightAnew_4 ?_
        refine z_catch (e9 := 1) [] ⟨0, 8, 11, 13⟩ [] hc he rfl (by decide) (fun z hz => nomatch hz) (by decide) (by decide) cl_RL_13 (fun q9 => ?_)
        refine z_astore_n (i := 3) ((3, .ref q9) :: [(0, .ref (a 0)), (1, .int (zI x1)), (2, .ref (a 199))]) hc dL_weightAnew_11 rfl (by decide) rfl ?_
        refine z_iconst hc dL_weightAnew_12 ?_
        exact z_retW hc he dL_weightAnew_13
      rw [if_neg e0] at h
      cases h
theorem dL_best_0 : decode cL_best 0 = .ok (.aload_n 2, 1) := by decide +kernel
theorem dL_best_1 : decode cL_best 1 = .ok (.iconst 0, 1) := by decide +kernel
theorem dL_best_2 : decode cL_best 2 = .ok (.aload_n 0, 1) := by decide +kernel
theorem dL_best_3 : decode cL_best 3 = .ok (.iload_n 1, 1) := by decide +kernel
theorem dL_best_4 : decode cL_best 4 = .ok (.invokevirtual 81, 3) := by decide +kernel
theorem dL_best_7 : decode cL_best 7 = .ok (.i2l, 1) := by decide +kernel
theorem dL_best_8 : decode cL_best 8 = .ok (.lastore, 1) := by decide +kernel
theorem dL_best_9 : decode cL_best 9 = .ok (.goto 6, 3) := by decide +kernel
theorem dL_best_12 : decode cL_best 12 = .ok (.astore_n 3, 1) := by decide +kernel
theorem dL_best_13 : decode cL_best 13 = .ok (.iconst 1, 1) := by decide +kernel
theorem dL_best_14 : decode cL_best 14 = .ok (.ireturn, 1) := by decide +kernel
theorem dL_best_15 : decode cL_best 15 = .ok (.iconst 0, 1) := by decide +kernel
theorem dL_best_16 : decode cL_best 16 = .ok (.ireturn, 1) := by decide +kernel
def hL_best : List (Nat × Nat × Nat × Nat) := [(0, 9, 12, 13)]
def J_L_best (x1 : Int) (st : z_St) : Option (Int × z_St) := match J_X11_best x1 st with
  | none => none
  | some (.inl q) => z_g (z32 q.1) <| some (0, z_up q.2 199 0 q.1)
  | some (.inr q) => if q.1 = 1 then some (1, q.2) else none
theorem kL_best : Cond.codeWith yL_best cL_best 4 (some .int) hL_best ∈ z_tbl := z_t4 156 rfl rfl
set_option maxRecDepth 100000 in
set_option maxHeartbeats 4000000 in
theorem c_L_best {l : Launch} (hl : l.stackTraces = false) {a : Nat → Nat} {x1 : Int} {st : z_St} {o : Int × z_St} (h : J_L_best x1 st = some o) : z_MW l yL_best cL_best 4 hL_best 14 z_T z_N a [.ref (a 0), .int (zI x1), .ref (a 199)] st o.1 o.2 := by
  refine z_ofW hl (by decide +kernel) (Nat.le_of_ble_eq_true rfl) kL_best (fun κ hc hap he => ?_)
  show z_V κ z_T z_N a 0 0 0 [(0, .ref (a 0)), (1, .int (zI x1)), (2, .ref (a 199))] [] st
  unfold J_L_best at h
  cases hJ : J_X11_best x1 st with
  | none => rw [hJ] at h; cases h
  | some R9 =>
    rw [hJ] at h
    rcases R9 with q9 | ⟨e9, st9⟩
    · dsimp only at h
      obtain ⟨hg, h⟩ := z_g_some h
      cases h
      refine z_aload_n (i := 2) 2 hc dL_best_0 rfl rfl ?_
      refine z_iconst hc dL_best_1 ?_
      refine z_aload_n (i := 0) 0 hc dL_best_2 rfl rfl ?_
      refine z_iload_n (i := 1) 1 hc dL_best_3 rfl rfl ?_
      refine z_xcallVI [.int (zI x1)] hc hap o_X11_best ml_RL_81 (fun l hl => c_X11_best_r hl hJ) (by decide) tT_0 (by decide) ⟨_, rfl, rfl⟩ rfl rfl (Nat.le_of_ble_eq_true rfl) (Nat.zero_le _) (Nat.zero_le _) dL_best_4 ?_
      refine z_i2lc hc dL_best_7 hg ?_
      refine z_last (kI := 199) (nI9 := 1) (F := fun st9 => some st9) (o := z_up q9.2 199 0 q9.1) hc hap tT_199 (by decide) rfl rfl (by decide) dL_best_8 (z_g_pos (by decide)) (fun st9 hst9 => ?_)
      cases hst9
      refine z_goto (tgt := 15) hc dL_best_9 (by decide) ?_
      refine z_iconst hc dL_best_15 ?_
      refine z_wide (Nat.zero_le 1) (Nat.zero_le 6) ?_
      exact z_retW hc he dL_best_16
    · dsimp only at h
      by_cases e0 : e9 = 1
      · subst e0
        rw [if_pos rfl] at h
        cases h
        refine z_aload_n (i := 2) 2 hc dL_best_0 rfl rfl ?_
        refine z_iconst hc dL_best_1 ?_
        refine z_aload_n (i := 0) 0 hc dL_best_2 rfl rfl ?_
        refine z_iload_n (i := 1) 1 hc dL_best_3 rfl rfl ?_
        refine z_xthrV (kd := 0) [.int (zI x1)] hc hap o_X11_best ml_RL_81 (fun l hl => c_X11_best_t hl hJ) (by decide) tT_0 (by decide) ⟨_, rfl, rfl⟩ rfl rfl (Nat.le_of_ble_eq_true rfl) (Nat.le_refl 1) (Nat.le_refl 6) dL_best_4 ?_
        refine z_catch (e9 := 1) [] ⟨0, 9, 12, 13⟩ [] hc he rfl (by decide) (fun z hz => nomatch hz) (by decide) (by decide) cl_RL_13 (fun q9 => ?_)
        refine z_astore_n (i := 3) ((3, .ref q9) :: [(0, .ref (a 0)), (1, .int (zI x1)), (2, .ref (a 199))]) hc dL_best_12 rfl (by decide) rfl ?_
        refine z_iconst hc dL_best_13 ?_
        exact z_retW hc he dL_best_14
      rw [if_neg e0] at h
      cases h
theorem dL_found_0 : decode cL_found 0 = .ok (.aload 5, 2) := by decide +kernel
theorem dL_found_2 : decode cL_found 2 = .ok (.iconst 0, 1) := by decide +kernel
theorem dL_found_3 : decode cL_found 3 = .ok (.aload_n 0, 1) := by decide +kernel
theorem dL_found_4 : decode cL_found 4 = .ok (.lload_n 1, 1) := by decide +kernel
theorem dL_found_5 : decode cL_found 5 = .ok (.iload_n 3, 1) := by decide +kernel
theorem dL_found_6 : decode cL_found 6 = .ok (.iload 4, 2) := by decide +kernel
theorem dL_found_8 : decode cL_found 8 = .ok (.invokevirtual 84, 3) := by decide +kernel
theorem dL_found_11 : decode cL_found 11 = .ok (.lastore, 1) := by decide +kernel
theorem dL_found_12 : decode cL_found 12 = .ok (.goto 7, 3) := by decide +kernel
theorem dL_found_15 : decode cL_found 15 = .ok (.astore 6, 2) := by decide +kernel
theorem dL_found_17 : decode cL_found 17 = .ok (.iconst 1, 1) := by decide +kernel
theorem dL_found_18 : decode cL_found 18 = .ok (.ireturn, 1) := by decide +kernel
theorem dL_found_19 : decode cL_found 19 = .ok (.iconst 0, 1) := by decide +kernel
theorem dL_found_20 : decode cL_found 20 = .ok (.ireturn, 1) := by decide +kernel
def hL_found : List (Nat × Nat × Nat × Nat) := [(0, 12, 15, 13)]
def J_L_found (x1 x3 x4 : Int) (st : z_St) : Option (Int × z_St) := match J_X11_found x1 x3 x4 st with
  | none => none
  | some (.inl q) => some (0, z_up q.2 199 0 q.1)
  | some (.inr q) => if q.1 = 1 then some (1, q.2) else none
theorem kL_found : Cond.codeWith yL_found cL_found 7 (some .int) hL_found ∈ z_tbl := z_t4 166 rfl rfl
set_option maxRecDepth 100000 in
set_option maxHeartbeats 4000000 in
theorem c_L_found {l : Launch} (hl : l.stackTraces = false) {a : Nat → Nat} {x1 x3 x4 : Int} {st : z_St} {o : Int × z_St} (h : J_L_found x1 x3 x4 st = some o) : z_MW l yL_found cL_found 7 hL_found 14 z_T z_N a [.ref (a 0), .long (zJ x1), .int (zI x3), .int (zI x4), .ref (a 199)] st o.1 o.2 := by
  refine z_ofW hl (by decide +kernel) (Nat.le_of_ble_eq_true rfl) kL_found (fun κ hc hap he => ?_)
  show z_V κ z_T z_N a 0 0 0 [(0, .ref (a 0)), (1, .long (zJ x1)), (3, .int (zI x3)), (4, .int (zI x4)), (5, .ref (a 199))] [] st
  unfold J_L_found at h
  cases hJ : J_X11_found x1 x3 x4 st with
  | none => rw [hJ] at h; cases h
  | some R9 =>
    rw [hJ] at h
    rcases R9 with q9 | ⟨e9, st9⟩
    · dsimp only at h
      cases h
      refine z_aload 4 hc dL_found_0 rfl ?_
      refine z_iconst hc dL_found_2 ?_
      refine z_aload_n (i := 0) 0 hc dL_found_3 rfl rfl ?_
      refine z_lload_n (i := 1) 1 hc dL_found_4 rfl rfl ?_
      refine z_iload_n (i := 3) 2 hc dL_found_5 rfl rfl ?_
      refine z_iload 3 hc dL_found_6 rfl ?_
      refine z_xcallVJ [.long (zJ x1), .int (zI x3), .int (zI x4)] hc hap o_X11_found ml_RL_84 (fun l hl => c_X11_found_r hl hJ) (by decide) tT_0 (by decide) ⟨_, rfl, rfl⟩ rfl rfl (Nat.le_of_ble_eq_true rfl) (Nat.zero_le _) (Nat.zero_le _) dL_found_8 ?_
      refine z_last (kI := 199) (nI9 := 1) (F := fun st9 => some st9) (o := z_up q9.2 199 0 q9.1) hc hap tT_199 (by decide) rfl rfl (by decide) dL_found_11 (z_g_pos (by decide)) (fun st9 hst9 => ?_)
      cases hst9
      refine z_goto (tgt := 19) hc dL_found_12 (by decide) ?_
      refine z_iconst hc dL_found_19 ?_
      refine z_wide (Nat.zero_le 1) (Nat.zero_le 6) ?_
      exact z_retW hc he dL_found_20
    · dsimp only at h
      by_cases e0 : e9 = 1
      · subst e0
        rw [if_pos rfl] at h
        cases h
        refine z_aload 4 hc dL_found_0 rfl ?_
        refine z_iconst hc dL_found_2 ?_
        refine z_aload_n (i := 0) 0 hc dL_found_3 rfl rfl ?_
        refine z_lload_n (i := 1) 1 hc dL_found_4 rfl rfl ?_
        refine z_iload_n (i := 3) 2 hc dL_found_5 rfl rfl ?_
        refine z_iload 3 hc dL_found_6 rfl ?_
        refine z_xthrV (kd := 1) [.long (zJ x1), .int (zI x3), .int (zI x4)] hc hap o_X11_found ml_RL_84 (fun l hl => c_X11_found_t hl hJ) (by decide) tT_0 (by decide) ⟨_, rfl, rfl⟩ rfl rfl (Nat.le_of_ble_eq_true rfl) (Nat.le_refl 1) (Nat.le_refl 6) dL_found_8 ?_
        refine z_catch (e9 := 1) [] ⟨0, 12, 15, 13⟩ [] hc he rfl (by decide) (fun z hz => nomatch hz) (by decide) (by decide) cl_RL_13 (fun q9 => ?_)
        refine z_astore ((6, .ref q9) :: [(0, .ref (a 0)), (1, .long (zJ x1)), (3, .int (zI x3)), (4, .int (zI x4)), (5, .ref (a 199))]) hc dL_found_15 (by decide) rfl ?_
        refine z_iconst hc dL_found_17 ?_
        exact z_retW hc he dL_found_18
      rw [if_neg e0] at h
      cases h
theorem dL_arcs_0 : decode cL_arcs 0 = .ok (.aload_n 3, 1) := by decide +kernel
theorem dL_arcs_1 : decode cL_arcs 1 = .ok (.iconst 0, 1) := by decide +kernel
theorem dL_arcs_2 : decode cL_arcs 2 = .ok (.aload_n 0, 1) := by decide +kernel
theorem dL_arcs_3 : decode cL_arcs 3 = .ok (.lload_n 1, 1) := by decide +kernel
theorem dL_arcs_4 : decode cL_arcs 4 = .ok (.invokevirtual 88, 3) := by decide +kernel
theorem dL_arcs_7 : decode cL_arcs 7 = .ok (.i2l, 1) := by decide +kernel
theorem dL_arcs_8 : decode cL_arcs 8 = .ok (.lastore, 1) := by decide +kernel
theorem dL_arcs_9 : decode cL_arcs 9 = .ok (.goto 7, 3) := by decide +kernel
theorem dL_arcs_12 : decode cL_arcs 12 = .ok (.astore 4, 2) := by decide +kernel
theorem dL_arcs_14 : decode cL_arcs 14 = .ok (.iconst 1, 1) := by decide +kernel
theorem dL_arcs_15 : decode cL_arcs 15 = .ok (.ireturn, 1) := by decide +kernel
theorem dL_arcs_16 : decode cL_arcs 16 = .ok (.iconst 0, 1) := by decide +kernel
theorem dL_arcs_17 : decode cL_arcs 17 = .ok (.ireturn, 1) := by decide +kernel
def hL_arcs : List (Nat × Nat × Nat × Nat) := [(0, 9, 12, 13)]
def J_L_arcs (x1 : Int) (st : z_St) : Option (Int × z_St) := match J_X11_arcs x1 st with
  | none => none
  | some (.inl q) => z_g (z32 q.1) <| some (0, z_up q.2 199 0 q.1)
  | some (.inr q) => if q.1 = 1 then some (1, q.2) else none
theorem kL_arcs : Cond.codeWith yL_arcs cL_arcs 5 (some .int) hL_arcs ∈ z_tbl := z_t4 210 rfl rfl
set_option maxRecDepth 100000 in
set_option maxHeartbeats 4000000 in
theorem c_L_arcs {l : Launch} (hl : l.stackTraces = false) {a : Nat → Nat} {x1 : Int} {st : z_St} {o : Int × z_St} (h : J_L_arcs x1 st = some o) : z_MW l yL_arcs cL_arcs 5 hL_arcs 15 z_T z_N a [.ref (a 0), .long (zJ x1), .ref (a 199)] st o.1 o.2 := by
  refine z_ofW hl (by decide +kernel) (Nat.le_of_ble_eq_true rfl) kL_arcs (fun κ hc hap he => ?_)
  show z_V κ z_T z_N a 0 0 0 [(0, .ref (a 0)), (1, .long (zJ x1)), (3, .ref (a 199))] [] st
  unfold J_L_arcs at h
  cases hJ : J_X11_arcs x1 st with
  | none => rw [hJ] at h; cases h
  | some R9 =>
    rw [hJ] at h
    rcases R9 with q9 | ⟨e9, st9⟩
    · dsimp only at h
      obtain ⟨hg, h⟩ := z_g_some h
      cases h
      refine z_aload_n (i := 3) 2 hc dL_arcs_0 rfl rfl ?_
      refine z_iconst hc dL_arcs_1 ?_
      refine z_aload_n (i := 0) 0 hc dL_arcs_2 rfl rfl ?_
      refine z_lload_n (i := 1) 1 hc dL_arcs_3 rfl rfl ?_
      refine z_xcallVI [.long (zJ x1)] hc hap o_X11_arcs ml_RL_88 (fun l hl => c_X11_arcs_r hl hJ) (by decide) tT_0 (by decide) ⟨_, rfl, rfl⟩ rfl rfl (Nat.le_of_ble_eq_true rfl) (Nat.zero_le _) (Nat.zero_le _) dL_arcs_4 ?_
      refine z_i2lc hc dL_arcs_7 hg ?_
      refine z_last (kI := 199) (nI9 := 1) (F := fun st9 => some st9) (o := z_up q9.2 199 0 q9.1) hc hap tT_199 (by decide) rfl rfl (by decide) dL_arcs_8 (z_g_pos (by decide)) (fun st9 hst9 => ?_)
      cases hst9
      refine z_goto (tgt := 16) hc dL_arcs_9 (by decide) ?_
      refine z_iconst hc dL_arcs_16 ?_
      refine z_wide (Nat.zero_le 1) (Nat.zero_le 6) ?_
      exact z_retW hc he dL_arcs_17
    · dsimp only at h
      by_cases e0 : e9 = 1
      · subst e0
        rw [if_pos rfl] at h
        cases h
        refine z_aload_n (i := 3) 2 hc dL_arcs_0 rfl rfl ?_
        refine z_iconst hc dL_arcs_1 ?_
        refine z_aload_n (i := 0) 0 hc dL_arcs_2 rfl rfl ?_
        refine z_lload_n (i := 1) 1 hc dL_arcs_3 rfl rfl ?_
        refine z_xthrV (kd := 0) [.long (zJ x1)] hc hap o_X11_arcs ml_RL_88 (fun l hl => c_X11_arcs_t hl hJ) (by decide) tT_0 (by decide) ⟨_, rfl, rfl⟩ rfl rfl (Nat.le_of_ble_eq_true rfl) (Nat.le_refl 1) (Nat.le_refl 6) dL_arcs_4 ?_
        refine z_catch (e9 := 1) [] ⟨0, 9, 12, 13⟩ [] hc he rfl (by decide) (fun z hz => nomatch hz) (by decide) (by decide) cl_RL_13 (fun q9 => ?_)
        refine z_astore ((4, .ref q9) :: [(0, .ref (a 0)), (1, .long (zJ x1)), (3, .ref (a 199))]) hc dL_arcs_12 (by decide) rfl ?_
        refine z_iconst hc dL_arcs_14 ?_
        exact z_retW hc he dL_arcs_15
      rw [if_neg e0] at h
      cases h
theorem dL_arc_0 : decode cL_arc 0 = .ok (.aload 5, 2) := by decide +kernel
theorem dL_arc_2 : decode cL_arc 2 = .ok (.iconst 0, 1) := by decide +kernel
theorem dL_arc_3 : decode cL_arc 3 = .ok (.aload_n 0, 1) := by decide +kernel
theorem dL_arc_4 : decode cL_arc 4 = .ok (.lload_n 1, 1) := by decide +kernel
theorem dL_arc_5 : decode cL_arc 5 = .ok (.iload_n 3, 1) := by decide +kernel
theorem dL_arc_6 : decode cL_arc 6 = .ok (.iload 4, 2) := by decide +kernel
theorem dL_arc_8 : decode cL_arc 8 = .ok (.invokevirtual 92, 3) := by decide +kernel
theorem dL_arc_11 : decode cL_arc 11 = .ok (.lastore, 1) := by decide +kernel
theorem dL_arc_12 : decode cL_arc 12 = .ok (.goto 11, 3) := by decide +kernel
theorem dL_arc_15 : decode cL_arc 15 = .ok (.astore 6, 2) := by decide +kernel
theorem dL_arc_17 : decode cL_arc 17 = .ok (.iconst 1, 1) := by decide +kernel
theorem dL_arc_18 : decode cL_arc 18 = .ok (.ireturn, 1) := by decide +kernel
theorem dL_arc_19 : decode cL_arc 19 = .ok (.astore 6, 2) := by decide +kernel
theorem dL_arc_21 : decode cL_arc 21 = .ok (.iconst 2, 1) := by decide +kernel
theorem dL_arc_22 : decode cL_arc 22 = .ok (.ireturn, 1) := by decide +kernel
theorem dL_arc_23 : decode cL_arc 23 = .ok (.iconst 0, 1) := by decide +kernel
theorem dL_arc_24 : decode cL_arc 24 = .ok (.ireturn, 1) := by decide +kernel
def hL_arc : List (Nat × Nat × Nat × Nat) := [(0, 12, 15, 21), (0, 12, 19, 13)]
def J_L_arc (x1 x3 x4 : Int) (st : z_St) : Option (Int × z_St) := match J_X11_arc x1 x3 x4 st with
  | none => none
  | some (.inl q) => some (0, z_up q.2 199 0 q.1)
  | some (.inr q) => if q.1 = 3 then some (1, q.2) else if q.1 = 1 then some (2, q.2) else none
theorem kL_arc : Cond.codeWith yL_arc cL_arc 7 (some .int) hL_arc ∈ z_tbl := z_t5 15 rfl rfl
set_option maxRecDepth 100000 in
set_option maxHeartbeats 4000000 in
theorem c_L_arc {l : Launch} (hl : l.stackTraces = false) {a : Nat → Nat} {x1 x3 x4 : Int} {st : z_St} {o : Int × z_St} (h : J_L_arc x1 x3 x4 st = some o) : z_MW l yL_arc cL_arc 7 hL_arc 15 z_T z_N a [.ref (a 0), .long (zJ x1), .int (zI x3), .int (zI x4), .ref (a 199)] st o.1 o.2 := by
  refine z_ofW hl (by decide +kernel) (Nat.le_of_ble_eq_true rfl) kL_arc (fun κ hc hap he => ?_)
  show z_V κ z_T z_N a 0 0 0 [(0, .ref (a 0)), (1, .long (zJ x1)), (3, .int (zI x3)), (4, .int (zI x4)), (5, .ref (a 199))] [] st
  unfold J_L_arc at h
  cases hJ : J_X11_arc x1 x3 x4 st with
  | none => rw [hJ] at h; cases h
  | some R9 =>
    rw [hJ] at h
    rcases R9 with q9 | ⟨e9, st9⟩
    · dsimp only at h
      cases h
      refine z_aload 4 hc dL_arc_0 rfl ?_
      refine z_iconst hc dL_arc_2 ?_
      refine z_aload_n (i := 0) 0 hc dL_arc_3 rfl rfl ?_
      refine z_lload_n (i := 1) 1 hc dL_arc_4 rfl rfl ?_
      refine z_iload_n (i := 3) 2 hc dL_arc_5 rfl rfl ?_
      refine z_iload 3 hc dL_arc_6 rfl ?_
      refine z_xcallVJ [.long (zJ x1), .int (zI x3), .int (zI x4)] hc hap o_X11_arc ml_RL_92 (fun l hl => c_X11_arc_r hl hJ) (by decide) tT_0 (by decide) ⟨_, rfl, rfl⟩ rfl rfl (Nat.le_of_ble_eq_true rfl) (Nat.zero_le _) (Nat.zero_le _) dL_arc_8 ?_
      refine z_last (kI := 199) (nI9 := 1) (F := fun st9 => some st9) (o := z_up q9.2 199 0 q9.1) hc hap tT_199 (by decide) rfl rfl (by decide) dL_arc_11 (z_g_pos (by decide)) (fun st9 hst9 => ?_)
      cases hst9
      refine z_goto (tgt := 23) hc dL_arc_12 (by decide) ?_
      refine z_iconst hc dL_arc_23 ?_
      refine z_wide (Nat.zero_le 1) (Nat.zero_le 6) ?_
      exact z_retW hc he dL_arc_24
    · dsimp only at h
      by_cases e0 : e9 = 3
      · subst e0
        rw [if_pos rfl] at h
        cases h
        refine z_aload 4 hc dL_arc_0 rfl ?_
        refine z_iconst hc dL_arc_2 ?_
        refine z_aload_n (i := 0) 0 hc dL_arc_3 rfl rfl ?_
        refine z_lload_n (i := 1) 1 hc dL_arc_4 rfl rfl ?_
        refine z_iload_n (i := 3) 2 hc dL_arc_5 rfl rfl ?_
        refine z_iload 3 hc dL_arc_6 rfl ?_
        refine z_xthrV (kd := 1) [.long (zJ x1), .int (zI x3), .int (zI x4)] hc hap o_X11_arc ml_RL_92 (fun l hl => c_X11_arc_t hl hJ) (by decide) tT_0 (by decide) ⟨_, rfl, rfl⟩ rfl rfl (Nat.le_of_ble_eq_true rfl) (Nat.le_refl 1) (Nat.le_refl 6) dL_arc_8 ?_
        refine z_catch (e9 := 3) [] ⟨0, 12, 15, 21⟩ [⟨0, 12, 19, 13⟩] hc he rfl (by decide) (fun z hz => nomatch hz) (by decide) (by decide) cl_RL_21 (fun q9 => ?_)
        refine z_astore ((6, .ref q9) :: [(0, .ref (a 0)), (1, .long (zJ x1)), (3, .int (zI x3)), (4, .int (zI x4)), (5, .ref (a 199))]) hc dL_arc_15 (by decide) rfl ?_
        refine z_iconst hc dL_arc_17 ?_
        exact z_retW hc he dL_arc_18
      rw [if_neg e0] at h
      by_cases e1 : e9 = 1
      · subst e1
        rw [if_pos rfl] at h
        cases h
        refine z_aload 4 hc dL_arc_0 rfl ?_
        refine z_iconst hc dL_arc_2 ?_
        refine z_aload_n (i := 0) 0 hc dL_arc_3 rfl rfl ?_
        refine z_lload_n (i := 1) 1 hc dL_arc_4 rfl rfl ?_
        refine z_iload_n (i := 3) 2 hc dL_arc_5 rfl rfl ?_
        refine z_iload 3 hc dL_arc_6 rfl ?_
        refine z_xthrV (kd := 1) [.long (zJ x1), .int (zI x3), .int (zI x4)] hc hap o_X11_arc ml_RL_92 (fun l hl => c_X11_arc_t hl hJ) (by decide) tT_0 (by decide) ⟨_, rfl, rfl⟩ rfl rfl (Nat.le_of_ble_eq_true rfl) (Nat.le_refl 1) (Nat.le_refl 6) dL_arc_8 ?_
        refine z_catch (e9 := 1) [⟨0, 12, 15, 21⟩] ⟨0, 12, 19, 13⟩ [] hc he rfl (by decide) (fun z hz => by
        rcases List.mem_cons.mp hz with e | hz
        · subst e; exact ⟨3, by decide, by decide, cl_RL_21, by decide⟩
        · cases hz) (by decide) (by decide) cl_RL_13 (fun q9 => ?_)
        refine z_astore ((6, .ref q9) :: [(0, .ref (a 0)), (1, .long (zJ x1)), (3, .int (zI x3)), (4, .int (zI x4)), (5, .ref (a 199))]) hc dL_arc_19 (by decide) rfl ?_
        refine z_iconst hc dL_arc_21 ?_
        exact z_retW hc he dL_arc_22
      rw [if_neg e1] at h
      cases h
theorem dL_keyword_0 : decode cL_keyword 0 = .ok (.aload_n 2, 1) := by decide +kernel
theorem dL_keyword_1 : decode cL_keyword 1 = .ok (.iconst 0, 1) := by decide +kernel
theorem dL_keyword_2 : decode cL_keyword 2 = .ok (.aload_n 0, 1) := by decide +kernel
theorem dL_keyword_3 : decode cL_keyword 3 = .ok (.iload_n 1, 1) := by decide +kernel
theorem dL_keyword_4 : decode cL_keyword 4 = .ok (.invokevirtual 95, 3) := by decide +kernel
theorem dL_keyword_7 : decode cL_keyword 7 = .ok (.lastore, 1) := by decide +kernel
theorem dL_keyword_8 : decode cL_keyword 8 = .ok (.goto 6, 3) := by decide +kernel
theorem dL_keyword_11 : decode cL_keyword 11 = .ok (.astore_n 3, 1) := by decide +kernel
theorem dL_keyword_12 : decode cL_keyword 12 = .ok (.iconst 1, 1) := by decide +kernel
theorem dL_keyword_13 : decode cL_keyword 13 = .ok (.ireturn, 1) := by decide +kernel
theorem dL_keyword_14 : decode cL_keyword 14 = .ok (.iconst 0, 1) := by decide +kernel
theorem dL_keyword_15 : decode cL_keyword 15 = .ok (.ireturn, 1) := by decide +kernel
def hL_keyword : List (Nat × Nat × Nat × Nat) := [(0, 8, 11, 21)]
def J_L_keyword (x1 : Int) (st : z_St) : Option (Int × z_St) := match J_X11_keyword x1 st with
  | none => none
  | some (.inl q) => some (0, z_up q.2 199 0 q.1)
  | some (.inr q) => if q.1 = 3 then some (1, q.2) else none
theorem kL_keyword : Cond.codeWith yL_keyword cL_keyword 4 (some .int) hL_keyword ∈ z_tbl := z_t5 27 rfl rfl
set_option maxRecDepth 100000 in
set_option maxHeartbeats 4000000 in
theorem c_L_keyword {l : Launch} (hl : l.stackTraces = false) {a : Nat → Nat} {x1 : Int} {st : z_St} {o : Int × z_St} (h : J_L_keyword x1 st = some o) : z_MW l yL_keyword cL_keyword 4 hL_keyword 15 z_T z_N a [.ref (a 0), .int (zI x1), .ref (a 199)] st o.1 o.2 := by
  refine z_ofW hl (by decide +kernel) (Nat.le_of_ble_eq_true rfl) kL_keyword (fun κ hc hap he => ?_)
  show z_V κ z_T z_N a 0 0 0 [(0, .ref (a 0)), (1, .int (zI x1)), (2, .ref (a 199))] [] st
  unfold J_L_keyword at h
  cases hJ : J_X11_keyword x1 st with
  | none => rw [hJ] at h; cases h
  | some R9 =>
    rw [hJ] at h
    rcases R9 with q9 | ⟨e9, st9⟩
    · dsimp only at h
      cases h
      refine z_aload_n (i := 2) 2 hc dL_keyword_0 rfl rfl ?_
      refine z_iconst hc dL_keyword_1 ?_
      refine z_aload_n (i := 0) 0 hc dL_keyword_2 rfl rfl ?_
      refine z_iload_n (i := 1) 1 hc dL_keyword_3 rfl rfl ?_
      refine z_xcallVJ [.int (zI x1)] hc hap o_X11_keyword ml_RL_95 (fun l hl => c_X11_keyword_r hl hJ) (by decide) tT_0 (by decide) ⟨_, rfl, rfl⟩ rfl rfl (Nat.le_of_ble_eq_true rfl) (Nat.zero_le _) (Nat.zero_le _) dL_keyword_4 ?_
      refine z_last (kI := 199) (nI9 := 1) (F := fun st9 => some st9) (o := z_up q9.2 199 0 q9.1) hc hap tT_199 (by decide) rfl rfl (by decide) dL_keyword_7 (z_g_pos (by decide)) (fun st9 hst9 => ?_)
      cases hst9
      refine z_goto (tgt := 14) hc dL_keyword_8 (by decide) ?_
      refine z_iconst hc dL_keyword_14 ?_
      refine z_wide (Nat.zero_le 1) (Nat.zero_le 6) ?_
      exact z_retW hc he dL_keyword_15
    · dsimp only at h
      by_cases e0 : e9 = 3
      · subst e0
        rw [if_pos rfl] at h
        cases h
        refine z_aload_n (i := 2) 2 hc dL_keyword_0 rfl rfl ?_
        refine z_iconst hc dL_keyword_1 ?_
        refine z_aload_n (i := 0) 0 hc dL_keyword_2 rfl rfl ?_
        refine z_iload_n (i := 1) 1 hc dL_keyword_3 rfl rfl ?_
        refine z_xthrV (kd := 1) [.int (zI x1)] hc hap o_X11_keyword ml_RL_95 (fun l hl => c_X11_keyword_t hl hJ) (by decide) tT_0 (by decide) ⟨_, rfl, rfl⟩ rfl rfl (Nat.le_of_ble_eq_true rfl) (Nat.le_refl 1) (Nat.le_refl 6) dL_keyword_4 ?_
        refine z_catch (e9 := 3) [] ⟨0, 8, 11, 21⟩ [] hc he rfl (by decide) (fun z hz => nomatch hz) (by decide) (by decide) cl_RL_21 (fun q9 => ?_)
        refine z_astore_n (i := 3) ((3, .ref q9) :: [(0, .ref (a 0)), (1, .int (zI x1)), (2, .ref (a 199))]) hc dL_keyword_11 rfl (by decide) rfl ?_
        refine z_iconst hc dL_keyword_12 ?_
        exact z_retW hc he dL_keyword_13
      rw [if_neg e0] at h
      cases h
theorem dL_sure_0 : decode cL_sure 0 = .ok (.aload 4, 2) := by decide +kernel
theorem dL_sure_2 : decode cL_sure 2 = .ok (.iconst 0, 1) := by decide +kernel
theorem dL_sure_3 : decode cL_sure 3 = .ok (.aload_n 0, 1) := by decide +kernel
theorem dL_sure_4 : decode cL_sure 4 = .ok (.lload_n 1, 1) := by decide +kernel
theorem dL_sure_5 : decode cL_sure 5 = .ok (.iload_n 3, 1) := by decide +kernel
theorem dL_sure_6 : decode cL_sure 6 = .ok (.invokevirtual 98, 3) := by decide +kernel
theorem dL_sure_9 : decode cL_sure 9 = .ok (.i2l, 1) := by decide +kernel
theorem dL_sure_10 : decode cL_sure 10 = .ok (.lastore, 1) := by decide +kernel
theorem dL_sure_11 : decode cL_sure 11 = .ok (.goto 15, 3) := by decide +kernel
theorem dL_sure_14 : decode cL_sure 14 = .ok (.astore 5, 2) := by decide +kernel
theorem dL_sure_16 : decode cL_sure 16 = .ok (.iconst 1, 1) := by decide +kernel
theorem dL_sure_17 : decode cL_sure 17 = .ok (.ireturn, 1) := by decide +kernel
theorem dL_sure_18 : decode cL_sure 18 = .ok (.astore 5, 2) := by decide +kernel
theorem dL_sure_20 : decode cL_sure 20 = .ok (.iconst 2, 1) := by decide +kernel
theorem dL_sure_21 : decode cL_sure 21 = .ok (.ireturn, 1) := by decide +kernel
theorem dL_sure_22 : decode cL_sure 22 = .ok (.astore 5, 2) := by decide +kernel
theorem dL_sure_24 : decode cL_sure 24 = .ok (.iconst 3, 1) := by decide +kernel
theorem dL_sure_25 : decode cL_sure 25 = .ok (.ireturn, 1) := by decide +kernel
theorem dL_sure_26 : decode cL_sure 26 = .ok (.iconst 0, 1) := by decide +kernel
theorem dL_sure_27 : decode cL_sure 27 = .ok (.ireturn, 1) := by decide +kernel
def hL_sure : List (Nat × Nat × Nat × Nat) := [(0, 11, 14, 21), (0, 11, 18, 13), (0, 11, 22, 15)]
def J_L_sure (x1 x3 : Int) (st : z_St) : Option (Int × z_St) := match J_X11_sure x1 x3 st with
  | none => none
  | some (.inl q) => z_g (z32 q.1) <| some (0, z_up q.2 199 0 q.1)
  | some (.inr q) => if q.1 = 3 then some (1, q.2) else if q.1 = 1 then some (2, q.2) else if q.1 = 2 then some (3, q.2) else none
theorem kL_sure : Cond.codeWith yL_sure cL_sure 6 (some .int) hL_sure ∈ z_tbl := z_t5 38 rfl rfl
set_option maxRecDepth 100000 in
set_option maxHeartbeats 4000000 in
theorem c_L_sure {l : Launch} (hl : l.stackTraces = false) {a : Nat → Nat} {x1 x3 : Int} {st : z_St} {o : Int × z_St} (h : J_L_sure x1 x3 st = some o) : z_MW l yL_sure cL_sure 6 hL_sure 15 z_T z_N a [.ref (a 0), .long (zJ x1), .int (zI x3), .ref (a 199)] st o.1 o.2 := by
  refine z_ofW hl (by decide +kernel) (Nat.le_of_ble_eq_true rfl) kL_sure (fun κ hc hap he => ?_)
  show z_V κ z_T z_N a 0 0 0 [(0, .ref (a 0)), (1, .long (zJ x1)), (3, .int (zI x3)), (4, .ref (a 199))] [] st
  unfold J_L_sure at h
  cases hJ : J_X11_sure x1 x3 st with
  | none => rw [hJ] at h; cases h
  | some R9 =>
    rw [hJ] at h
    rcases R9 with q9 | ⟨e9, st9⟩
    · dsimp only at h
      obtain ⟨hg, h⟩ := z_g_some h
      cases h
      refine z_aload 3 hc dL_sure_0 rfl ?_
      refine z_iconst hc dL_sure_2 ?_
      refine z_aload_n (i := 0) 0 hc dL_sure_3 rfl rfl ?_
      refine z_lload_n (i := 1) 1 hc dL_sure_4 rfl rfl ?_
      refine z_iload_n (i := 3) 2 hc dL_sure_5 rfl rfl ?_
      refine z_xcallVI [.long (zJ x1), .int (zI x3)] hc hap o_X11_sure ml_RL_98 (fun l hl => c_X11_sure_r hl hJ) (by decide) tT_0 (by decide) ⟨_, rfl, rfl⟩ rfl rfl (Nat.le_of_ble_eq_true rfl) (Nat.zero_le _) (Nat.zero_le _) dL_sure_6 ?_
      refine z_i2lc hc dL_sure_9 hg ?_
      refine z_last (kI := 199) (nI9 := 1) (F := fun st9 => some st9) (o := z_up q9.2 199 0 q9.1) hc hap tT_199 (by decide) rfl rfl (by decide) dL_sure_10 (z_g_pos (by decide)) (fun st9 hst9 => ?_)
      cases hst9
      refine z_goto (tgt := 26) hc dL_sure_11 (by decide) ?_
      refine z_iconst hc dL_sure_26 ?_
      refine z_wide (Nat.zero_le 1) (Nat.zero_le 6) ?_
      exact z_retW hc he dL_sure_27
    · dsimp only at h
      by_cases e0 : e9 = 3
      · subst e0
        rw [if_pos rfl] at h
        cases h
        refine z_aload 3 hc dL_sure_0 rfl ?_
        refine z_iconst hc dL_sure_2 ?_
        refine z_aload_n (i := 0) 0 hc dL_sure_3 rfl rfl ?_
        refine z_lload_n (i := 1) 1 hc dL_sure_4 rfl rfl ?_
        refine z_iload_n (i := 3) 2 hc dL_sure_5 rfl rfl ?_
        refine z_xthrV (kd := 0) [.long (zJ x1), .int (zI x3)] hc hap o_X11_sure ml_RL_98 (fun l hl => c_X11_sure_t hl hJ) (by decide) tT_0 (by decide) ⟨_, rfl, rfl⟩ rfl rfl (Nat.le_of_ble_eq_true rfl) (Nat.le_refl 1) (Nat.le_refl 6) dL_sure_6 ?_
        refine z_catch (e9 := 3) [] ⟨0, 11, 14, 21⟩ [⟨0, 11, 18, 13⟩, ⟨0, 11, 22, 15⟩] hc he rfl (by decide) (fun z hz => nomatch hz) (by decide) (by decide) cl_RL_21 (fun q9 => ?_)
        refine z_astore ((5, .ref q9) :: [(0, .ref (a 0)), (1, .long (zJ x1)), (3, .int (zI x3)), (4, .ref (a 199))]) hc dL_sure_14 (by decide) rfl ?_
        refine z_iconst hc dL_sure_16 ?_
        exact z_retW hc he dL_sure_17
      rw [if_neg e0] at h
      by_cases e1 : e9 = 1
      · subst e1
        rw [if_pos rfl] at h
        cases h
        refine z_aload 3 hc dL_sure_0 rfl ?_
        refine z_iconst hc dL_sure_2 ?_
        refine z_aload_n (i := 0) 0 hc dL_sure_3 rfl rfl ?_
        refine z_lload_n (i := 1) 1 hc dL_sure_4 rfl rfl ?_
        refine z_iload_n (i := 3) 2 hc dL_sure_5 rfl rfl ?_
        refine z_xthrV (kd := 0) [.long (zJ x1), .int (zI x3)] hc hap o_X11_sure ml_RL_98 (fun l hl => c_X11_sure_t hl hJ) (by decide) tT_0 (by decide) ⟨_, rfl, rfl⟩ rfl rfl (Nat.le_of_ble_eq_true rfl) (Nat.le_refl 1) (Nat.le_refl 6) dL_sure_6 ?_
        refine z_catch (e9 := 1) [⟨0, 11, 14, 21⟩] ⟨0, 11, 18, 13⟩ [⟨0, 11, 22, 15⟩] hc he rfl (by decide) (fun z hz => by
        rcases List.mem_cons.mp hz with e | hz
        · subst e; exact ⟨3, by decide, by decide, cl_RL_21, by decide⟩
        · cases hz) (by decide) (by decide) cl_RL_13 (fun q9 => ?_)
        refine z_astore ((5, .ref q9) :: [(0, .ref (a 0)), (1, .long (zJ x1)), (3, .int (zI x3)), (4, .ref (a 199))]) hc dL_sure_18 (by decide) rfl ?_
        refine z_iconst hc dL_sure_20 ?_
        exact z_retW hc he dL_sure_21
      rw [if_neg e1] at h
      by_cases e2 : e9 = 2
      · subst e2
        rw [if_pos rfl] at h
        cases h
        refine z_aload 3 hc dL_sure_0 rfl ?_
        refine z_iconst hc dL_sure_2 ?_
        refine z_aload_n (i := 0) 0 hc dL_sure_3 rfl rfl ?_
        refine z_lload_n (i := 1) 1 hc dL_sure_4 rfl rfl ?_
        refine z_iload_n (i := 3) 2 hc dL_sure_5 rfl rfl ?_
        refine z_xthrV (kd := 0) [.long (zJ x1), .int (zI x3)] hc hap o_X11_sure ml_RL_98 (fun l hl => c_X11_sure_t hl hJ) (by decide) tT_0 (by decide) ⟨_, rfl, rfl⟩ rfl rfl (Nat.le_of_ble_eq_true rfl) (Nat.le_refl 1) (Nat.le_refl 6) dL_sure_6 ?_
        refine z_catch (e9 := 2) [⟨0, 11, 14, 21⟩, ⟨0, 11, 18, 13⟩] ⟨0, 11, 22, 15⟩ [] hc he rfl (by decide) (fun z hz => by
        rcases List.mem_cons.mp hz with e | hz
        · subst e; exact ⟨3, by decide, by decide, cl_RL_21, by decide⟩
        · rcases List.mem_cons.mp hz with e | hz
          · subst e; exact ⟨1, by decide, by decide, cl_RL_13, by decide⟩
          · cases hz) (by decide) (by decide) cl_RL_15 (fun q9 => ?_)
        refine z_astore ((5, .ref q9) :: [(0, .ref (a 0)), (1, .long (zJ x1)), (3, .int (zI x3)), (4, .ref (a 199))]) hc dL_sure_22 (by decide) rfl ?_
        refine z_iconst hc dL_sure_24 ?_
        exact z_retW hc he dL_sure_25
      rw [if_neg e2] at h
      cases h
theorem dL_path_0 : decode cL_path 0 = .ok (.aload_n 3, 1) := by decide +kernel
theorem dL_path_1 : decode cL_path 1 = .ok (.iconst 0, 1) := by decide +kernel
theorem dL_path_2 : decode cL_path 2 = .ok (.aload_n 0, 1) := by decide +kernel
theorem dL_path_3 : decode cL_path 3 = .ok (.iload_n 1, 1) := by decide +kernel
theorem dL_path_4 : decode cL_path 4 = .ok (.iload_n 2, 1) := by decide +kernel
theorem dL_path_5 : decode cL_path 5 = .ok (.invokevirtual 102, 3) := by decide +kernel
theorem dL_path_8 : decode cL_path 8 = .ok (.i2l, 1) := by decide +kernel
theorem dL_path_9 : decode cL_path 9 = .ok (.lastore, 1) := by decide +kernel
theorem dL_path_10 : decode cL_path 10 = .ok (.goto 15, 3) := by decide +kernel
theorem dL_path_13 : decode cL_path 13 = .ok (.astore 4, 2) := by decide +kernel
theorem dL_path_15 : decode cL_path 15 = .ok (.iconst 1, 1) := by decide +kernel
theorem dL_path_16 : decode cL_path 16 = .ok (.ireturn, 1) := by decide +kernel
theorem dL_path_17 : decode cL_path 17 = .ok (.astore 4, 2) := by decide +kernel
theorem dL_path_19 : decode cL_path 19 = .ok (.iconst 2, 1) := by decide +kernel
theorem dL_path_20 : decode cL_path 20 = .ok (.ireturn, 1) := by decide +kernel
theorem dL_path_21 : decode cL_path 21 = .ok (.astore 4, 2) := by decide +kernel
theorem dL_path_23 : decode cL_path 23 = .ok (.iconst 3, 1) := by decide +kernel
theorem dL_path_24 : decode cL_path 24 = .ok (.ireturn, 1) := by decide +kernel
theorem dL_path_25 : decode cL_path 25 = .ok (.iconst 0, 1) := by decide +kernel
theorem dL_path_26 : decode cL_path 26 = .ok (.ireturn, 1) := by decide +kernel
def hL_path : List (Nat × Nat × Nat × Nat) := [(0, 10, 13, 21), (0, 10, 17, 13), (0, 10, 21, 15)]
def J_L_path (x1 x2 : Int) (st : z_St) : Option (Int × z_St) := match J_X11_path x1 x2 st with
  | none => none
  | some (.inl q) => z_g (z32 q.1) <| some (0, z_up q.2 199 0 q.1)
  | some (.inr q) => if q.1 = 3 then some (1, q.2) else if q.1 = 1 then some (2, q.2) else if q.1 = 2 then some (3, q.2) else none
theorem kL_path : Cond.codeWith yL_path cL_path 5 (some .int) hL_path ∈ z_tbl := z_t5 53 rfl rfl
set_option maxRecDepth 100000 in
set_option maxHeartbeats 4000000 in
theorem c_L_path {l : Launch} (hl : l.stackTraces = false) {a : Nat → Nat} {x1 x2 : Int} {st : z_St} {o : Int × z_St} (h : J_L_path x1 x2 st = some o) : z_MW l yL_path cL_path 5 hL_path 15 z_T z_N a [.ref (a 0), .int (zI x1), .int (zI x2), .ref (a 199)] st o.1 o.2 := by
  refine z_ofW hl (by decide +kernel) (Nat.le_of_ble_eq_true rfl) kL_path (fun κ hc hap he => ?_)
  show z_V κ z_T z_N a 0 0 0 [(0, .ref (a 0)), (1, .int (zI x1)), (2, .int (zI x2)), (3, .ref (a 199))] [] st
  unfold J_L_path at h
  cases hJ : J_X11_path x1 x2 st with
  | none => rw [hJ] at h; cases h
  | some R9 =>
    rw [hJ] at h
    rcases R9 with q9 | ⟨e9, st9⟩
    · dsimp only at h
      obtain ⟨hg, h⟩ := z_g_some h
      cases h
      refine z_aload_n (i := 3) 3 hc dL_path_0 rfl rfl ?_
      refine z_iconst hc dL_path_1 ?_
      refine z_aload_n (i := 0) 0 hc dL_path_2 rfl rfl ?_
      refine z_iload_n (i := 1) 1 hc dL_path_3 rfl rfl ?_
      refine z_iload_n (i := 2) 2 hc dL_path_4 rfl rfl ?_
      refine z_xcallVI [.int (zI x1), .int (zI x2)] hc hap o_X11_path ml_RL_102 (fun l hl => c_X11_path_r hl hJ) (by decide) tT_0 (by decide) ⟨_, rfl, rfl⟩ rfl rfl (Nat.le_of_ble_eq_true rfl) (Nat.zero_le _) (Nat.zero_le _) dL_path_5 ?_
      refine z_i2lc hc dL_path_8 hg ?_
      refine z_last (kI := 199) (nI9 := 1) (F := fun st9 => some st9) (o := z_up q9.2 199 0 q9.1) hc hap tT_199 (by decide) rfl rfl (by decide) dL_path_9 (z_g_pos (by decide)) (fun st9 hst9 => ?_)
      cases hst9
      refine z_goto (tgt := 25) hc dL_path_10 (by decide) ?_
      refine z_iconst hc dL_path_25 ?_
      refine z_wide (Nat.zero_le 1) (Nat.zero_le 6) ?_
      exact z_retW hc he dL_path_26
    · dsimp only at h
      by_cases e0 : e9 = 3
      · subst e0
        rw [if_pos rfl] at h
        cases h
        refine z_aload_n (i := 3) 3 hc dL_path_0 rfl rfl ?_
        refine z_iconst hc dL_path_1 ?_
        refine z_aload_n (i := 0) 0 hc dL_path_2 rfl rfl ?_
        refine z_iload_n (i := 1) 1 hc dL_path_3 rfl rfl ?_
        refine z_iload_n (i := 2) 2 hc dL_path_4 rfl rfl ?_
        refine z_xthrV (kd := 0) [.int (zI x1), .int (zI x2)] hc hap o_X11_path ml_RL_102 (fun l hl => c_X11_path_t hl hJ) (by decide) tT_0 (by decide) ⟨_, rfl, rfl⟩ rfl rfl (Nat.le_of_ble_eq_true rfl) (Nat.le_refl 1) (Nat.le_refl 6) dL_path_5 ?_
        refine z_catch (e9 := 3) [] ⟨0, 10, 13, 21⟩ [⟨0, 10, 17, 13⟩, ⟨0, 10, 21, 15⟩] hc he rfl (by decide) (fun z hz => nomatch hz) (by decide) (by decide) cl_RL_21 (fun q9 => ?_)
        refine z_astore ((4, .ref q9) :: [(0, .ref (a 0)), (1, .int (zI x1)), (2, .int (zI x2)), (3, .ref (a 199))]) hc dL_path_13 (by decide) rfl ?_
        refine z_iconst hc dL_path_15 ?_
        exact z_retW hc he dL_path_16
      rw [if_neg e0] at h
      by_cases e1 : e9 = 1
      · subst e1
        rw [if_pos rfl] at h
        cases h
        refine z_aload_n (i := 3) 3 hc dL_path_0 rfl rfl ?_
        refine z_iconst hc dL_path_1 ?_
        refine z_aload_n (i := 0) 0 hc dL_path_2 rfl rfl ?_
        refine z_iload_n (i := 1) 1 hc dL_path_3 rfl rfl ?_
        refine z_iload_n (i := 2) 2 hc dL_path_4 rfl rfl ?_
        refine z_xthrV (kd := 0) [.int (zI x1), .int (zI x2)] hc hap o_X11_path ml_RL_102 (fun l hl => c_X11_path_t hl hJ) (by decide) tT_0 (by decide) ⟨_, rfl, rfl⟩ rfl rfl (Nat.le_of_ble_eq_true rfl) (Nat.le_refl 1) (Nat.le_refl 6) dL_path_5 ?_
        refine z_catch (e9 := 1) [⟨0, 10, 13, 21⟩] ⟨0, 10, 17, 13⟩ [⟨0, 10, 21, 15⟩] hc he rfl (by decide) (fun z hz => by
        rcases List.mem_cons.mp hz with e | hz
        · subst e; exact ⟨3, by decide, by decide, cl_RL_21, by decide⟩
        · cases hz) (by decide) (by decide) cl_RL_13 (fun q9 => ?_)
        refine z_astore ((4, .ref q9) :: [(0, .ref (a 0)), (1, .int (zI x1)), (2, .int (zI x2)), (3, .ref (a 199))]) hc dL_path_17 (by decide) rfl ?_
        refine z_iconst hc dL_path_19 ?_
        exact z_retW hc he dL_path_20
      rw [if_neg e1] at h
      by_cases e2 : e9 = 2
      · subst e2
        rw [if_pos rfl] at h
        cases h
        refine z_aload_n (i := 3) 3 hc dL_path_0 rfl rfl ?_
        refine z_iconst hc dL_path_1 ?_
        refine z_aload_n (i := 0) 0 hc dL_path_2 rfl rfl ?_
        refine z_iload_n (i := 1) 1 hc dL_path_3 rfl rfl ?_
        refine z_iload_n (i := 2) 2 hc dL_path_4 rfl rfl ?_
        refine z_xthrV (kd := 0) [.int (zI x1), .int (zI x2)] hc hap o_X11_path ml_RL_102 (fun l hl => c_X11_path_t hl hJ) (by decide) tT_0 (by decide) ⟨_, rfl, rfl⟩ rfl rfl (Nat.le_of_ble_eq_true rfl) (Nat.le_refl 1) (Nat.le_refl 6) dL_path_5 ?_
        refine z_catch (e9 := 2) [⟨0, 10, 13, 21⟩, ⟨0, 10, 17, 13⟩] ⟨0, 10, 21, 15⟩ [] hc he rfl (by decide) (fun z hz => by
        rcases List.mem_cons.mp hz with e | hz
        · subst e; exact ⟨3, by decide, by decide, cl_RL_21, by decide⟩
        · rcases List.mem_cons.mp hz with e | hz
          · subst e; exact ⟨1, by decide, by decide, cl_RL_13, by decide⟩
          · cases hz) (by decide) (by decide) cl_RL_15 (fun q9 => ?_)
        refine z_astore ((4, .ref q9) :: [(0, .ref (a 0)), (1, .int (zI x1)), (2, .int (zI x2)), (3, .ref (a 199))]) hc dL_path_21 (by decide) rfl ?_
        refine z_iconst hc dL_path_23 ?_
        exact z_retW hc he dL_path_24
      rw [if_neg e2] at h
      cases h
theorem dL_errors_0 : decode cL_errors 0 = .ok (.aload_n 2, 1) := by decide +kernel
theorem dL_errors_1 : decode cL_errors 1 = .ok (.iconst 0, 1) := by decide +kernel
theorem dL_errors_2 : decode cL_errors 2 = .ok (.aload_n 0, 1) := by decide +kernel
theorem dL_errors_3 : decode cL_errors 3 = .ok (.iload_n 1, 1) := by decide +kernel
theorem dL_errors_4 : decode cL_errors 4 = .ok (.invokevirtual 105, 3) := by decide +kernel
theorem dL_errors_7 : decode cL_errors 7 = .ok (.i2l, 1) := by decide +kernel
theorem dL_errors_8 : decode cL_errors 8 = .ok (.lastore, 1) := by decide +kernel
theorem dL_errors_9 : decode cL_errors 9 = .ok (.goto 9, 3) := by decide +kernel
theorem dL_errors_12 : decode cL_errors 12 = .ok (.astore_n 3, 1) := by decide +kernel
theorem dL_errors_13 : decode cL_errors 13 = .ok (.iconst 1, 1) := by decide +kernel
theorem dL_errors_14 : decode cL_errors 14 = .ok (.ireturn, 1) := by decide +kernel
theorem dL_errors_15 : decode cL_errors 15 = .ok (.astore_n 3, 1) := by decide +kernel
theorem dL_errors_16 : decode cL_errors 16 = .ok (.iconst 2, 1) := by decide +kernel
theorem dL_errors_17 : decode cL_errors 17 = .ok (.ireturn, 1) := by decide +kernel
theorem dL_errors_18 : decode cL_errors 18 = .ok (.iconst 0, 1) := by decide +kernel
theorem dL_errors_19 : decode cL_errors 19 = .ok (.ireturn, 1) := by decide +kernel
def hL_errors : List (Nat × Nat × Nat × Nat) := [(0, 9, 12, 13), (0, 9, 15, 15)]
def J_L_errors (x1 : Int) (st : z_St) : Option (Int × z_St) := match J_X11_errors x1 st with
  | none => none
  | some (.inl q) => z_g (z32 q.1) <| some (0, z_up q.2 199 0 q.1)
  | some (.inr q) => if q.1 = 1 then some (1, q.2) else if q.1 = 2 then some (2, q.2) else none
theorem kL_errors : Cond.codeWith yL_errors cL_errors 4 (some .int) hL_errors ∈ z_tbl := z_t5 60 rfl rfl
set_option maxRecDepth 100000 in
set_option maxHeartbeats 4000000 in
theorem c_L_errors {l : Launch} (hl : l.stackTraces = false) {a : Nat → Nat} {x1 : Int} {st : z_St} {o : Int × z_St} (h : J_L_errors x1 st = some o) : z_MW l yL_errors cL_errors 4 hL_errors 15 z_T z_N a [.ref (a 0), .int (zI x1), .ref (a 199)] st o.1 o.2 := by
  refine z_ofW hl (by decide +kernel) (Nat.le_of_ble_eq_true rfl) kL_errors (fun κ hc hap he => ?_)
  show z_V κ z_T z_N a 0 0 0 [(0, .ref (a 0)), (1, .int (zI x1)), (2, .ref (a 199))] [] st
  unfold J_L_errors at h
  cases hJ : J_X11_errors x1 st with
  | none => rw [hJ] at h; cases h
  | some R9 =>
    rw [hJ] at h
    rcases R9 with q9 | ⟨e9, st9⟩
    · dsimp only at h
      obtain ⟨hg, h⟩ := z_g_some h
      cases h
      refine z_aload_n (i := 2) 2 hc dL_errors_0 rfl rfl ?_
      refine z_iconst hc dL_errors_1 ?_
      refine z_aload_n (i := 0) 0 hc dL_errors_2 rfl rfl ?_
      refine z_iload_n (i := 1) 1 hc dL_errors_3 rfl rfl ?_
      refine z_xcallVI [.int (zI x1)] hc hap o_X11_errors ml_RL_105 (fun l hl => c_X11_errors_r hl hJ) (by decide) tT_0 (by decide) ⟨_, rfl, rfl⟩ rfl rfl (Nat.le_of_ble_eq_true rfl) (Nat.zero_le _) (Nat.zero_le _) dL_errors_4 ?_
      refine z_i2lc hc dL_errors_7 hg ?_
      refine z_last (kI := 199) (nI9 := 1) (F := fun st9 => some st9) (o := z_up q9.2 199 0 q9.1) hc hap tT_199 (by decide) rfl rfl (by decide) dL_errors_8 (z_g_pos (by decide)) (fun st9 hst9 => ?_)
      cases hst9
      refine z_goto (tgt := 18) hc dL_errors_9 (by decide) ?_
      refine z_iconst hc dL_errors_18 ?_
      refine z_wide (Nat.zero_le 1) (Nat.zero_le 6) ?_
      exact z_retW hc he dL_errors_19
    · dsimp only at h
      by_cases e0 : e9 = 1
      · subst e0
        rw [if_pos rfl] at h
        cases h
        refine z_aload_n (i := 2) 2 hc dL_errors_0 rfl rfl ?_
        refine z_iconst hc dL_errors_1 ?_
        refine z_aload_n (i := 0) 0 hc dL_errors_2 rfl rfl ?_
        refine z_iload_n (i := 1) 1 hc dL_errors_3 rfl rfl ?_
        refine z_xthrV (kd := 0) [.int (zI x1)] hc hap o_X11_errors ml_RL_105 (fun l hl => c_X11_errors_t hl hJ) (by decide) tT_0 (by decide) ⟨_, rfl, rfl⟩ rfl rfl (Nat.le_of_ble_eq_true rfl) (Nat.le_refl 1) (Nat.le_refl 6) dL_errors_4 ?_
        refine z_catch (e9 := 1) [] ⟨0, 9, 12, 13⟩ [⟨0, 9, 15, 15⟩] hc he rfl (by decide) (fun z hz => nomatch hz) (by decide) (by decide) cl_RL_13 (fun q9 => ?_)
        refine z_astore_n (i := 3) ((3, .ref q9) :: [(0, .ref (a 0)), (1, .int (zI x1)), (2, .ref (a 199))]) hc dL_errors_12 rfl (by decide) rfl ?_
        refine z_iconst hc dL_errors_13 ?_
        exact z_retW hc he dL_errors_14
      rw [if_neg e0] at h
      by_cases e1 : e9 = 2
      · subst e1
        rw [if_pos rfl] at h
        cases h
        refine z_aload_n (i := 2) 2 hc dL_errors_0 rfl rfl ?_
        refine z_iconst hc dL_errors_1 ?_
        refine z_aload_n (i := 0) 0 hc dL_errors_2 rfl rfl ?_
        refine z_iload_n (i := 1) 1 hc dL_errors_3 rfl rfl ?_
        refine z_xthrV (kd := 0) [.int (zI x1)] hc hap o_X11_errors ml_RL_105 (fun l hl => c_X11_errors_t hl hJ) (by decide) tT_0 (by decide) ⟨_, rfl, rfl⟩ rfl rfl (Nat.le_of_ble_eq_true rfl) (Nat.le_refl 1) (Nat.le_refl 6) dL_errors_4 ?_
        refine z_catch (e9 := 2) [⟨0, 9, 12, 13⟩] ⟨0, 9, 15, 15⟩ [] hc he rfl (by decide) (fun z hz => by
        rcases List.mem_cons.mp hz with e | hz
        · subst e; exact ⟨1, by decide, by decide, cl_RL_13, by decide⟩
        · cases hz) (by decide) (by decide) cl_RL_15 (fun q9 => ?_)
        refine z_astore_n (i := 3) ((3, .ref q9) :: [(0, .ref (a 0)), (1, .int (zI x1)), (2, .ref (a 199))]) hc dL_errors_15 rfl (by decide) rfl ?_
        refine z_iconst hc dL_errors_16 ?_
        exact z_retW hc he dL_errors_17
      rw [if_neg e1] at h
      cases h
theorem dL_sum_0 : decode cL_sum 0 = .ok (.aload_n 2, 1) := by decide +kernel
theorem dL_sum_1 : decode cL_sum 1 = .ok (.iconst 0, 1) := by decide +kernel
theorem dL_sum_2 : decode cL_sum 2 = .ok (.aload_n 0, 1) := by decide +kernel
theorem dL_sum_3 : decode cL_sum 3 = .ok (.iload_n 1, 1) := by decide +kernel
theorem dL_sum_4 : decode cL_sum 4 = .ok (.invokevirtual 108, 3) := by decide +kernel
theorem dL_sum_7 : decode cL_sum 7 = .ok (.i2l, 1) := by decide +kernel
theorem dL_sum_8 : decode cL_sum 8 = .ok (.lastore, 1) := by decide +kernel
theorem dL_sum_9 : decode cL_sum 9 = .ok (.goto 6, 3) := by decide +kernel
theorem dL_sum_12 : decode cL_sum 12 = .ok (.astore_n 3, 1) := by decide +kernel
theorem dL_sum_13 : decode cL_sum 13 = .ok (.iconst 1, 1) := by decide +kernel
theorem dL_sum_14 : decode cL_sum 14 = .ok (.ireturn, 1) := by decide +kernel
theorem dL_sum_15 : decode cL_sum 15 = .ok (.iconst 0, 1) := by decide +kernel
theorem dL_sum_16 : decode cL_sum 16 = .ok (.ireturn, 1) := by decide +kernel
def hL_sum : List (Nat × Nat × Nat × Nat) := [(0, 9, 12, 13)]
def J_L_sum (x1 : Int) (st : z_St) : Option (Int × z_St) := match J_X11_sum x1 st with
  | none => none
  | some (.inl q) => z_g (z32 q.1) <| some (0, z_up q.2 199 0 q.1)
  | some (.inr q) => if q.1 = 1 then some (1, q.2) else none
theorem kL_sum : Cond.codeWith yL_sum cL_sum 4 (some .int) hL_sum ∈ z_tbl := z_t5 76 rfl rfl
set_option maxRecDepth 100000 in
set_option maxHeartbeats 4000000 in
theorem c_L_sum {l : Launch} (hl : l.stackTraces = false) {a : Nat → Nat} {x1 : Int} {st : z_St} {o : Int × z_St} (h : J_L_sum x1 st = some o) : z_MW l yL_sum cL_sum 4 hL_sum 14 z_T z_N a [.ref (a 0), .int (zI x1), .ref (a 199)] st o.1 o.2 := by
  refine z_ofW hl (by decide +kernel) (Nat.le_of_ble_eq_true rfl) kL_sum (fun κ hc hap he => ?_)
  show z_V κ z_T z_N a 0 0 0 [(0, .ref (a 0)), (1, .int (zI x1)), (2, .ref (a 199))] [] st
  unfold J_L_sum at h
  cases hJ : J_X11_sum x1 st with
  | none => rw [hJ] at h; cases h
  | some R9 =>
    rw [hJ] at h
    rcases R9 with q9 | ⟨e9, st9⟩
    · dsimp only at h
      obtain ⟨hg, h⟩ := z_g_some h
      cases h
      refine z_aload_n (i := 2) 2 hc dL_sum_0 rfl rfl ?_
      refine z_iconst hc dL_sum_1 ?_
      refine z_aload_n (i := 0) 0 hc dL_sum_2 rfl rfl ?_
      refine z_iload_n (i := 1) 1 hc dL_sum_3 rfl rfl ?_
      refine z_xcallVI [.int (zI x1)] hc hap o_X11_sum ml_RL_108 (fun l hl => c_X11_sum_r hl hJ) (by decide) tT_0 (by decide) ⟨_, rfl, rfl⟩ rfl rfl (Nat.le_of_ble_eq_true rfl) (Nat.zero_le _) (Nat.zero_le _) dL_sum_4 ?_
      refine z_i2lc hc dL_sum_7 hg ?_
      refine z_last (kI := 199) (nI9 := 1) (F := fun st9 => some st9) (o := z_up q9.2 199 0 q9.1) hc hap tT_199 (by decide) rfl rfl (by decide) dL_sum_8 (z_g_pos (by decide)) (fun st9 hst9 => ?_)
      cases hst9
      refine z_goto (tgt := 15) hc dL_sum_9 (by decide) ?_
      refine z_iconst hc dL_sum_15 ?_
      refine z_wide (Nat.zero_le 1) (Nat.zero_le 6) ?_
      exact z_retW hc he dL_sum_16
    · dsimp only at h
      by_cases e0 : e9 = 1
      · subst e0
        rw [if_pos rfl] at h
        cases h
        refine z_aload_n (i := 2) 2 hc dL_sum_0 rfl rfl ?_
        refine z_iconst hc dL_sum_1 ?_
        refine z_aload_n (i := 0) 0 hc dL_sum_2 rfl rfl ?_
        refine z_iload_n (i := 1) 1 hc dL_sum_3 rfl rfl ?_
        refine z_xthrV (kd := 0) [.int (zI x1)] hc hap o_X11_sum ml_RL_108 (fun l hl => c_X11_sum_t hl hJ) (by decide) tT_0 (by decide) ⟨_, rfl, rfl⟩ rfl rfl (Nat.le_of_ble_eq_true rfl) (Nat.le_refl 1) (Nat.le_refl 6) dL_sum_4 ?_
        refine z_catch (e9 := 1) [] ⟨0, 9, 12, 13⟩ [] hc he rfl (by decide) (fun z hz => nomatch hz) (by decide) (by decide) cl_RL_13 (fun q9 => ?_)
        refine z_astore_n (i := 3) ((3, .ref q9) :: [(0, .ref (a 0)), (1, .int (zI x1)), (2, .ref (a 199))]) hc dL_sum_12 rfl (by decide) rfl ?_
        refine z_iconst hc dL_sum_13 ?_
        exact z_retW hc he dL_sum_14
      rw [if_neg e0] at h
      cases h
