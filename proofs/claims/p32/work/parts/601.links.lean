theorem kc_RL_8 : Cond.constant RL 8 (2147483647) ∈ z_tbl := z_t2 163 rfl rfl
theorem o_L_low : z_oS yL_low cL_low 2 (some .int) 2 := ⟨⟨z_t2 162 rfl rfl, z_t1 0 rfl rfl, by decide +kernel, by decide⟩, z_t2 161 rfl rfl⟩
theorem ml_RL_129 : Cond.methodLink RL 129 yL_low ∈ z_tbl := z_t2 160 rfl rfl
theorem kc_RL_109 : Cond.constantLong RL 109 (-1002) ∈ z_tbl := z_t5 10 rfl rfl
theorem kc_RL_113 : Cond.constantLong RL 113 (-1003) ∈ z_tbl := z_t5 11 rfl rfl
theorem kc_RL_117 : Cond.constantLong RL 117 (-1004) ∈ z_tbl := z_t5 12 rfl rfl
theorem kc_RL_7 : Cond.constant RL 7 (2754361) ∈ z_tbl := z_t2 159 rfl rfl
theorem ml_RL_9 : Cond.methodLink RL 9 yX11_frame ∈ z_tbl := z_t2 173 rfl rfl
theorem o_X11_frame : z_oV yX11_frame cX11_frame 4 (some .int) 3 := ⟨⟨z_t2 176 rfl rfl, z_t1 1 rfl rfl, by decide +kernel, by decide⟩, z_t2 174 rfl rfl, z_t2 175 rfl rfl⟩
theorem ml_RL_15 : Cond.methodLink RL 15 yX11_speak ∈ z_tbl := z_t3 30 rfl rfl
theorem o_X11_speak : z_oV yX11_speak cX11_speak 3 (some .int) 1 := ⟨⟨z_t3 33 rfl rfl, z_t1 1 rfl rfl, by decide +kernel, by decide⟩, z_t3 31 rfl rfl, z_t3 32 rfl rfl⟩
theorem ml_RL_19 : Cond.methodLink RL 19 yX11_shift ∈ z_tbl := z_t3 53 rfl rfl
theorem o_X11_shift : z_oV yX11_shift cX11_shift 5 (some .int) 3 := ⟨⟨z_t3 56 rfl rfl, z_t1 1 rfl rfl, by decide +kernel, by decide⟩, z_t3 54 rfl rfl, z_t3 55 rfl rfl⟩
theorem ml_RL_22 : Cond.methodLink RL 22 yX11_sound ∈ z_tbl := z_t3 57 rfl rfl
theorem o_X11_sound : z_oV yX11_sound cX11_sound 6 (some .int) 4 := ⟨⟨z_t3 60 rfl rfl, z_t1 1 rfl rfl, by decide +kernel, by decide⟩, z_t3 58 rfl rfl, z_t3 59 rfl rfl⟩
theorem ml_RL_26 : Cond.methodLink RL 26 yX11_question ∈ z_tbl := z_t3 62 rfl rfl
theorem o_X11_question : z_oV yX11_question cX11_question 6 (some .int) 4 := ⟨⟨z_t3 65 rfl rfl, z_t1 1 rfl rfl, by decide +kernel, by decide⟩, z_t3 63 rfl rfl, z_t3 64 rfl rfl⟩
theorem ml_RL_29 : Cond.methodLink RL 29 yX11_type ∈ z_tbl := z_t3 71 rfl rfl
theorem o_X11_type : z_oV yX11_type cX11_type 2 (some .int) 1 := ⟨⟨z_t3 74 rfl rfl, z_t1 1 rfl rfl, by decide +kernel, by decide⟩, z_t3 72 rfl rfl, z_t3 73 rfl rfl⟩
theorem ml_RL_33 : Cond.methodLink RL 33 yX11_word ∈ z_tbl := z_t3 76 rfl rfl
theorem o_X11_word : z_oV yX11_word cX11_word 2 (some .int) 1 := ⟨⟨z_t3 79 rfl rfl, z_t1 1 rfl rfl, by decide +kernel, by decide⟩, z_t3 77 rfl rfl, z_t3 78 rfl rfl⟩
theorem ml_RL_36 : Cond.methodLink RL 36 yX11_saying ∈ z_tbl := z_t3 96 rfl rfl
theorem o_X11_saying : z_oV yX11_saying cX11_saying 4 (some .int) 2 := ⟨⟨z_t3 99 rfl rfl, z_t1 1 rfl rfl, by decide +kernel, by decide⟩, z_t3 97 rfl rfl, z_t3 98 rfl rfl⟩
theorem ml_RL_40 : Cond.methodLink RL 40 yX11_form ∈ z_tbl := z_t3 101 rfl rfl
theorem o_X11_form : z_oV yX11_form cX11_form 5 (some .int) 3 := ⟨⟨z_t3 104 rfl rfl, z_t1 1 rfl rfl, by decide +kernel, by decide⟩, z_t3 102 rfl rfl, z_t3 103 rfl rfl⟩
theorem ml_RL_43 : Cond.methodLink RL 43 yX11_cost ∈ z_tbl := z_t3 118 rfl rfl
theorem o_X11_cost : z_oV yX11_cost cX11_cost 4 (some .long) 3 := ⟨⟨z_t3 121 rfl rfl, z_t1 1 rfl rfl, by decide +kernel, by decide⟩, z_t3 119 rfl rfl, z_t3 120 rfl rfl⟩
theorem ml_RL_47 : Cond.methodLink RL 47 yX11_over ∈ z_tbl := z_t3 134 rfl rfl
theorem o_X11_over : z_oV yX11_over cX11_over 4 (some .long) 3 := ⟨⟨z_t3 137 rfl rfl, z_t1 1 rfl rfl, by decide +kernel, by decide⟩, z_t3 135 rfl rfl, z_t3 136 rfl rfl⟩
theorem ml_RL_50 : Cond.methodLink RL 50 yX11_learn ∈ z_tbl := z_t3 186 rfl rfl
theorem o_X11_learn : z_oV yX11_learn cX11_learn 3 (some .int) 1 := ⟨⟨z_t3 189 rfl rfl, z_t1 1 rfl rfl, by decide +kernel, by decide⟩, z_t3 187 rfl rfl, z_t3 188 rfl rfl⟩
theorem ml_RL_53 : Cond.methodLink RL 53 yX11_back ∈ z_tbl := z_t3 206 rfl rfl
theorem o_X11_back : z_oV yX11_back cX11_back 3 (some .int) 1 := ⟨⟨z_t3 209 rfl rfl, z_t1 1 rfl rfl, by decide +kernel, by decide⟩, z_t3 207 rfl rfl, z_t3 208 rfl rfl⟩
theorem ml_RL_56 : Cond.methodLink RL 56 yX11_factor ∈ z_tbl := z_t3 211 rfl rfl
theorem o_X11_factor : z_oV yX11_factor cX11_factor 3 (some .int) 1 := ⟨⟨z_t3 214 rfl rfl, z_t1 1 rfl rfl, by decide +kernel, by decide⟩, z_t3 212 rfl rfl, z_t3 213 rfl rfl⟩
theorem ml_RL_59 : Cond.methodLink RL 59 yX11_price ∈ z_tbl := z_t3 215 rfl rfl
theorem o_X11_price : z_oV yX11_price cX11_price 3 (some .long) 2 := ⟨⟨z_t3 218 rfl rfl, z_t1 1 rfl rfl, by decide +kernel, by decide⟩, z_t3 216 rfl rfl, z_t3 217 rfl rfl⟩
theorem ml_RL_63 : Cond.methodLink RL 63 yX11_weight ∈ z_tbl := z_t3 224 rfl rfl
theorem o_X11_weight : z_oV yX11_weight cX11_weight 2 (some .long) 1 := ⟨⟨z_t3 227 rfl rfl, z_t1 1 rfl rfl, by decide +kernel, by decide⟩, z_t3 225 rfl rfl, z_t3 226 rfl rfl⟩
theorem ml_RL_67 : Cond.methodLink RL 67 yX11_weightAnew ∈ z_tbl := z_t4 15 rfl rfl
theorem o_X11_weightAnew : z_oV yX11_weightAnew cX11_weightAnew 2 (some .long) 1 := ⟨⟨z_t4 18 rfl rfl, z_t1 1 rfl rfl, by decide +kernel, by decide⟩, z_t4 16 rfl rfl, z_t4 17 rfl rfl⟩
theorem ml_RL_70 : Cond.methodLink RL 70 yX11_best ∈ z_tbl := z_t4 30 rfl rfl
theorem o_X11_best : z_oV yX11_best cX11_best 2 (some .int) 1 := ⟨⟨z_t4 33 rfl rfl, z_t1 1 rfl rfl, by decide +kernel, by decide⟩, z_t4 31 rfl rfl, z_t4 32 rfl rfl⟩
theorem ml_RL_73 : Cond.methodLink RL 73 yX11_found ∈ z_tbl := z_t4 52 rfl rfl
theorem o_X11_found : z_oV yX11_found cX11_found 5 (some .long) 3 := ⟨⟨z_t4 55 rfl rfl, z_t1 1 rfl rfl, by decide +kernel, by decide⟩, z_t4 53 rfl rfl, z_t4 54 rfl rfl⟩
theorem ml_RL_77 : Cond.methodLink RL 77 yX11_arcs ∈ z_tbl := z_t4 93 rfl rfl
theorem o_X11_arcs : z_oV yX11_arcs cX11_arcs 3 (some .int) 1 := ⟨⟨z_t4 96 rfl rfl, z_t1 1 rfl rfl, by decide +kernel, by decide⟩, z_t4 94 rfl rfl, z_t4 95 rfl rfl⟩
theorem ml_RL_81 : Cond.methodLink RL 81 yX11_arc ∈ z_tbl := z_t4 139 rfl rfl
theorem o_X11_arc : z_oV yX11_arc cX11_arc 5 (some .long) 3 := ⟨⟨z_t4 142 rfl rfl, z_t1 1 rfl rfl, by decide +kernel, by decide⟩, z_t4 140 rfl rfl, z_t4 141 rfl rfl⟩
theorem ml_RL_84 : Cond.methodLink RL 84 yX11_keyword ∈ z_tbl := z_t4 148 rfl rfl
theorem o_X11_keyword : z_oV yX11_keyword cX11_keyword 2 (some .long) 1 := ⟨⟨z_t4 151 rfl rfl, z_t1 1 rfl rfl, by decide +kernel, by decide⟩, z_t4 149 rfl rfl, z_t4 150 rfl rfl⟩
theorem ml_RL_87 : Cond.methodLink RL 87 yX11_sure ∈ z_tbl := z_t4 156 rfl rfl
theorem o_X11_sure : z_oV yX11_sure cX11_sure 5 (some .int) 2 := ⟨⟨z_t4 159 rfl rfl, z_t1 1 rfl rfl, by decide +kernel, by decide⟩, z_t4 157 rfl rfl, z_t4 158 rfl rfl⟩
theorem ml_RL_91 : Cond.methodLink RL 91 yX11_path ∈ z_tbl := z_t4 207 rfl rfl
theorem o_X11_path : z_oV yX11_path cX11_path 3 (some .int) 2 := ⟨⟨z_t4 210 rfl rfl, z_t1 1 rfl rfl, by decide +kernel, by decide⟩, z_t4 208 rfl rfl, z_t4 209 rfl rfl⟩
theorem ml_RL_94 : Cond.methodLink RL 94 yX11_errors ∈ z_tbl := z_t4 211 rfl rfl
theorem o_X11_errors : z_oV yX11_errors cX11_errors 2 (some .int) 1 := ⟨⟨z_t4 214 rfl rfl, z_t1 1 rfl rfl, by decide +kernel, by decide⟩, z_t4 212 rfl rfl, z_t4 213 rfl rfl⟩
theorem ml_RL_97 : Cond.methodLink RL 97 yX11_fit ∈ z_tbl := z_t4 224 rfl rfl
theorem o_X11_fit : z_oV yX11_fit cX11_fit 5 (some .long) 0 := ⟨⟨z_t4 227 rfl rfl, z_t1 1 rfl rfl, by decide +kernel, by decide⟩, z_t4 225 rfl rfl, z_t4 226 rfl rfl⟩
theorem ml_RL_101 : Cond.methodLink RL 101 yX11_shiftOf ∈ z_tbl := z_t5 2 rfl rfl
theorem o_X11_shiftOf : z_oV yX11_shiftOf cX11_shiftOf 3 (some .int) 2 := ⟨⟨z_t5 5 rfl rfl, z_t1 1 rfl rfl, by decide +kernel, by decide⟩, z_t5 3 rfl rfl, z_t5 4 rfl rfl⟩
theorem ml_RL_104 : Cond.methodLink RL 104 yX11_sum ∈ z_tbl := z_t5 6 rfl rfl
theorem o_X11_sum : z_oV yX11_sum cX11_sum 2 (some .int) 1 := ⟨⟨z_t5 9 rfl rfl, z_t1 1 rfl rfl, by decide +kernel, by decide⟩, z_t5 7 rfl rfl, z_t5 8 rfl rfl⟩
theorem ml_RL_119 : Cond.methodLink RL 119 yL_does ∈ z_tbl := z_t2 167 rfl rfl
theorem ml_RL_125 : Cond.methodLink RL 125 yL_ask ∈ z_tbl := z_t2 164 rfl rfl
theorem o_L_ask : z_oS yL_ask cL_ask 5 (some .long) 4 := ⟨⟨z_t2 166 rfl rfl, z_t1 0 rfl rfl, by decide +kernel, by decide⟩, z_t2 165 rfl rfl⟩
theorem ml_RL_132 : Cond.methodLink RL 132 yL_row ∈ z_tbl := z_t5 22 rfl rfl
theorem o_L_row : z_oS yL_row cL_row 5 (some .int) 2 := ⟨⟨z_t5 24 rfl rfl, z_t1 0 rfl rfl, by decide +kernel, by decide⟩, z_t5 23 rfl rfl⟩
theorem kc_RL_135 : Cond.constantLong RL 135 (-1) ∈ z_tbl := z_t5 25 rfl rfl
theorem kc_RL_137 : Cond.constantLong RL 137 (8) ∈ z_tbl := z_t5 29 rfl rfl
theorem kc_RL_139 : Cond.constantLong RL 139 (900000000000000000) ∈ z_tbl := z_t5 33 rfl rfl
theorem kc_RL_141 : Cond.constantLong RL 141 (1065353216) ∈ z_tbl := z_t5 37 rfl rfl
theorem kc_RL_143 : Cond.constant RL 143 (100010) ∈ z_tbl := z_t5 44 rfl rfl
theorem kc_RL_144 : Cond.constantLong RL 144 (100) ∈ z_tbl := z_t5 45 rfl rfl
theorem kc_RL_146 : Cond.constantLong RL 146 (10000) ∈ z_tbl := z_t5 46 rfl rfl
theorem ml_RL_148 : Cond.methodLink RL 148 yL_cell ∈ z_tbl := z_t2 156 rfl rfl
theorem o_L_cell : z_oS yL_cell cL_cell 2 (some .int) 2 := ⟨⟨z_t2 158 rfl rfl, z_t1 0 rfl rfl, by decide +kernel, by decide⟩, z_t2 157 rfl rfl⟩
theorem ml_RL_152 : Cond.methodLink RL 152 yL_types ∈ z_tbl := z_t5 50 rfl rfl
theorem o_L_types : z_oS yL_types cL_types 6 (some .boolean) 3 := ⟨⟨z_t5 52 rfl rfl, z_t1 0 rfl rfl, by decide +kernel, by decide⟩, z_t5 51 rfl rfl⟩
theorem ml_RL_157 : Cond.methodLink RL 157 yL_builds ∈ z_tbl := z_t5 47 rfl rfl
theorem o_L_builds : z_oS yL_builds cL_builds 8 (some .boolean) 3 := ⟨⟨z_t5 49 rfl rfl, z_t1 0 rfl rfl, by decide +kernel, by decide⟩, z_t5 48 rfl rfl⟩
theorem kc_RL_161 : Cond.constantLong RL 161 (2) ∈ z_tbl := z_t5 56 rfl rfl
theorem ml_RL_163 : Cond.methodLink RL 163 yX11_silence ∈ z_tbl := z_t2 148 rfl rfl
theorem o_X11_silence : z_oV yX11_silence cX11_silence 2 (some .int) 0 := ⟨⟨z_t2 151 rfl rfl, z_t1 1 rfl rfl, by decide +kernel, by decide⟩, z_t2 149 rfl rfl, z_t2 150 rfl rfl⟩
theorem ml_RL_181 : Cond.methodLink RL 181 yL_weighs ∈ z_tbl := z_t5 19 rfl rfl
theorem o_L_weighs : z_oS yL_weighs cL_weighs 14 (some .boolean) 4 := ⟨⟨z_t5 21 rfl rfl, z_t1 0 rfl rfl, by decide +kernel, by decide⟩, z_t5 20 rfl rfl⟩
theorem ml_RL_185 : Cond.methodLink RL 185 yL_rises ∈ z_tbl := z_t5 26 rfl rfl
theorem o_L_rises : z_oS yL_rises cL_rises 10 (some .boolean) 2 := ⟨⟨z_t5 28 rfl rfl, z_t1 0 rfl rfl, by decide +kernel, by decide⟩, z_t5 27 rfl rfl⟩
theorem ml_RL_189 : Cond.methodLink RL 189 yL_finds ∈ z_tbl := z_t5 30 rfl rfl
theorem o_L_finds : z_oS yL_finds cL_finds 14 (some .boolean) 3 := ⟨⟨z_t5 32 rfl rfl, z_t1 0 rfl rfl, by decide +kernel, by decide⟩, z_t5 31 rfl rfl⟩
theorem ml_RL_193 : Cond.methodLink RL 193 yL_lattice ∈ z_tbl := z_t5 34 rfl rfl
theorem o_L_lattice : z_oS yL_lattice cL_lattice 18 (some .boolean) 3 := ⟨⟨z_t5 36 rfl rfl, z_t1 0 rfl rfl, by decide +kernel, by decide⟩, z_t5 35 rfl rfl⟩
theorem ml_RL_196 : Cond.methodLink RL 196 yL_paths ∈ z_tbl := z_t5 38 rfl rfl
theorem o_L_paths : z_oS yL_paths cL_paths 14 (some .boolean) 2 := ⟨⟨z_t5 40 rfl rfl, z_t1 0 rfl rfl, by decide +kernel, by decide⟩, z_t5 39 rfl rfl⟩
theorem ml_RL_199 : Cond.methodLink RL 199 yL_fits ∈ z_tbl := z_t5 53 rfl rfl
theorem o_L_fits : z_oS yL_fits cL_fits 5 (some .boolean) 1 := ⟨⟨z_t5 55 rfl rfl, z_t1 0 rfl rfl, by decide +kernel, by decide⟩, z_t5 54 rfl rfl⟩
theorem ml_RL_167 : Cond.methodLink RL 167 yL_tell ∈ z_tbl := z_t5 13 rfl rfl
theorem o_L_tell : z_oS yL_tell cL_tell 3 (some (.array .long)) 1 := ⟨⟨z_t5 15 rfl rfl, z_t1 0 rfl rfl, by decide +kernel, by decide⟩, z_t5 14 rfl rfl⟩
theorem ml_RL_171 : Cond.methodLink RL 171 yL_act ∈ z_tbl := z_t5 41 rfl rfl
theorem o_L_act : z_oS yL_act cL_act 4 (some .long) 4 := ⟨⟨z_t5 43 rfl rfl, z_t1 0 rfl rfl, by decide +kernel, by decide⟩, z_t5 42 rfl rfl⟩
theorem ml_RL_177 : Cond.methodLink RL 177 yL_same ∈ z_tbl := z_t5 16 rfl rfl
theorem o_L_same : z_oS yL_same cL_same 3 (some .boolean) 2 := ⟨⟨z_t5 18 rfl rfl, z_t1 0 rfl rfl, by decide +kernel, by decide⟩, z_t5 17 rfl rfl⟩
theorem kc_RL_175 : Cond.constantLong RL 175 (-1000) ∈ z_tbl := z_t5 57 rfl rfl
def hL_does : List (Nat × Nat × Nat × Nat) := [(4, 472, 473, 107), (4, 472, 479, 111), (4, 472, 485, 115)]
theorem kL_does : Cond.codeWith yL_does cL_does 9 (some .long) hL_does ∈ z_tbl := z_t2 169 rfl rfl
theorem cl_RL_107 : Cond.classLink RL 107 (z_en 3) ∈ z_tbl := z_t2 170 rfl rfl
theorem cl_RL_111 : Cond.classLink RL 111 (z_en 1) ∈ z_tbl := z_t2 171 rfl rfl
theorem cl_RL_115 : Cond.classLink RL 115 (z_en 2) ∈ z_tbl := z_t2 172 rfl rfl
def z_xd {α : Type} (x : Option (z_R α)) (f : α → Option (Int × z_St)) : Option (Int × z_St) := match x with
  | none => none
  | some (.inl v) => f v
  | some (.inr (e, s)) => if e = 3 then some (-1002, s) else if e = 1 then some (-1003, s) else if e = 2 then some (-1004, s) else none
theorem z_xd_cases {α : Type} {x : Option (z_R α)} {f : α → Option (Int × z_St)} {r : Int × z_St} (h : z_xd x f = some r) : (∃ v, x = some (.inl v) ∧ f v = some r) ∨ (∃ e s, x = some (.inr (e, s)) ∧ ((e = 3 ∧ r = (-1002, s)) ∨ (e = 1 ∧ r = (-1003, s)) ∨ (e = 2 ∧ r = (-1004, s)))) := by
  cases x with
  | none => cases h
  | some y => rcases y with v | ⟨e, s⟩
              · exact Or.inl ⟨v, rfl, h⟩
              · refine Or.inr ⟨e, s, rfl, ?_⟩
                unfold z_xd at h
                dsimp only at h
                by_cases h3 : e = 3
                · rw [if_pos h3] at h; exact Or.inl ⟨h3, (Option.some.inj h).symm⟩
                rw [if_neg h3] at h
                by_cases h1 : e = 1
                · rw [if_pos h1] at h; exact Or.inr (Or.inl ⟨h1, (Option.some.inj h).symm⟩)
                rw [if_neg h1] at h
                by_cases h2 : e = 2
                · rw [if_pos h2] at h; exact Or.inr (Or.inr ⟨h2, (Option.some.inj h).symm⟩)
                rw [if_neg h2] at h; cases h
theorem z_subX {κ : zK} {T : Nat → z_Ty} {N : Nat} {a : Nat → Nat} {cells slots pc : Nat} {L : List (Nat × Value)} {E : String} {st : z_St} (kk : z_VX κ T N a cells slots pc [] E st) : z_VX κ T N a cells slots pc L E st := by
  obtain ⟨p, l, e, R, s, m, args, below, meth, c, Q, A, D, cA, nL⟩ := κ
  intro H locs ls S q9 ce hP hS hl h1 h2 h3
  exact kk H locs ls S q9 ce hP hS (lv_sub hl [] rfl) h1 h2 h3
