theorem dX12_init_0 : decode cX12_init 0 = .ok (.aload_n 0, 1) := by decide +kernel
theorem dX12_init_1 : decode cX12_init 1 = .ok (.invokespecial 1, 3) := by decide +kernel
theorem dX12_init_4 : decode cX12_init 4 = .ok (.aload_n 0, 1) := by decide +kernel
theorem dX12_init_5 : decode cX12_init 5 = .ok (.bipush 48, 2) := by decide +kernel
theorem dX12_init_7 : decode cX12_init 7 = .ok (.newarray .int, 2) := by decide +kernel
theorem dX12_init_9 : decode cX12_init 9 = .ok (.putfield 7, 3) := by decide +kernel
theorem dX12_init_12 : decode cX12_init 12 = .ok (.aload_n 0, 1) := by decide +kernel
theorem dX12_init_13 : decode cX12_init 13 = .ok (.bipush 12, 2) := by decide +kernel
theorem dX12_init_15 : decode cX12_init 15 = .ok (.newarray .int, 2) := by decide +kernel
theorem dX12_init_17 : decode cX12_init 17 = .ok (.putfield 13, 3) := by decide +kernel
theorem dX12_init_20 : decode cX12_init 20 = .ok (.aload_n 0, 1) := by decide +kernel
theorem dX12_init_21 : decode cX12_init 21 = .ok (.bipush 18, 2) := by decide +kernel
theorem dX12_init_23 : decode cX12_init 23 = .ok (.newarray .int, 2) := by decide +kernel
theorem dX12_init_25 : decode cX12_init 25 = .ok (.putfield 16, 3) := by decide +kernel
theorem dX12_init_28 : decode cX12_init 28 = .ok (.aload_n 0, 1) := by decide +kernel
theorem dX12_init_29 : decode cX12_init 29 = .ok (.bipush 6, 2) := by decide +kernel
theorem dX12_init_31 : decode cX12_init 31 = .ok (.newarray .int, 2) := by decide +kernel
theorem dX12_init_33 : decode cX12_init 33 = .ok (.putfield 19, 3) := by decide +kernel
theorem dX12_init_36 : decode cX12_init 36 = .ok (.aload_n 0, 1) := by decide +kernel
theorem dX12_init_37 : decode cX12_init 37 = .ok (.bipush 6, 2) := by decide +kernel
theorem dX12_init_39 : decode cX12_init 39 = .ok (.newarray .int, 2) := by decide +kernel
theorem dX12_init_41 : decode cX12_init 41 = .ok (.putfield 22, 3) := by decide +kernel
theorem dX12_init_44 : decode cX12_init 44 = .ok (.aload_n 0, 1) := by decide +kernel
theorem dX12_init_45 : decode cX12_init 45 = .ok (.bipush 18, 2) := by decide +kernel
theorem dX12_init_47 : decode cX12_init 47 = .ok (.newarray .int, 2) := by decide +kernel
theorem dX12_init_49 : decode cX12_init 49 = .ok (.putfield 25, 3) := by decide +kernel
theorem dX12_init_52 : decode cX12_init 52 = .ok (.aload_n 0, 1) := by decide +kernel
theorem dX12_init_53 : decode cX12_init 53 = .ok (.bipush 18, 2) := by decide +kernel
theorem dX12_init_55 : decode cX12_init 55 = .ok (.newarray .int, 2) := by decide +kernel
theorem dX12_init_57 : decode cX12_init 57 = .ok (.putfield 28, 3) := by decide +kernel
theorem dX12_init_60 : decode cX12_init 60 = .ok (.aload_n 0, 1) := by decide +kernel
theorem dX12_init_61 : decode cX12_init 61 = .ok (.bipush 18, 2) := by decide +kernel
theorem dX12_init_63 : decode cX12_init 63 = .ok (.newarray .int, 2) := by decide +kernel
theorem dX12_init_65 : decode cX12_init 65 = .ok (.putfield 31, 3) := by decide +kernel
theorem dX12_init_68 : decode cX12_init 68 = .ok (.aload_n 0, 1) := by decide +kernel
theorem dX12_init_69 : decode cX12_init 69 = .ok (.iconst 4, 1) := by decide +kernel
theorem dX12_init_70 : decode cX12_init 70 = .ok (.newarray .int, 2) := by decide +kernel
theorem dX12_init_72 : decode cX12_init 72 = .ok (.putfield 34, 3) := by decide +kernel
theorem dX12_init_75 : decode cX12_init 75 = .ok (.aload_n 0, 1) := by decide +kernel
theorem dX12_init_76 : decode cX12_init 76 = .ok (.iconst 5, 1) := by decide +kernel
theorem dX12_init_77 : decode cX12_init 77 = .ok (.newarray .int, 2) := by decide +kernel
theorem dX12_init_79 : decode cX12_init 79 = .ok (.putfield 37, 3) := by decide +kernel
theorem dX12_init_82 : decode cX12_init 82 = .ok (.aload_n 0, 1) := by decide +kernel
theorem dX12_init_83 : decode cX12_init 83 = .ok (.bipush 10, 2) := by decide +kernel
theorem dX12_init_85 : decode cX12_init 85 = .ok (.newarray .int, 2) := by decide +kernel
theorem dX12_init_87 : decode cX12_init 87 = .ok (.putfield 40, 3) := by decide +kernel
theorem dX12_init_90 : decode cX12_init 90 = .ok (.aload_n 0, 1) := by decide +kernel
theorem dX12_init_91 : decode cX12_init 91 = .ok (.bipush 40, 2) := by decide +kernel
theorem dX12_init_93 : decode cX12_init 93 = .ok (.newarray .int, 2) := by decide +kernel
theorem dX12_init_95 : decode cX12_init 95 = .ok (.putfield 43, 3) := by decide +kernel
theorem dX12_init_98 : decode cX12_init 98 = .ok (.aload_n 0, 1) := by decide +kernel
theorem dX12_init_99 : decode cX12_init 99 = .ok (.bipush 10, 2) := by decide +kernel
theorem dX12_init_101 : decode cX12_init 101 = .ok (.newarray .int, 2) := by decide +kernel
theorem dX12_init_103 : decode cX12_init 103 = .ok (.putfield 46, 3) := by decide +kernel
theorem dX12_init_106 : decode cX12_init 106 = .ok (.aload_n 0, 1) := by decide +kernel
theorem dX12_init_107 : decode cX12_init 107 = .ok (.bipush 36, 2) := by decide +kernel
theorem dX12_init_109 : decode cX12_init 109 = .ok (.newarray .int, 2) := by decide +kernel
theorem dX12_init_111 : decode cX12_init 111 = .ok (.putfield 49, 3) := by decide +kernel
theorem dX12_init_114 : decode cX12_init 114 = .ok (.aload_n 0, 1) := by decide +kernel
theorem dX12_init_115 : decode cX12_init 115 = .ok (.sipush 500, 3) := by decide +kernel
theorem dX12_init_118 : decode cX12_init 118 = .ok (.putfield 52, 3) := by decide +kernel
theorem dX12_init_121 : decode cX12_init 121 = .ok (.aload_n 0, 1) := by decide +kernel
theorem dX12_init_122 : decode cX12_init 122 = .ok (.iconst 1, 1) := by decide +kernel
theorem dX12_init_123 : decode cX12_init 123 = .ok (.putfield 56, 3) := by decide +kernel
theorem dX12_init_126 : decode cX12_init 126 = .ok (.aload_n 0, 1) := by decide +kernel
theorem dX12_init_127 : decode cX12_init 127 = .ok (.sipush 2890, 3) := by decide +kernel
theorem dX12_init_130 : decode cX12_init 130 = .ok (.newarray .long, 2) := by decide +kernel
theorem dX12_init_132 : decode cX12_init 132 = .ok (.putfield 59, 3) := by decide +kernel
theorem dX12_init_135 : decode cX12_init 135 = .ok (.aload_n 0, 1) := by decide +kernel
theorem dX12_init_136 : decode cX12_init 136 = .ok (.sipush 1445, 3) := by decide +kernel
theorem dX12_init_139 : decode cX12_init 139 = .ok (.newarray .long, 2) := by decide +kernel
theorem dX12_init_141 : decode cX12_init 141 = .ok (.putfield 63, 3) := by decide +kernel
theorem dX12_init_144 : decode cX12_init 144 = .ok (.aload_n 0, 1) := by decide +kernel
theorem dX12_init_145 : decode cX12_init 145 = .ok (.bipush 85, 2) := by decide +kernel
theorem dX12_init_147 : decode cX12_init 147 = .ok (.newarray .long, 2) := by decide +kernel
theorem dX12_init_149 : decode cX12_init 149 = .ok (.putfield 66, 3) := by decide +kernel
theorem dX12_init_152 : decode cX12_init 152 = .ok (.aload_n 0, 1) := by decide +kernel
theorem dX12_init_153 : decode cX12_init 153 = .ok (.iconst 4, 1) := by decide +kernel
theorem dX12_init_154 : decode cX12_init 154 = .ok (.newarray .int, 2) := by decide +kernel
theorem dX12_init_156 : decode cX12_init 156 = .ok (.putfield 69, 3) := by decide +kernel
theorem dX12_init_159 : decode cX12_init 159 = .ok (.aload_n 0, 1) := by decide +kernel
theorem dX12_init_160 : decode cX12_init 160 = .ok (.iconst 4, 1) := by decide +kernel
theorem dX12_init_161 : decode cX12_init 161 = .ok (.newarray .int, 2) := by decide +kernel
theorem dX12_init_163 : decode cX12_init 163 = .ok (.putfield 72, 3) := by decide +kernel
theorem dX12_init_166 : decode cX12_init 166 = .ok (.aload_n 0, 1) := by decide +kernel
theorem dX12_init_167 : decode cX12_init 167 = .ok (.bipush 85, 2) := by decide +kernel
theorem dX12_init_169 : decode cX12_init 169 = .ok (.newarray .long, 2) := by decide +kernel
theorem dX12_init_171 : decode cX12_init 171 = .ok (.putfield 75, 3) := by decide +kernel
theorem dX12_init_174 : decode cX12_init 174 = .ok (.aload_n 0, 1) := by decide +kernel
theorem dX12_init_175 : decode cX12_init 175 = .ok (.sipush 780, 3) := by decide +kernel
theorem dX12_init_178 : decode cX12_init 178 = .ok (.newarray .long, 2) := by decide +kernel
theorem dX12_init_180 : decode cX12_init 180 = .ok (.putfield 78, 3) := by decide +kernel
theorem dX12_init_183 : decode cX12_init 183 = .ok (.aload_n 0, 1) := by decide +kernel
theorem dX12_init_184 : decode cX12_init 184 = .ok (.sipush 780, 3) := by decide +kernel
theorem dX12_init_187 : decode cX12_init 187 = .ok (.newarray .int, 2) := by decide +kernel
theorem dX12_init_189 : decode cX12_init 189 = .ok (.putfield 81, 3) := by decide +kernel
theorem dX12_init_192 : decode cX12_init 192 = .ok (.aload_n 0, 1) := by decide +kernel
theorem dX12_init_193 : decode cX12_init 193 = .ok (.bipush 96, 2) := by decide +kernel
theorem dX12_init_195 : decode cX12_init 195 = .ok (.newarray .int, 2) := by decide +kernel
theorem dX12_init_197 : decode cX12_init 197 = .ok (.putfield 84, 3) := by decide +kernel
theorem dX12_init_200 : decode cX12_init 200 = .ok (.aload_n 0, 1) := by decide +kernel
theorem dX12_init_201 : decode cX12_init 201 = .ok (.sipush 340, 3) := by decide +kernel
theorem dX12_init_204 : decode cX12_init 204 = .ok (.newarray .long, 2) := by decide +kernel
theorem dX12_init_206 : decode cX12_init 206 = .ok (.putfield 87, 3) := by decide +kernel
theorem dX12_init_209 : decode cX12_init 209 = .ok (.aload_n 0, 1) := by decide +kernel
theorem dX12_init_210 : decode cX12_init 210 = .ok (.sipush 340, 3) := by decide +kernel
theorem dX12_init_213 : decode cX12_init 213 = .ok (.newarray .int, 2) := by decide +kernel
theorem dX12_init_215 : decode cX12_init 215 = .ok (.putfield 90, 3) := by decide +kernel
theorem dX12_init_218 : decode cX12_init 218 = .ok (.aload_n 0, 1) := by decide +kernel
theorem dX12_init_219 : decode cX12_init 219 = .ok (.sipush 340, 3) := by decide +kernel
theorem dX12_init_222 : decode cX12_init 222 = .ok (.newarray .boolean, 2) := by decide +kernel
theorem dX12_init_224 : decode cX12_init 224 = .ok (.putfield 93, 3) := by decide +kernel
theorem dX12_init_227 : decode cX12_init 227 = .ok (.aload_n 0, 1) := by decide +kernel
theorem dX12_init_228 : decode cX12_init 228 = .ok (.sipush 425, 3) := by decide +kernel
theorem dX12_init_231 : decode cX12_init 231 = .ok (.newarray .long, 2) := by decide +kernel
theorem dX12_init_233 : decode cX12_init 233 = .ok (.putfield 97, 3) := by decide +kernel
theorem dX12_init_236 : decode cX12_init 236 = .ok (.aload_n 0, 1) := by decide +kernel
theorem dX12_init_237 : decode cX12_init 237 = .ok (.sipush 425, 3) := by decide +kernel
theorem dX12_init_240 : decode cX12_init 240 = .ok (.newarray .long, 2) := by decide +kernel
theorem dX12_init_242 : decode cX12_init 242 = .ok (.putfield 100, 3) := by decide +kernel
theorem dX12_init_245 : decode cX12_init 245 = .ok (.aload_n 0, 1) := by decide +kernel
theorem dX12_init_246 : decode cX12_init 246 = .ok (.sipush 1445, 3) := by decide +kernel
theorem dX12_init_249 : decode cX12_init 249 = .ok (.newarray .long, 2) := by decide +kernel
theorem dX12_init_251 : decode cX12_init 251 = .ok (.putfield 103, 3) := by decide +kernel
theorem dX12_init_254 : decode cX12_init 254 = .ok (.aload_n 0, 1) := by decide +kernel
theorem dX12_init_255 : decode cX12_init 255 = .ok (.bipush 25, 2) := by decide +kernel
theorem dX12_init_257 : decode cX12_init 257 = .ok (.newarray .int, 2) := by decide +kernel
theorem dX12_init_259 : decode cX12_init 259 = .ok (.putfield 106, 3) := by decide +kernel
theorem dX12_init_262 : decode cX12_init 262 = .ok (.return_, 1) := by decide +kernel
theorem zq_X12 : ∀ i, i < 30 → z_T0 (168 + 1 + i) = z_T (168 + 1 + i) := fun i hi => match i, hi with | 0, _ => rfl | 1, _ => rfl | 2, _ => rfl | 3, _ => rfl | 4, _ => rfl | 5, _ => rfl | 6, _ => rfl | 7, _ => rfl | 8, _ => rfl | 9, _ => rfl | 10, _ => rfl | 11, _ => rfl | 12, _ => rfl | 13, _ => rfl | 14, _ => rfl | 15, _ => rfl | 16, _ => rfl | 17, _ => rfl | 18, _ => rfl | 19, _ => rfl | 20, _ => rfl | 21, _ => rfl | 22, _ => rfl | 23, _ => rfl | 24, _ => rfl | 25, _ => rfl | 26, _ => rfl | 27, _ => rfl | 28, _ => rfl | 29, _ => rfl | _ + 30, h => absurd h (by omega)
def S_X12 (st : z_St) : z_St := z_up (z_up st 168 21 500) 168 22 1
theorem zs_X12 {st : z_St} {M M2 : Nat} (h : ∀ x y : Int, (M : Int) ≤ x → st x y = 0) (hk : M ≤ M2 ∧ 168 < M2) : ∀ x y : Int, (M2 : Int) ≤ x → S_X12 st x y = 0 := by
  intro x y hx
  unfold S_X12
  repeat rw [z_up_n (by omega)]
  exact h x y (by omega)
set_option maxRecDepth 100000 in
set_option maxHeartbeats 4000000 in
theorem b_X12 {l : Launch} (hl : l.stackTraces = false) {T : Nat → z_Ty} {b : Nat} {st : z_St} (hT : ∀ j, 168 ≤ j → j < 168 + 31 → T j = z_T0 j) (hst : ∀ x y : Int, ((168 + 1 : Nat) : Int) ≤ x → st x y = 0) : z_MB l yX12_init cX12_init 1 8 30 9758 T 169 b [.ref (b + 168)] st (z_Tr T 168 (168 + 31)) 199 (S_X12 st) := by
  refine z_ofB hl (by decide +kernel) rfl (Nat.le_of_ble_eq_true rfl) (fun κ hc hy hab hab2 he => ?_)
  show z_VB κ T 169 b 0 0 0 [(0, .ref (b + 168))] [] st
  refine zb_aload_n (i := 0) 0 hc dX12_init_0 rfl rfl ?_
  refine zb_objInit hc (z_t5 86 rfl rfl) zo_1 zo_2 (by decide) (Nat.le_of_ble_eq_true rfl) dX12_init_1 ?_
  refine zb_aload_n (i := 0) 0 hc dX12_init_4 rfl rfl ?_
  refine zb_bipush hc dX12_init_5 rfl ?_
  refine zb_newI (NN := 48) hc (fun y => hst _ _ (by omega)) (by (try simp only [z_Tu, z_Tr]); first | (rw [hT _ (by omega) (by omega)]; rfl) | (simp; rw [hT _ (by omega) (by omega)]; rfl) | rfl) (z_t1 57 rfl rfl) (by decide) rfl (by decide) (Nat.le_of_ble_eq_true rfl) (Nat.le_of_ble_eq_true rfl) dX12_init_7 ?_
  refine zb_putR (ks := [(0, 0), (5, 0), (0, 0), (5, 0), (0, 0), (5, 0), (5, 0), (5, 0), (5, 0), (5, 0), (5, 0), (0, 0), (5, 0), (0, 0), (5, 0), (5, 0), (5, 0), (5, 0), (0, 0), (5, 0), (0, 0), (0, 0), (0, 0), (5, 0), (5, 0), (5, 0), (5, 0), (5, 0), (5, 0), (5, 0), (5, 0), (0, 0), (5, 0), (5, 0), (5, 0), (5, 0), (1, 0), (5, 0), (5, 0), (5, 0), (5, 0)]) (k := 168) (k2 := 169) (d := 1) (ty := .array .int) hc (zb_ABle hab hab2 (by omega)) he fl_RX12_7 fc_X12 ⟨(RX12, TX12, 41), rfl, rfl, by decide +kernel⟩ (by first | exact hT _ (by omega) (by omega) | (rw [hT _ (by omega) (by omega)]; exact hk0) | exact z_Tu_s | (simp only [z_Tu, z_Tr]; first | rfl | (rw [hT _ (by omega) (by omega)]; rfl) | simp)) (by omega) rfl (by decide) rfl dX12_init_9 ?_
  show z_VB κ _ 170 b _ _ _ _ _ _
  refine zb_aload_n (i := 0) 0 hc dX12_init_12 rfl rfl ?_
  refine zb_bipush hc dX12_init_13 rfl ?_
  refine zb_newI (NN := 12) hc (fun y => hst _ _ (by omega)) (by (try simp only [z_Tu, z_Tr]); first | (rw [hT _ (by omega) (by omega)]; rfl) | (simp; rw [hT _ (by omega) (by omega)]; rfl) | rfl) (z_t1 57 rfl rfl) (by decide) rfl (by decide) (Nat.le_of_ble_eq_true rfl) (Nat.le_of_ble_eq_true rfl) dX12_init_15 ?_
  refine zb_putR (ks := [(0, 0), (4, 1), (0, 0), (5, 0), (0, 0), (5, 0), (5, 0), (5, 0), (5, 0), (5, 0), (5, 0), (0, 0), (5, 0), (0, 0), (5, 0), (5, 0), (5, 0), (5, 0), (0, 0), (5, 0), (0, 0), (0, 0), (0, 0), (5, 0), (5, 0), (5, 0), (5, 0), (5, 0), (5, 0), (5, 0), (5, 0), (0, 0), (5, 0), (5, 0), (5, 0), (5, 0), (1, 0), (5, 0), (5, 0), (5, 0), (5, 0)]) (k := 168) (k2 := 170) (d := 2) (ty := .array .int) hc (zb_ABle hab hab2 (by omega)) he fl_RX12_13 fc_X12 ⟨(RX12, TX12, 41), rfl, rfl, by decide +kernel⟩ (by first | exact hT _ (by omega) (by omega) | (rw [hT _ (by omega) (by omega)]; exact hk0) | exact z_Tu_s | (simp only [z_Tu, z_Tr]; first | rfl | (rw [hT _ (by omega) (by omega)]; rfl) | simp)) (by omega) rfl (by decide) rfl dX12_init_17 ?_
  show z_VB κ _ 171 b _ _ _ _ _ _
  rw [z_Tu_uu]
  refine zb_aload_n (i := 0) 0 hc dX12_init_20 rfl rfl ?_
  refine zb_bipush hc dX12_init_21 rfl ?_
  refine zb_newI (NN := 18) hc (fun y => hst _ _ (by omega)) (by (try simp only [z_Tu, z_Tr]); first | (rw [hT _ (by omega) (by omega)]; rfl) | (simp; rw [hT _ (by omega) (by omega)]; rfl) | rfl) (z_t1 57 rfl rfl) (by decide) rfl (by decide) (Nat.le_of_ble_eq_true rfl) (Nat.le_of_ble_eq_true rfl) dX12_init_23 ?_
  refine zb_putR (ks := [(0, 0), (4, 1), (0, 0), (4, 2), (0, 0), (5, 0), (5, 0), (5, 0), (5, 0), (5, 0), (5, 0), (0, 0), (5, 0), (0, 0), (5, 0), (5, 0), (5, 0), (5, 0), (0, 0), (5, 0), (0, 0), (0, 0), (0, 0), (5, 0), (5, 0), (5, 0), (5, 0), (5, 0), (5, 0), (5, 0), (5, 0), (0, 0), (5, 0), (5, 0), (5, 0), (5, 0), (1, 0), (5, 0), (5, 0), (5, 0), (5, 0)]) (k := 168) (k2 := 171) (d := 3) (ty := .array .int) hc (zb_ABle hab hab2 (by omega)) he fl_RX12_16 fc_X12 ⟨(RX12, TX12, 41), rfl, rfl, by decide +kernel⟩ (by first | exact hT _ (by omega) (by omega) | (rw [hT _ (by omega) (by omega)]; exact hk0) | exact z_Tu_s | (simp only [z_Tu, z_Tr]; first | rfl | (rw [hT _ (by omega) (by omega)]; rfl) | simp)) (by omega) rfl (by decide) rfl dX12_init_25 ?_
  show z_VB κ _ 172 b _ _ _ _ _ _
  rw [z_Tu_uu]
  refine zb_aload_n (i := 0) 0 hc dX12_init_28 rfl rfl ?_
  refine zb_bipush hc dX12_init_29 rfl ?_
  refine zb_newI (NN := 6) hc (fun y => hst _ _ (by omega)) (by (try simp only [z_Tu, z_Tr]); first | (rw [hT _ (by omega) (by omega)]; rfl) | (simp; rw [hT _ (by omega) (by omega)]; rfl) | rfl) (z_t1 57 rfl rfl) (by decide) rfl (by decide) (Nat.le_of_ble_eq_true rfl) (Nat.le_of_ble_eq_true rfl) dX12_init_31 ?_
  refine zb_putR (ks := [(0, 0), (4, 1), (0, 0), (4, 2), (0, 0), (4, 3), (5, 0), (5, 0), (5, 0), (5, 0), (5, 0), (0, 0), (5, 0), (0, 0), (5, 0), (5, 0), (5, 0), (5, 0), (0, 0), (5, 0), (0, 0), (0, 0), (0, 0), (5, 0), (5, 0), (5, 0), (5, 0), (5, 0), (5, 0), (5, 0), (5, 0), (0, 0), (5, 0), (5, 0), (5, 0), (5, 0), (1, 0), (5, 0), (5, 0), (5, 0), (5, 0)]) (k := 168) (k2 := 172) (d := 4) (ty := .array .int) hc (zb_ABle hab hab2 (by omega)) he fl_RX12_19 fc_X12 ⟨(RX12, TX12, 41), rfl, rfl, by decide +kernel⟩ (by first | exact hT _ (by omega) (by omega) | (rw [hT _ (by omega) (by omega)]; exact hk0) | exact z_Tu_s | (simp only [z_Tu, z_Tr]; first | rfl | (rw [hT _ (by omega) (by omega)]; rfl) | simp)) (by omega) rfl (by decide) rfl dX12_init_33 ?_
  show z_VB κ _ 173 b _ _ _ _ _ _
  rw [z_Tu_uu]
  refine zb_aload_n (i := 0) 0 hc dX12_init_36 rfl rfl ?_
  refine zb_bipush hc dX12_init_37 rfl ?_
  refine zb_newI (NN := 6) hc (fun y => hst _ _ (by omega)) (by (try simp only [z_Tu, z_Tr]); first | (rw [hT _ (by omega) (by omega)]; rfl) | (simp; rw [hT _ (by omega) (by omega)]; rfl) | rfl) (z_t1 57 rfl rfl) (by decide) rfl (by decide) (Nat.le_of_ble_eq_true rfl) (Nat.le_of_ble_eq_true rfl) dX12_init_39 ?_
  refine zb_putR (ks := [(0, 0), (4, 1), (0, 0), (4, 2), (0, 0), (4, 3), (4, 4), (5, 0), (5, 0), (5, 0), (5, 0), (0, 0), (5, 0), (0, 0), (5, 0), (5, 0), (5, 0), (5, 0), (0, 0), (5, 0), (0, 0), (0, 0), (0, 0), (5, 0), (5, 0), (5, 0), (5, 0), (5, 0), (5, 0), (5, 0), (5, 0), (0, 0), (5, 0), (5, 0), (5, 0), (5, 0), (1, 0), (5, 0), (5, 0), (5, 0), (5, 0)]) (k := 168) (k2 := 173) (d := 5) (ty := .array .int) hc (zb_ABle hab hab2 (by omega)) he fl_RX12_22 fc_X12 ⟨(RX12, TX12, 41), rfl, rfl, by decide +kernel⟩ (by first | exact hT _ (by omega) (by omega) | (rw [hT _ (by omega) (by omega)]; exact hk0) | exact z_Tu_s | (simp only [z_Tu, z_Tr]; first | rfl | (rw [hT _ (by omega) (by omega)]; rfl) | simp)) (by omega) rfl (by decide) rfl dX12_init_41 ?_
  show z_VB κ _ 174 b _ _ _ _ _ _
  rw [z_Tu_uu]
  refine zb_aload_n (i := 0) 0 hc dX12_init_44 rfl rfl ?_
  refine zb_bipush hc dX12_init_45 rfl ?_
  refine zb_newI (NN := 18) hc (fun y => hst _ _ (by omega)) (by (try simp only [z_Tu, z_Tr]); first | (rw [hT _ (by omega) (by omega)]; rfl) | (simp; rw [hT _ (by omega) (by omega)]; rfl) | rfl) (z_t1 57 rfl rfl) (by decide) rfl (by decide) (Nat.le_of_ble_eq_true rfl) (Nat.le_of_ble_eq_true rfl) dX12_init_47 ?_
  refine zb_putR (ks := [(0, 0), (4, 1), (0, 0), (4, 2), (0, 0), (4, 3), (4, 4), (4, 5), (5, 0), (5, 0), (5, 0), (0, 0), (5, 0), (0, 0), (5, 0), (5, 0), (5, 0), (5, 0), (0, 0), (5, 0), (0, 0), (0, 0), (0, 0), (5, 0), (5, 0), (5, 0), (5, 0), (5, 0), (5, 0), (5, 0), (5, 0), (0, 0), (5, 0), (5, 0), (5, 0), (5, 0), (1, 0), (5, 0), (5, 0), (5, 0), (5, 0)]) (k := 168) (k2 := 174) (d := 6) (ty := .array .int) hc (zb_ABle hab hab2 (by omega)) he fl_RX12_25 fc_X12 ⟨(RX12, TX12, 41), rfl, rfl, by decide +kernel⟩ (by first | exact hT _ (by omega) (by omega) | (rw [hT _ (by omega) (by omega)]; exact hk0) | exact z_Tu_s | (simp only [z_Tu, z_Tr]; first | rfl | (rw [hT _ (by omega) (by omega)]; rfl) | simp)) (by omega) rfl (by decide) rfl dX12_init_49 ?_
  show z_VB κ _ 175 b _ _ _ _ _ _
  rw [z_Tu_uu]
  refine zb_aload_n (i := 0) 0 hc dX12_init_52 rfl rfl ?_
  refine zb_bipush hc dX12_init_53 rfl ?_
  refine zb_newI (NN := 18) hc (fun y => hst _ _ (by omega)) (by (try simp only [z_Tu, z_Tr]); first | (rw [hT _ (by omega) (by omega)]; rfl) | (simp; rw [hT _ (by omega) (by omega)]; rfl) | rfl) (z_t1 57 rfl rfl) (by decide) rfl (by decide) (Nat.le_of_ble_eq_true rfl) (Nat.le_of_ble_eq_true rfl) dX12_init_55 ?_
  refine zb_putR (ks := [(0, 0), (4, 1), (0, 0), (4, 2), (0, 0), (4, 3), (4, 4), (4, 5), (4, 6), (5, 0), (5, 0), (0, 0), (5, 0), (0, 0), (5, 0), (5, 0), (5, 0), (5, 0), (0, 0), (5, 0), (0, 0), (0, 0), (0, 0), (5, 0), (5, 0), (5, 0), (5, 0), (5, 0), (5, 0), (5, 0), (5, 0), (0, 0), (5, 0), (5, 0), (5, 0), (5, 0), (1, 0), (5, 0), (5, 0), (5, 0), (5, 0)]) (k := 168) (k2 := 175) (d := 7) (ty := .array .int) hc (zb_ABle hab hab2 (by omega)) he fl_RX12_28 fc_X12 ⟨(RX12, TX12, 41), rfl, rfl, by decide +kernel⟩ (by first | exact hT _ (by omega) (by omega) | (rw [hT _ (by omega) (by omega)]; exact hk0) | exact z_Tu_s | (simp only [z_Tu, z_Tr]; first | rfl | (rw [hT _ (by omega) (by omega)]; rfl) | simp)) (by omega) rfl (by decide) rfl dX12_init_57 ?_
  show z_VB κ _ 176 b _ _ _ _ _ _
  rw [z_Tu_uu]
  refine zb_aload_n (i := 0) 0 hc dX12_init_60 rfl rfl ?_
  refine zb_bipush hc dX12_init_61 rfl ?_
  refine zb_newI (NN := 18) hc (fun y => hst _ _ (by omega)) (by (try simp only [z_Tu, z_Tr]); first | (rw [hT _ (by omega) (by omega)]; rfl) | (simp; rw [hT _ (by omega) (by omega)]; rfl) | rfl) (z_t1 57 rfl rfl) (by decide) rfl (by decide) (Nat.le_of_ble_eq_true rfl) (Nat.le_of_ble_eq_true rfl) dX12_init_63 ?_
  refine zb_putR (ks := [(0, 0), (4, 1), (0, 0), (4, 2), (0, 0), (4, 3), (4, 4), (4, 5), (4, 6), (4, 7), (5, 0), (0, 0), (5, 0), (0, 0), (5, 0), (5, 0), (5, 0), (5, 0), (0, 0), (5, 0), (0, 0), (0, 0), (0, 0), (5, 0), (5, 0), (5, 0), (5, 0), (5, 0), (5, 0), (5, 0), (5, 0), (0, 0), (5, 0), (5, 0), (5, 0), (5, 0), (1, 0), (5, 0), (5, 0), (5, 0), (5, 0)]) (k := 168) (k2 := 176) (d := 8) (ty := .array .int) hc (zb_ABle hab hab2 (by omega)) he fl_RX12_31 fc_X12 ⟨(RX12, TX12, 41), rfl, rfl, by decide +kernel⟩ (by first | exact hT _ (by omega) (by omega) | (rw [hT _ (by omega) (by omega)]; exact hk0) | exact z_Tu_s | (simp only [z_Tu, z_Tr]; first | rfl | (rw [hT _ (by omega) (by omega)]; rfl) | simp)) (by omega) rfl (by decide) rfl dX12_init_65 ?_
  show z_VB κ _ 177 b _ _ _ _ _ _
  rw [z_Tu_uu]
  refine zb_aload_n (i := 0) 0 hc dX12_init_68 rfl rfl ?_
  refine zb_iconst hc dX12_init_69 ?_
  refine zb_newI (NN := 4) hc (fun y => hst _ _ (by omega)) (by (try simp only [z_Tu, z_Tr]); first | (rw [hT _ (by omega) (by omega)]; rfl) | (simp; rw [hT _ (by omega) (by omega)]; rfl) | rfl) (z_t1 57 rfl rfl) (by decide) rfl (by decide) (Nat.le_of_ble_eq_true rfl) (Nat.le_of_ble_eq_true rfl) dX12_init_70 ?_
  refine zb_putR (ks := [(0, 0), (4, 1), (0, 0), (4, 2), (0, 0), (4, 3), (4, 4), (4, 5), (4, 6), (4, 7), (4, 8), (0, 0), (5, 0), (0, 0), (5, 0), (5, 0), (5, 0), (5, 0), (0, 0), (5, 0), (0, 0), (0, 0), (0, 0), (5, 0), (5, 0), (5, 0), (5, 0), (5, 0), (5, 0), (5, 0), (5, 0), (0, 0), (5, 0), (5, 0), (5, 0), (5, 0), (1, 0), (5, 0), (5, 0), (5, 0), (5, 0)]) (k := 168) (k2 := 177) (d := 9) (ty := .array .int) hc (zb_ABle hab hab2 (by omega)) he fl_RX12_34 fc_X12 ⟨(RX12, TX12, 41), rfl, rfl, by decide +kernel⟩ (by first | exact hT _ (by omega) (by omega) | (rw [hT _ (by omega) (by omega)]; exact hk0) | exact z_Tu_s | (simp only [z_Tu, z_Tr]; first | rfl | (rw [hT _ (by omega) (by omega)]; rfl) | simp)) (by omega) rfl (by decide) rfl dX12_init_72 ?_
  show z_VB κ _ 178 b _ _ _ _ _ _
  rw [z_Tu_uu]
  refine zb_aload_n (i := 0) 0 hc dX12_init_75 rfl rfl ?_
  refine zb_iconst hc dX12_init_76 ?_
  refine zb_newI (NN := 5) hc (fun y => hst _ _ (by omega)) (by (try simp only [z_Tu, z_Tr]); first | (rw [hT _ (by omega) (by omega)]; rfl) | (simp; rw [hT _ (by omega) (by omega)]; rfl) | rfl) (z_t1 57 rfl rfl) (by decide) rfl (by decide) (Nat.le_of_ble_eq_true rfl) (Nat.le_of_ble_eq_true rfl) dX12_init_77 ?_
  refine zb_putR (ks := [(0, 0), (4, 1), (0, 0), (4, 2), (0, 0), (4, 3), (4, 4), (4, 5), (4, 6), (4, 7), (4, 8), (0, 0), (4, 9), (0, 0), (5, 0), (5, 0), (5, 0), (5, 0), (0, 0), (5, 0), (0, 0), (0, 0), (0, 0), (5, 0), (5, 0), (5, 0), (5, 0), (5, 0), (5, 0), (5, 0), (5, 0), (0, 0), (5, 0), (5, 0), (5, 0), (5, 0), (1, 0), (5, 0), (5, 0), (5, 0), (5, 0)]) (k := 168) (k2 := 178) (d := 10) (ty := .array .int) hc (zb_ABle hab hab2 (by omega)) he fl_RX12_37 fc_X12 ⟨(RX12, TX12, 41), rfl, rfl, by decide +kernel⟩ (by first | exact hT _ (by omega) (by omega) | (rw [hT _ (by omega) (by omega)]; exact hk0) | exact z_Tu_s | (simp only [z_Tu, z_Tr]; first | rfl | (rw [hT _ (by omega) (by omega)]; rfl) | simp)) (by omega) rfl (by decide) rfl dX12_init_79 ?_
  show z_VB κ _ 179 b _ _ _ _ _ _
  rw [z_Tu_uu]
  refine zb_aload_n (i := 0) 0 hc dX12_init_82 rfl rfl ?_
  refine zb_bipush hc dX12_init_83 rfl ?_
  refine zb_newI (NN := 10) hc (fun y => hst _ _ (by omega)) (by (try simp only [z_Tu, z_Tr]); first | (rw [hT _ (by omega) (by omega)]; rfl) | (simp; rw [hT _ (by omega) (by omega)]; rfl) | rfl) (z_t1 57 rfl rfl) (by decide) rfl (by decide) (Nat.le_of_ble_eq_true rfl) (Nat.le_of_ble_eq_true rfl) dX12_init_85 ?_
  refine zb_putR (ks := [(0, 0), (4, 1), (0, 0), (4, 2), (0, 0), (4, 3), (4, 4), (4, 5), (4, 6), (4, 7), (4, 8), (0, 0), (4, 9), (0, 0), (4, 10), (5, 0), (5, 0), (5, 0), (0, 0), (5, 0), (0, 0), (0, 0), (0, 0), (5, 0), (5, 0), (5, 0), (5, 0), (5, 0), (5, 0), (5, 0), (5, 0), (0, 0), (5, 0), (5, 0), (5, 0), (5, 0), (1, 0), (5, 0), (5, 0), (5, 0), (5, 0)]) (k := 168) (k2 := 179) (d := 11) (ty := .array .int) hc (zb_ABle hab hab2 (by omega)) he fl_RX12_40 fc_X12 ⟨(RX12, TX12, 41), rfl, rfl, by decide +kernel⟩ (by first | exact hT _ (by omega) (by omega) | (rw [hT _ (by omega) (by omega)]; exact hk0) | exact z_Tu_s | (simp only [z_Tu, z_Tr]; first | rfl | (rw [hT _ (by omega) (by omega)]; rfl) | simp)) (by omega) rfl (by decide) rfl dX12_init_87 ?_
  show z_VB κ _ 180 b _ _ _ _ _ _
  rw [z_Tu_uu]
  refine zb_aload_n (i := 0) 0 hc dX12_init_90 rfl rfl ?_
  refine zb_bipush hc dX12_init_91 rfl ?_
  refine zb_newI (NN := 40) hc (fun y => hst _ _ (by omega)) (by (try simp only [z_Tu, z_Tr]); first | (rw [hT _ (by omega) (by omega)]; rfl) | (simp; rw [hT _ (by omega) (by omega)]; rfl) | rfl) (z_t1 57 rfl rfl) (by decide) rfl (by decide) (Nat.le_of_ble_eq_true rfl) (Nat.le_of_ble_eq_true rfl) dX12_init_93 ?_
  refine zb_putR (ks := [(0, 0), (4, 1), (0, 0), (4, 2), (0, 0), (4, 3), (4, 4), (4, 5), (4, 6), (4, 7), (4, 8), (0, 0), (4, 9), (0, 0), (4, 10), (4, 11), (5, 0), (5, 0), (0, 0), (5, 0), (0, 0), (0, 0), (0, 0), (5, 0), (5, 0), (5, 0), (5, 0), (5, 0), (5, 0), (5, 0), (5, 0), (0, 0), (5, 0), (5, 0), (5, 0), (5, 0), (1, 0), (5, 0), (5, 0), (5, 0), (5, 0)]) (k := 168) (k2 := 180) (d := 12) (ty := .array .int) hc (zb_ABle hab hab2 (by omega)) he fl_RX12_43 fc_X12 ⟨(RX12, TX12, 41), rfl, rfl, by decide +kernel⟩ (by first | exact hT _ (by omega) (by omega) | (rw [hT _ (by omega) (by omega)]; exact hk0) | exact z_Tu_s | (simp only [z_Tu, z_Tr]; first | rfl | (rw [hT _ (by omega) (by omega)]; rfl) | simp)) (by omega) rfl (by decide) rfl dX12_init_95 ?_
  show z_VB κ _ 181 b _ _ _ _ _ _
  rw [z_Tu_uu]
  refine zb_aload_n (i := 0) 0 hc dX12_init_98 rfl rfl ?_
  refine zb_bipush hc dX12_init_99 rfl ?_
  refine zb_newI (NN := 10) hc (fun y => hst _ _ (by omega)) (by (try simp only [z_Tu, z_Tr]); first | (rw [hT _ (by omega) (by omega)]; rfl) | (simp; rw [hT _ (by omega) (by omega)]; rfl) | rfl) (z_t1 57 rfl rfl) (by decide) rfl (by decide) (Nat.le_of_ble_eq_true rfl) (Nat.le_of_ble_eq_true rfl) dX12_init_101 ?_
  refine zb_putR (ks := [(0, 0), (4, 1), (0, 0), (4, 2), (0, 0), (4, 3), (4, 4), (4, 5), (4, 6), (4, 7), (4, 8), (0, 0), (4, 9), (0, 0), (4, 10), (4, 11), (4, 12), (5, 0), (0, 0), (5, 0), (0, 0), (0, 0), (0, 0), (5, 0), (5, 0), (5, 0), (5, 0), (5, 0), (5, 0), (5, 0), (5, 0), (0, 0), (5, 0), (5, 0), (5, 0), (5, 0), (1, 0), (5, 0), (5, 0), (5, 0), (5, 0)]) (k := 168) (k2 := 181) (d := 13) (ty := .array .int) hc (zb_ABle hab hab2 (by omega)) he fl_RX12_46 fc_X12 ⟨(RX12, TX12, 41), rfl, rfl, by decide +kernel⟩ (by first | exact hT _ (by omega) (by omega) | (rw [hT _ (by omega) (by omega)]; exact hk0) | exact z_Tu_s | (simp only [z_Tu, z_Tr]; first | rfl | (rw [hT _ (by omega) (by omega)]; rfl) | simp)) (by omega) rfl (by decide) rfl dX12_init_103 ?_
  show z_VB κ _ 182 b _ _ _ _ _ _
  rw [z_Tu_uu]
  refine zb_aload_n (i := 0) 0 hc dX12_init_106 rfl rfl ?_
  refine zb_bipush hc dX12_init_107 rfl ?_
  refine zb_newI (NN := 36) hc (fun y => hst _ _ (by omega)) (by (try simp only [z_Tu, z_Tr]); first | (rw [hT _ (by omega) (by omega)]; rfl) | (simp; rw [hT _ (by omega) (by omega)]; rfl) | rfl) (z_t1 57 rfl rfl) (by decide) rfl (by decide) (Nat.le_of_ble_eq_true rfl) (Nat.le_of_ble_eq_true rfl) dX12_init_109 ?_
  refine zb_putR (ks := [(0, 0), (4, 1), (0, 0), (4, 2), (0, 0), (4, 3), (4, 4), (4, 5), (4, 6), (4, 7), (4, 8), (0, 0), (4, 9), (0, 0), (4, 10), (4, 11), (4, 12), (4, 13), (0, 0), (5, 0), (0, 0), (0, 0), (0, 0), (5, 0), (5, 0), (5, 0), (5, 0), (5, 0), (5, 0), (5, 0), (5, 0), (0, 0), (5, 0), (5, 0), (5, 0), (5, 0), (1, 0), (5, 0), (5, 0), (5, 0), (5, 0)]) (k := 168) (k2 := 182) (d := 14) (ty := .array .int) hc (zb_ABle hab hab2 (by omega)) he fl_RX12_49 fc_X12 ⟨(RX12, TX12, 41), rfl, rfl, by decide +kernel⟩ (by first | exact hT _ (by omega) (by omega) | (rw [hT _ (by omega) (by omega)]; exact hk0) | exact z_Tu_s | (simp only [z_Tu, z_Tr]; first | rfl | (rw [hT _ (by omega) (by omega)]; rfl) | simp)) (by omega) rfl (by decide) rfl dX12_init_111 ?_
  show z_VB κ _ 183 b _ _ _ _ _ _
  rw [z_Tu_uu]
  refine zb_aload_n (i := 0) 0 hc dX12_init_114 rfl rfl ?_
  refine zb_sipush hc dX12_init_115 rfl ?_
  refine zb_putI (ks := [(0, 0), (4, 1), (0, 0), (4, 2), (0, 0), (4, 3), (4, 4), (4, 5), (4, 6), (4, 7), (4, 8), (0, 0), (4, 9), (0, 0), (4, 10), (4, 11), (4, 12), (4, 13), (0, 0), (4, 14), (0, 0), (0, 0), (0, 0), (5, 0), (5, 0), (5, 0), (5, 0), (5, 0), (5, 0), (5, 0), (5, 0), (0, 0), (5, 0), (5, 0), (5, 0), (5, 0), (1, 0), (5, 0), (5, 0), (5, 0), (5, 0)]) (k := 168) (kI := 168) (jI := 21) (x := 500) hc (zb_ABle hab hab2 (by omega)) he fl_RX12_52 fc_X12 ⟨(RX12, TX12, 41), rfl, rfl, by decide +kernel⟩ (by first | exact hT _ (by omega) (by omega) | (rw [hT _ (by omega) (by omega)]; exact hk0) | exact z_Tu_s | (simp only [z_Tu, z_Tr]; first | rfl | (rw [hT _ (by omega) (by omega)]; rfl) | simp)) (by omega) rfl rfl rfl dX12_init_118 ?_
  have hst88 : ∀ x y : Int, ((183 : Nat) : Int) ≤ x → (z_up st 168 21 500) x y = 0 := z_st_up (z_st_le hst (by omega)) (by omega)
  refine zb_aload_n (i := 0) 0 hc dX12_init_121 rfl rfl ?_
  refine zb_iconst hc dX12_init_122 ?_
  refine zb_putI (ks := [(0, 0), (4, 1), (0, 0), (4, 2), (0, 0), (4, 3), (4, 4), (4, 5), (4, 6), (4, 7), (4, 8), (0, 0), (4, 9), (0, 0), (4, 10), (4, 11), (4, 12), (4, 13), (0, 0), (4, 14), (0, 0), (0, 0), (0, 0), (5, 0), (5, 0), (5, 0), (5, 0), (5, 0), (5, 0), (5, 0), (5, 0), (0, 0), (5, 0), (5, 0), (5, 0), (5, 0), (1, 0), (5, 0), (5, 0), (5, 0), (5, 0)]) (k := 168) (kI := 168) (jI := 22) (x := 1) hc (zb_ABle hab hab2 (by omega)) he fl_RX12_56 fc_X12 ⟨(RX12, TX12, 41), rfl, rfl, by decide +kernel⟩ (by first | exact hT _ (by omega) (by omega) | (rw [hT _ (by omega) (by omega)]; exact hk0) | exact z_Tu_s | (simp only [z_Tu, z_Tr]; first | rfl | (rw [hT _ (by omega) (by omega)]; rfl) | simp)) (by omega) rfl rfl rfl dX12_init_123 ?_
  have hst92 : ∀ x y : Int, ((183 : Nat) : Int) ≤ x → (z_up (z_up st 168 21 500) 168 22 1) x y = 0 := z_st_up (z_st_le hst88 (by omega)) (by omega)
  refine zb_aload_n (i := 0) 0 hc dX12_init_126 rfl rfl ?_
  refine zb_sipush hc dX12_init_127 rfl ?_
  refine zb_newJ (NN := 2890) hc (fun y => hst92 _ _ (by omega)) (by (try simp only [z_Tu, z_Tr]); first | (rw [hT _ (by omega) (by omega)]; rfl) | (simp; rw [hT _ (by omega) (by omega)]; rfl) | rfl) (z_t1 218 rfl rfl) (by decide) rfl (by decide) (Nat.le_of_ble_eq_true rfl) (Nat.le_of_ble_eq_true rfl) dX12_init_130 ?_
  refine zb_putR (ks := [(0, 0), (4, 1), (0, 0), (4, 2), (0, 0), (4, 3), (4, 4), (4, 5), (4, 6), (4, 7), (4, 8), (0, 0), (4, 9), (0, 0), (4, 10), (4, 11), (4, 12), (4, 13), (0, 0), (4, 14), (0, 0), (0, 0), (0, 0), (5, 0), (5, 0), (5, 0), (5, 0), (5, 0), (5, 0), (5, 0), (5, 0), (0, 0), (5, 0), (5, 0), (5, 0), (5, 0), (1, 0), (5, 0), (5, 0), (5, 0), (5, 0)]) (k := 168) (k2 := 183) (d := 15) (ty := .array .long) hc (zb_ABle hab hab2 (by omega)) he fl_RX12_59 fc_X12 ⟨(RX12, TX12, 41), rfl, rfl, by decide +kernel⟩ (by first | exact hT _ (by omega) (by omega) | (rw [hT _ (by omega) (by omega)]; exact hk0) | exact z_Tu_s | (simp only [z_Tu, z_Tr]; first | rfl | (rw [hT _ (by omega) (by omega)]; rfl) | simp)) (by omega) rfl (by decide) rfl dX12_init_132 ?_
  show z_VB κ _ 184 b _ _ _ _ _ _
  rw [z_Tu_uu]
  refine zb_aload_n (i := 0) 0 hc dX12_init_135 rfl rfl ?_
  refine zb_sipush hc dX12_init_136 rfl ?_
  refine zb_newJ (NN := 1445) hc (fun y => hst92 _ _ (by omega)) (by (try simp only [z_Tu, z_Tr]); first | (rw [hT _ (by omega) (by omega)]; rfl) | (simp; rw [hT _ (by omega) (by omega)]; rfl) | rfl) (z_t1 218 rfl rfl) (by decide) rfl (by decide) (Nat.le_of_ble_eq_true rfl) (Nat.le_of_ble_eq_true rfl) dX12_init_139 ?_
  refine zb_putR (ks := [(0, 0), (4, 1), (0, 0), (4, 2), (0, 0), (4, 3), (4, 4), (4, 5), (4, 6), (4, 7), (4, 8), (0, 0), (4, 9), (0, 0), (4, 10), (4, 11), (4, 12), (4, 13), (0, 0), (4, 14), (0, 0), (0, 0), (0, 0), (4, 15), (5, 0), (5, 0), (5, 0), (5, 0), (5, 0), (5, 0), (5, 0), (0, 0), (5, 0), (5, 0), (5, 0), (5, 0), (1, 0), (5, 0), (5, 0), (5, 0), (5, 0)]) (k := 168) (k2 := 184) (d := 16) (ty := .array .long) hc (zb_ABle hab hab2 (by omega)) he fl_RX12_63 fc_X12 ⟨(RX12, TX12, 41), rfl, rfl, by decide +kernel⟩ (by first | exact hT _ (by omega) (by omega) | (rw [hT _ (by omega) (by omega)]; exact hk0) | exact z_Tu_s | (simp only [z_Tu, z_Tr]; first | rfl | (rw [hT _ (by omega) (by omega)]; rfl) | simp)) (by omega) rfl (by decide) rfl dX12_init_141 ?_
  show z_VB κ _ 185 b _ _ _ _ _ _
  rw [z_Tu_uu]
  refine zb_aload_n (i := 0) 0 hc dX12_init_144 rfl rfl ?_
  refine zb_bipush hc dX12_init_145 rfl ?_
  refine zb_newJ (NN := 85) hc (fun y => hst92 _ _ (by omega)) (by (try simp only [z_Tu, z_Tr]); first | (rw [hT _ (by omega) (by omega)]; rfl) | (simp; rw [hT _ (by omega) (by omega)]; rfl) | rfl) (z_t1 218 rfl rfl) (by decide) rfl (by decide) (Nat.le_of_ble_eq_true rfl) (Nat.le_of_ble_eq_true rfl) dX12_init_147 ?_
  refine zb_putR (ks := [(0, 0), (4, 1), (0, 0), (4, 2), (0, 0), (4, 3), (4, 4), (4, 5), (4, 6), (4, 7), (4, 8), (0, 0), (4, 9), (0, 0), (4, 10), (4, 11), (4, 12), (4, 13), (0, 0), (4, 14), (0, 0), (0, 0), (0, 0), (4, 15), (4, 16), (5, 0), (5, 0), (5, 0), (5, 0), (5, 0), (5, 0), (0, 0), (5, 0), (5, 0), (5, 0), (5, 0), (1, 0), (5, 0), (5, 0), (5, 0), (5, 0)]) (k := 168) (k2 := 185) (d := 17) (ty := .array .long) hc (zb_ABle hab hab2 (by omega)) he fl_RX12_66 fc_X12 ⟨(RX12, TX12, 41), rfl, rfl, by decide +kernel⟩ (by first | exact hT _ (by omega) (by omega) | (rw [hT _ (by omega) (by omega)]; exact hk0) | exact z_Tu_s | (simp only [z_Tu, z_Tr]; first | rfl | (rw [hT _ (by omega) (by omega)]; rfl) | simp)) (by omega) rfl (by decide) rfl dX12_init_149 ?_
  show z_VB κ _ 186 b _ _ _ _ _ _
  rw [z_Tu_uu]
  refine zb_aload_n (i := 0) 0 hc dX12_init_152 rfl rfl ?_
  refine zb_iconst hc dX12_init_153 ?_
  refine zb_newI (NN := 4) hc (fun y => hst92 _ _ (by omega)) (by (try simp only [z_Tu, z_Tr]); first | (rw [hT _ (by omega) (by omega)]; rfl) | (simp; rw [hT _ (by omega) (by omega)]; rfl) | rfl) (z_t1 57 rfl rfl) (by decide) rfl (by decide) (Nat.le_of_ble_eq_true rfl) (Nat.le_of_ble_eq_true rfl) dX12_init_154 ?_
  refine zb_putR (ks := [(0, 0), (4, 1), (0, 0), (4, 2), (0, 0), (4, 3), (4, 4), (4, 5), (4, 6), (4, 7), (4, 8), (0, 0), (4, 9), (0, 0), (4, 10), (4, 11), (4, 12), (4, 13), (0, 0), (4, 14), (0, 0), (0, 0), (0, 0), (4, 15), (4, 16), (4, 17), (5, 0), (5, 0), (5, 0), (5, 0), (5, 0), (0, 0), (5, 0), (5, 0), (5, 0), (5, 0), (1, 0), (5, 0), (5, 0), (5, 0), (5, 0)]) (k := 168) (k2 := 186) (d := 18) (ty := .array .int) hc (zb_ABle hab hab2 (by omega)) he fl_RX12_69 fc_X12 ⟨(RX12, TX12, 41), rfl, rfl, by decide +kernel⟩ (by first | exact hT _ (by omega) (by omega) | (rw [hT _ (by omega) (by omega)]; exact hk0) | exact z_Tu_s | (simp only [z_Tu, z_Tr]; first | rfl | (rw [hT _ (by omega) (by omega)]; rfl) | simp)) (by omega) rfl (by decide) rfl dX12_init_156 ?_
  show z_VB κ _ 187 b _ _ _ _ _ _
  rw [z_Tu_uu]
  refine zb_aload_n (i := 0) 0 hc dX12_init_159 rfl rfl ?_
  refine zb_iconst hc dX12_init_160 ?_
  refine zb_newI (NN := 4) hc (fun y => hst92 _ _ (by omega)) (by (try simp only [z_Tu, z_Tr]); first | (rw [hT _ (by omega) (by omega)]; rfl) | (simp; rw [hT _ (by omega) (by omega)]; rfl) | rfl) (z_t1 57 rfl rfl) (by decide) rfl (by decide) (Nat.le_of_ble_eq_true rfl) (Nat.le_of_ble_eq_true rfl) dX12_init_161 ?_
  refine zb_putR (ks := [(0, 0), (4, 1), (0, 0), (4, 2), (0, 0), (4, 3), (4, 4), (4, 5), (4, 6), (4, 7), (4, 8), (0, 0), (4, 9), (0, 0), (4, 10), (4, 11), (4, 12), (4, 13), (0, 0), (4, 14), (0, 0), (0, 0), (0, 0), (4, 15), (4, 16), (4, 17), (4, 18), (5, 0), (5, 0), (5, 0), (5, 0), (0, 0), (5, 0), (5, 0), (5, 0), (5, 0), (1, 0), (5, 0), (5, 0), (5, 0), (5, 0)]) (k := 168) (k2 := 187) (d := 19) (ty := .array .int) hc (zb_ABle hab hab2 (by omega)) he fl_RX12_72 fc_X12 ⟨(RX12, TX12, 41), rfl, rfl, by decide +kernel⟩ (by first | exact hT _ (by omega) (by omega) | (rw [hT _ (by omega) (by omega)]; exact hk0) | exact z_Tu_s | (simp only [z_Tu, z_Tr]; first | rfl | (rw [hT _ (by omega) (by omega)]; rfl) | simp)) (by omega) rfl (by decide) rfl dX12_init_163 ?_
  show z_VB κ _ 188 b _ _ _ _ _ _
  rw [z_Tu_uu]
  refine zb_aload_n (i := 0) 0 hc dX12_init_166 rfl rfl ?_
  refine zb_bipush hc dX12_init_167 rfl ?_
  refine zb_newJ (NN := 85) hc (fun y => hst92 _ _ (by omega)) (by (try simp only [z_Tu, z_Tr]); first | (rw [hT _ (by omega) (by omega)]; rfl) | (simp; rw [hT _ (by omega) (by omega)]; rfl) | rfl) (z_t1 218 rfl rfl) (by decide) rfl (by decide) (Nat.le_of_ble_eq_true rfl) (Nat.le_of_ble_eq_true rfl) dX12_init_169 ?_
  refine zb_putR (ks := [(0, 0), (4, 1), (0, 0), (4, 2), (0, 0), (4, 3), (4, 4), (4, 5), (4, 6), (4, 7), (4, 8), (0, 0), (4, 9), (0, 0), (4, 10), (4, 11), (4, 12), (4, 13), (0, 0), (4, 14), (0, 0), (0, 0), (0, 0), (4, 15), (4, 16), (4, 17), (4, 18), (4, 19), (5, 0), (5, 0), (5, 0), (0, 0), (5, 0), (5, 0), (5, 0), (5, 0), (1, 0), (5, 0), (5, 0), (5, 0), (5, 0)]) (k := 168) (k2 := 188) (d := 20) (ty := .array .long) hc (zb_ABle hab hab2 (by omega)) he fl_RX12_75 fc_X12 ⟨(RX12, TX12, 41), rfl, rfl, by decide +kernel⟩ (by first | exact hT _ (by omega) (by omega) | (rw [hT _ (by omega) (by omega)]; exact hk0) | exact z_Tu_s | (simp only [z_Tu, z_Tr]; first | rfl | (rw [hT _ (by omega) (by omega)]; rfl) | simp)) (by omega) rfl (by decide) rfl dX12_init_171 ?_
  show z_VB κ _ 189 b _ _ _ _ _ _
  rw [z_Tu_uu]
  refine zb_aload_n (i := 0) 0 hc dX12_init_174 rfl rfl ?_
  refine zb_sipush hc dX12_init_175 rfl ?_
  refine zb_newJ (NN := 780) hc (fun y => hst92 _ _ (by omega)) (by (try simp only [z_Tu, z_Tr]); first | (rw [hT _ (by omega) (by omega)]; rfl) | (simp; rw [hT _ (by omega) (by omega)]; rfl) | rfl) (z_t1 218 rfl rfl) (by decide) rfl (by decide) (Nat.le_of_ble_eq_true rfl) (Nat.le_of_ble_eq_true rfl) dX12_init_178 ?_
  refine zb_putR (ks := [(0, 0), (4, 1), (0, 0), (4, 2), (0, 0), (4, 3), (4, 4), (4, 5), (4, 6), (4, 7), (4, 8), (0, 0), (4, 9), (0, 0), (4, 10), (4, 11), (4, 12), (4, 13), (0, 0), (4, 14), (0, 0), (0, 0), (0, 0), (4, 15), (4, 16), (4, 17), (4, 18), (4, 19), (4, 20), (5, 0), (5, 0), (0, 0), (5, 0), (5, 0), (5, 0), (5, 0), (1, 0), (5, 0), (5, 0), (5, 0), (5, 0)]) (k := 168) (k2 := 189) (d := 21) (ty := .array .long) hc (zb_ABle hab hab2 (by omega)) he fl_RX12_78 fc_X12 ⟨(RX12, TX12, 41), rfl, rfl, by decide +kernel⟩ (by first | exact hT _ (by omega) (by omega) | (rw [hT _ (by omega) (by omega)]; exact hk0) | exact z_Tu_s | (simp only [z_Tu, z_Tr]; first | rfl | (rw [hT _ (by omega) (by omega)]; rfl) | simp)) (by omega) rfl (by decide) rfl dX12_init_180 ?_
  show z_VB κ _ 190 b _ _ _ _ _ _
  rw [z_Tu_uu]
  refine zb_aload_n (i := 0) 0 hc dX12_init_183 rfl rfl ?_
  refine zb_sipush hc dX12_init_184 rfl ?_
  refine zb_newI (NN := 780) hc (fun y => hst92 _ _ (by omega)) (by (try simp only [z_Tu, z_Tr]); first | (rw [hT _ (by omega) (by omega)]; rfl) | (simp; rw [hT _ (by omega) (by omega)]; rfl) | rfl) (z_t1 57 rfl rfl) (by decide) rfl (by decide) (Nat.le_of_ble_eq_true rfl) (Nat.le_of_ble_eq_true rfl) dX12_init_187 ?_
  refine zb_putR (ks := [(0, 0), (4, 1), (0, 0), (4, 2), (0, 0), (4, 3), (4, 4), (4, 5), (4, 6), (4, 7), (4, 8), (0, 0), (4, 9), (0, 0), (4, 10), (4, 11), (4, 12), (4, 13), (0, 0), (4, 14), (0, 0), (0, 0), (0, 0), (4, 15), (4, 16), (4, 17), (4, 18), (4, 19), (4, 20), (4, 21), (5, 0), (0, 0), (5, 0), (5, 0), (5, 0), (5, 0), (1, 0), (5, 0), (5, 0), (5, 0), (5, 0)]) (k := 168) (k2 := 190) (d := 22) (ty := .array .int) hc (zb_ABle hab hab2 (by omega)) he fl_RX12_81 fc_X12 ⟨(RX12, TX12, 41), rfl, rfl, by decide +kernel⟩ (by first | exact hT _ (by omega) (by omega) | (rw [hT _ (by omega) (by omega)]; exact hk0) | exact z_Tu_s | (simp only [z_Tu, z_Tr]; first | rfl | (rw [hT _ (by omega) (by omega)]; rfl) | simp)) (by omega) rfl (by decide) rfl dX12_init_189 ?_
  show z_VB κ _ 191 b _ _ _ _ _ _
  rw [z_Tu_uu]
  refine zb_aload_n (i := 0) 0 hc dX12_init_192 rfl rfl ?_
  refine zb_bipush hc dX12_init_193 rfl ?_
  refine zb_newI (NN := 96) hc (fun y => hst92 _ _ (by omega)) (by (try simp only [z_Tu, z_Tr]); first | (rw [hT _ (by omega) (by omega)]; rfl) | (simp; rw [hT _ (by omega) (by omega)]; rfl) | rfl) (z_t1 57 rfl rfl) (by decide) rfl (by decide) (Nat.le_of_ble_eq_true rfl) (Nat.le_of_ble_eq_true rfl) dX12_init_195 ?_
  refine zb_putR (ks := [(0, 0), (4, 1), (0, 0), (4, 2), (0, 0), (4, 3), (4, 4), (4, 5), (4, 6), (4, 7), (4, 8), (0, 0), (4, 9), (0, 0), (4, 10), (4, 11), (4, 12), (4, 13), (0, 0), (4, 14), (0, 0), (0, 0), (0, 0), (4, 15), (4, 16), (4, 17), (4, 18), (4, 19), (4, 20), (4, 21), (4, 22), (0, 0), (5, 0), (5, 0), (5, 0), (5, 0), (1, 0), (5, 0), (5, 0), (5, 0), (5, 0)]) (k := 168) (k2 := 191) (d := 23) (ty := .array .int) hc (zb_ABle hab hab2 (by omega)) he fl_RX12_84 fc_X12 ⟨(RX12, TX12, 41), rfl, rfl, by decide +kernel⟩ (by first | exact hT _ (by omega) (by omega) | (rw [hT _ (by omega) (by omega)]; exact hk0) | exact z_Tu_s | (simp only [z_Tu, z_Tr]; first | rfl | (rw [hT _ (by omega) (by omega)]; rfl) | simp)) (by omega) rfl (by decide) rfl dX12_init_197 ?_
  show z_VB κ _ 192 b _ _ _ _ _ _
  rw [z_Tu_uu]
  refine zb_aload_n (i := 0) 0 hc dX12_init_200 rfl rfl ?_
  refine zb_sipush hc dX12_init_201 rfl ?_
  refine zb_newJ (NN := 340) hc (fun y => hst92 _ _ (by omega)) (by (try simp only [z_Tu, z_Tr]); first | (rw [hT _ (by omega) (by omega)]; rfl) | (simp; rw [hT _ (by omega) (by omega)]; rfl) | rfl) (z_t1 218 rfl rfl) (by decide) rfl (by decide) (Nat.le_of_ble_eq_true rfl) (Nat.le_of_ble_eq_true rfl) dX12_init_204 ?_
  refine zb_putR (ks := [(0, 0), (4, 1), (0, 0), (4, 2), (0, 0), (4, 3), (4, 4), (4, 5), (4, 6), (4, 7), (4, 8), (0, 0), (4, 9), (0, 0), (4, 10), (4, 11), (4, 12), (4, 13), (0, 0), (4, 14), (0, 0), (0, 0), (0, 0), (4, 15), (4, 16), (4, 17), (4, 18), (4, 19), (4, 20), (4, 21), (4, 22), (0, 0), (4, 23), (5, 0), (5, 0), (5, 0), (1, 0), (5, 0), (5, 0), (5, 0), (5, 0)]) (k := 168) (k2 := 192) (d := 24) (ty := .array .long) hc (zb_ABle hab hab2 (by omega)) he fl_RX12_87 fc_X12 ⟨(RX12, TX12, 41), rfl, rfl, by decide +kernel⟩ (by first | exact hT _ (by omega) (by omega) | (rw [hT _ (by omega) (by omega)]; exact hk0) | exact z_Tu_s | (simp only [z_Tu, z_Tr]; first | rfl | (rw [hT _ (by omega) (by omega)]; rfl) | simp)) (by omega) rfl (by decide) rfl dX12_init_206 ?_
  show z_VB κ _ 193 b _ _ _ _ _ _
  rw [z_Tu_uu]
  refine zb_aload_n (i := 0) 0 hc dX12_init_209 rfl rfl ?_
  refine zb_sipush hc dX12_init_210 rfl ?_
  refine zb_newI (NN := 340) hc (fun y => hst92 _ _ (by omega)) (by (try simp only [z_Tu, z_Tr]); first | (rw [hT _ (by omega) (by omega)]; rfl) | (simp; rw [hT _ (by omega) (by omega)]; rfl) | rfl) (z_t1 57 rfl rfl) (by decide) rfl (by decide) (Nat.le_of_ble_eq_true rfl) (Nat.le_of_ble_eq_true rfl) dX12_init_213 ?_
  refine zb_putR (ks := [(0, 0), (4, 1), (0, 0), (4, 2), (0, 0), (4, 3), (4, 4), (4, 5), (4, 6), (4, 7), (4, 8), (0, 0), (4, 9), (0, 0), (4, 10), (4, 11), (4, 12), (4, 13), (0, 0), (4, 14), (0, 0), (0, 0), (0, 0), (4, 15), (4, 16), (4, 17), (4, 18), (4, 19), (4, 20), (4, 21), (4, 22), (0, 0), (4, 23), (4, 24), (5, 0), (5, 0), (1, 0), (5, 0), (5, 0), (5, 0), (5, 0)]) (k := 168) (k2 := 193) (d := 25) (ty := .array .int) hc (zb_ABle hab hab2 (by omega)) he fl_RX12_90 fc_X12 ⟨(RX12, TX12, 41), rfl, rfl, by decide +kernel⟩ (by first | exact hT _ (by omega) (by omega) | (rw [hT _ (by omega) (by omega)]; exact hk0) | exact z_Tu_s | (simp only [z_Tu, z_Tr]; first | rfl | (rw [hT _ (by omega) (by omega)]; rfl) | simp)) (by omega) rfl (by decide) rfl dX12_init_215 ?_
  show z_VB κ _ 194 b _ _ _ _ _ _
  rw [z_Tu_uu]
  refine zb_aload_n (i := 0) 0 hc dX12_init_218 rfl rfl ?_
  refine zb_sipush hc dX12_init_219 rfl ?_
  refine zb_newZ (NN := 340) hc (fun y => hst92 _ _ (by omega)) (by (try simp only [z_Tu, z_Tr]); first | (rw [hT _ (by omega) (by omega)]; rfl) | (simp; rw [hT _ (by omega) (by omega)]; rfl) | rfl) (z_t2 50 rfl rfl) (by decide) rfl (by decide) (Nat.le_of_ble_eq_true rfl) (Nat.le_of_ble_eq_true rfl) dX12_init_222 ?_
  refine zb_putR (ks := [(0, 0), (4, 1), (0, 0), (4, 2), (0, 0), (4, 3), (4, 4), (4, 5), (4, 6), (4, 7), (4, 8), (0, 0), (4, 9), (0, 0), (4, 10), (4, 11), (4, 12), (4, 13), (0, 0), (4, 14), (0, 0), (0, 0), (0, 0), (4, 15), (4, 16), (4, 17), (4, 18), (4, 19), (4, 20), (4, 21), (4, 22), (0, 0), (4, 23), (4, 24), (4, 25), (5, 0), (1, 0), (5, 0), (5, 0), (5, 0), (5, 0)]) (k := 168) (k2 := 194) (d := 26) (ty := .array .boolean) hc (zb_ABle hab hab2 (by omega)) he fl_RX12_93 fc_X12 ⟨(RX12, TX12, 41), rfl, rfl, by decide +kernel⟩ (by first | exact hT _ (by omega) (by omega) | (rw [hT _ (by omega) (by omega)]; exact hk0) | exact z_Tu_s | (simp only [z_Tu, z_Tr]; first | rfl | (rw [hT _ (by omega) (by omega)]; rfl) | simp)) (by omega) rfl (by decide) rfl dX12_init_224 ?_
  show z_VB κ _ 195 b _ _ _ _ _ _
  rw [z_Tu_uu]
  refine zb_aload_n (i := 0) 0 hc dX12_init_227 rfl rfl ?_
  refine zb_sipush hc dX12_init_228 rfl ?_
  refine zb_newJ (NN := 425) hc (fun y => hst92 _ _ (by omega)) (by (try simp only [z_Tu, z_Tr]); first | (rw [hT _ (by omega) (by omega)]; rfl) | (simp; rw [hT _ (by omega) (by omega)]; rfl) | rfl) (z_t1 218 rfl rfl) (by decide) rfl (by decide) (Nat.le_of_ble_eq_true rfl) (Nat.le_of_ble_eq_true rfl) dX12_init_231 ?_
  refine zb_putR (ks := [(0, 0), (4, 1), (0, 0), (4, 2), (0, 0), (4, 3), (4, 4), (4, 5), (4, 6), (4, 7), (4, 8), (0, 0), (4, 9), (0, 0), (4, 10), (4, 11), (4, 12), (4, 13), (0, 0), (4, 14), (0, 0), (0, 0), (0, 0), (4, 15), (4, 16), (4, 17), (4, 18), (4, 19), (4, 20), (4, 21), (4, 22), (0, 0), (4, 23), (4, 24), (4, 25), (4, 26), (1, 0), (5, 0), (5, 0), (5, 0), (5, 0)]) (k := 168) (k2 := 195) (d := 27) (ty := .array .long) hc (zb_ABle hab hab2 (by omega)) he fl_RX12_97 fc_X12 ⟨(RX12, TX12, 41), rfl, rfl, by decide +kernel⟩ (by first | exact hT _ (by omega) (by omega) | (rw [hT _ (by omega) (by omega)]; exact hk0) | exact z_Tu_s | (simp only [z_Tu, z_Tr]; first | rfl | (rw [hT _ (by omega) (by omega)]; rfl) | simp)) (by omega) rfl (by decide) rfl dX12_init_233 ?_
  show z_VB κ _ 196 b _ _ _ _ _ _
  rw [z_Tu_uu]
  refine zb_aload_n (i := 0) 0 hc dX12_init_236 rfl rfl ?_
  refine zb_sipush hc dX12_init_237 rfl ?_
  refine zb_newJ (NN := 425) hc (fun y => hst92 _ _ (by omega)) (by (try simp only [z_Tu, z_Tr]); first | (rw [hT _ (by omega) (by omega)]; rfl) | (simp; rw [hT _ (by omega) (by omega)]; rfl) | rfl) (z_t1 218 rfl rfl) (by decide) rfl (by decide) (Nat.le_of_ble_eq_true rfl) (Nat.le_of_ble_eq_true rfl) dX12_init_240 ?_
  refine zb_putR (ks := [(0, 0), (4, 1), (0, 0), (4, 2), (0, 0), (4, 3), (4, 4), (4, 5), (4, 6), (4, 7), (4, 8), (0, 0), (4, 9), (0, 0), (4, 10), (4, 11), (4, 12), (4, 13), (0, 0), (4, 14), (0, 0), (0, 0), (0, 0), (4, 15), (4, 16), (4, 17), (4, 18), (4, 19), (4, 20), (4, 21), (4, 22), (0, 0), (4, 23), (4, 24), (4, 25), (4, 26), (1, 0), (4, 27), (5, 0), (5, 0), (5, 0)]) (k := 168) (k2 := 196) (d := 28) (ty := .array .long) hc (zb_ABle hab hab2 (by omega)) he fl_RX12_100 fc_X12 ⟨(RX12, TX12, 41), rfl, rfl, by decide +kernel⟩ (by first | exact hT _ (by omega) (by omega) | (rw [hT _ (by omega) (by omega)]; exact hk0) | exact z_Tu_s | (simp only [z_Tu, z_Tr]; first | rfl | (rw [hT _ (by omega) (by omega)]; rfl) | simp)) (by omega) rfl (by decide) rfl dX12_init_242 ?_
  show z_VB κ _ 197 b _ _ _ _ _ _
  rw [z_Tu_uu]
  refine zb_aload_n (i := 0) 0 hc dX12_init_245 rfl rfl ?_
  refine zb_sipush hc dX12_init_246 rfl ?_
  refine zb_newJ (NN := 1445) hc (fun y => hst92 _ _ (by omega)) (by (try simp only [z_Tu, z_Tr]); first | (rw [hT _ (by omega) (by omega)]; rfl) | (simp; rw [hT _ (by omega) (by omega)]; rfl) | rfl) (z_t1 218 rfl rfl) (by decide) rfl (by decide) (Nat.le_of_ble_eq_true rfl) (Nat.le_of_ble_eq_true rfl) dX12_init_249 ?_
  refine zb_putR (ks := [(0, 0), (4, 1), (0, 0), (4, 2), (0, 0), (4, 3), (4, 4), (4, 5), (4, 6), (4, 7), (4, 8), (0, 0), (4, 9), (0, 0), (4, 10), (4, 11), (4, 12), (4, 13), (0, 0), (4, 14), (0, 0), (0, 0), (0, 0), (4, 15), (4, 16), (4, 17), (4, 18), (4, 19), (4, 20), (4, 21), (4, 22), (0, 0), (4, 23), (4, 24), (4, 25), (4, 26), (1, 0), (4, 27), (4, 28), (5, 0), (5, 0)]) (k := 168) (k2 := 197) (d := 29) (ty := .array .long) hc (zb_ABle hab hab2 (by omega)) he fl_RX12_103 fc_X12 ⟨(RX12, TX12, 41), rfl, rfl, by decide +kernel⟩ (by first | exact hT _ (by omega) (by omega) | (rw [hT _ (by omega) (by omega)]; exact hk0) | exact z_Tu_s | (simp only [z_Tu, z_Tr]; first | rfl | (rw [hT _ (by omega) (by omega)]; rfl) | simp)) (by omega) rfl (by decide) rfl dX12_init_251 ?_
  show z_VB κ _ 198 b _ _ _ _ _ _
  rw [z_Tu_uu]
  refine zb_aload_n (i := 0) 0 hc dX12_init_254 rfl rfl ?_
  refine zb_bipush hc dX12_init_255 rfl ?_
  refine zb_newI (NN := 25) hc (fun y => hst92 _ _ (by omega)) (by (try simp only [z_Tu, z_Tr]); first | (rw [hT _ (by omega) (by omega)]; rfl) | (simp; rw [hT _ (by omega) (by omega)]; rfl) | rfl) (z_t1 57 rfl rfl) (by decide) rfl (by decide) (Nat.le_of_ble_eq_true rfl) (Nat.le_of_ble_eq_true rfl) dX12_init_257 ?_
  refine zb_putR (ks := [(0, 0), (4, 1), (0, 0), (4, 2), (0, 0), (4, 3), (4, 4), (4, 5), (4, 6), (4, 7), (4, 8), (0, 0), (4, 9), (0, 0), (4, 10), (4, 11), (4, 12), (4, 13), (0, 0), (4, 14), (0, 0), (0, 0), (0, 0), (4, 15), (4, 16), (4, 17), (4, 18), (4, 19), (4, 20), (4, 21), (4, 22), (0, 0), (4, 23), (4, 24), (4, 25), (4, 26), (1, 0), (4, 27), (4, 28), (4, 29), (5, 0)]) (k := 168) (k2 := 198) (d := 30) (ty := .array .int) hc (zb_ABle hab hab2 (by omega)) he fl_RX12_106 fc_X12 ⟨(RX12, TX12, 41), rfl, rfl, by decide +kernel⟩ (by first | exact hT _ (by omega) (by omega) | (rw [hT _ (by omega) (by omega)]; exact hk0) | exact z_Tu_s | (simp only [z_Tu, z_Tr]; first | rfl | (rw [hT _ (by omega) (by omega)]; rfl) | simp)) (by omega) rfl (by decide) rfl dX12_init_259 ?_
  show z_VB κ _ 199 b _ _ _ _ _ _
  rw [z_Tu_uu]
  refine zb_T (T2 := z_Tr T 168 (168 + 31)) (fun j hj => ?_) ?_
  · by_cases h0 : j = 168
    · subst h0
      first | (simp only [z_Tu, z_Tr]; simp; rfl) | (unfold z_Tr; rw [if_pos (by omega)]; simp only [z_Tu, z_Tr]; simp; rfl)
    · simp only [z_Tu, z_Tr, if_neg h0]
      by_cases h3 : j < 168
      · rw [if_neg (by omega)]
      · rw [if_pos (by omega), hT j (by omega) (by omega)]
        obtain ⟨i, hi, rfl⟩ : ∃ i, i < 30 ∧ j = 168 + 1 + i := ⟨j - 168 - 1, by omega, by omega⟩
        exact zq_X12 i hi
  exact zb_ret hc he rfl rfl rfl rfl rfl dX12_init_262
