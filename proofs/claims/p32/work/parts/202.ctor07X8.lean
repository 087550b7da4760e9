theorem dX8_init_0 : decode cX8_init 0 = .ok (.aload_n 0, 1) := by decide +kernel
theorem dX8_init_1 : decode cX8_init 1 = .ok (.invokespecial 3, 3) := by decide +kernel
theorem dX8_init_4 : decode cX8_init 4 = .ok (.aload_n 0, 1) := by decide +kernel
theorem dX8_init_5 : decode cX8_init 5 = .ok (.sipush 340, 3) := by decide +kernel
theorem dX8_init_8 : decode cX8_init 8 = .ok (.newarray .long, 2) := by decide +kernel
theorem dX8_init_10 : decode cX8_init 10 = .ok (.putfield 9, 3) := by decide +kernel
theorem dX8_init_13 : decode cX8_init 13 = .ok (.aload_n 0, 1) := by decide +kernel
theorem dX8_init_14 : decode cX8_init 14 = .ok (.sipush 340, 3) := by decide +kernel
theorem dX8_init_17 : decode cX8_init 17 = .ok (.newarray .int, 2) := by decide +kernel
theorem dX8_init_19 : decode cX8_init 19 = .ok (.putfield 15, 3) := by decide +kernel
theorem dX8_init_22 : decode cX8_init 22 = .ok (.aload_n 0, 1) := by decide +kernel
theorem dX8_init_23 : decode cX8_init 23 = .ok (.bipush 20, 2) := by decide +kernel
theorem dX8_init_25 : decode cX8_init 25 = .ok (.newarray .boolean, 2) := by decide +kernel
theorem dX8_init_27 : decode cX8_init 27 = .ok (.putfield 19, 3) := by decide +kernel
theorem dX8_init_30 : decode cX8_init 30 = .ok (.aload_n 0, 1) := by decide +kernel
theorem dX8_init_31 : decode cX8_init 31 = .ok (.iconst 0, 1) := by decide +kernel
theorem dX8_init_32 : decode cX8_init 32 = .ok (.putfield 23, 3) := by decide +kernel
theorem dX8_init_35 : decode cX8_init 35 = .ok (.aload_n 0, 1) := by decide +kernel
theorem dX8_init_36 : decode cX8_init 36 = .ok (.iconst (-1), 1) := by decide +kernel
theorem dX8_init_37 : decode cX8_init 37 = .ok (.putfield 27, 3) := by decide +kernel
theorem dX8_init_40 : decode cX8_init 40 = .ok (.aload_n 0, 1) := by decide +kernel
theorem dX8_init_41 : decode cX8_init 41 = .ok (.ldc2_w 30, 3) := by decide +kernel
theorem dX8_init_44 : decode cX8_init 44 = .ok (.putfield 32, 3) := by decide +kernel
theorem dX8_init_47 : decode cX8_init 47 = .ok (.return_, 1) := by decide +kernel
theorem zq_X8 : ∀ i, i < 3 → z_T0 (140 + 1 + i) = z_T (140 + 1 + i) := fun i hi => match i, hi with | 0, _ => rfl | 1, _ => rfl | 2, _ => rfl | _ + 3, h => absurd h (by omega)
def S_X8 (st : z_St) : z_St := z_up (z_up (z_up st 140 3 0) 140 4 (-1)) 140 5 (-1)
theorem zs_X8 {st : z_St} {M M2 : Nat} (h : ∀ x y : Int, (M : Int) ≤ x → st x y = 0) (hk : M ≤ M2 ∧ 140 < M2) : ∀ x y : Int, (M2 : Int) ≤ x → S_X8 st x y = 0 := by
  intro x y hx
  unfold S_X8
  repeat rw [z_up_n (by omega)]
  exact h x y (by omega)
set_option maxRecDepth 100000 in
set_option maxHeartbeats 4000000 in
theorem b_X8 {l : Launch} (hl : l.stackTraces = false) {T : Nat → z_Ty} {b : Nat} {st : z_St} (hT : ∀ j, 140 ≤ j → j < 140 + 4 → T j = z_T0 j) (hst : ∀ x y : Int, ((140 + 1 : Nat) : Int) ≤ x → st x y = 0) : z_MB l yX8_init cX8_init 1 8 3 700 T 141 b [.ref (b + 140)] st (z_Tr T 140 (140 + 4)) 144 (S_X8 st) := by
  refine z_ofB hl (by decide +kernel) rfl (Nat.le_of_ble_eq_true rfl) (fun κ hc hy hab hab2 he => ?_)
  show z_VB κ T 141 b 0 0 0 [(0, .ref (b + 140))] [] st
  refine zb_aload_n (i := 0) 0 hc dX8_init_0 rfl rfl ?_
  refine zb_objInit hc (z_t2 25 rfl rfl) zo_1 zo_2 (by decide) (Nat.le_of_ble_eq_true rfl) dX8_init_1 ?_
  refine zb_aload_n (i := 0) 0 hc dX8_init_4 rfl rfl ?_
  refine zb_sipush hc dX8_init_5 rfl ?_
  refine zb_newJ (NN := 340) hc (fun y => hst _ _ (by omega)) (by (try simp only [z_Tu, z_Tr]); first | (rw [hT _ (by omega) (by omega)]; rfl) | (simp; rw [hT _ (by omega) (by omega)]; rfl) | rfl) (z_t1 217 rfl rfl) (by decide) rfl (by decide) (Nat.le_of_ble_eq_true rfl) (Nat.le_of_ble_eq_true rfl) dX8_init_8 ?_
  refine zb_putR (ks := [(5, 0), (5, 0), (5, 0), (0, 0), (0, 0), (1, 0)]) (k := 140) (k2 := 141) (d := 1) (ty := .array .long) hc (zb_ABle hab hab2 (by omega)) he fl_RX8_9 fc_X8 ⟨(RX8, TX8, 6), rfl, rfl, by decide +kernel⟩ (by first | exact hT _ (by omega) (by omega) | (rw [hT _ (by omega) (by omega)]; exact hk0) | exact z_Tu_s | (simp only [z_Tu, z_Tr]; first | rfl | (rw [hT _ (by omega) (by omega)]; rfl) | simp)) (by omega) rfl (by decide) rfl dX8_init_10 ?_
  show z_VB κ _ 142 b _ _ _ _ _ _
  refine zb_aload_n (i := 0) 0 hc dX8_init_13 rfl rfl ?_
  refine zb_sipush hc dX8_init_14 rfl ?_
  refine zb_newI (NN := 340) hc (fun y => hst _ _ (by omega)) (by (try simp only [z_Tu, z_Tr]); first | (rw [hT _ (by omega) (by omega)]; rfl) | (simp; rw [hT _ (by omega) (by omega)]; rfl) | rfl) (z_t1 56 rfl rfl) (by decide) rfl (by decide) (Nat.le_of_ble_eq_true rfl) (Nat.le_of_ble_eq_true rfl) dX8_init_17 ?_
  refine zb_putR (ks := [(4, 1), (5, 0), (5, 0), (0, 0), (0, 0), (1, 0)]) (k := 140) (k2 := 142) (d := 2) (ty := .array .int) hc (zb_ABle hab hab2 (by omega)) he fl_RX8_15 fc_X8 ⟨(RX8, TX8, 6), rfl, rfl, by decide +kernel⟩ (by first | exact hT _ (by omega) (by omega) | (rw [hT _ (by omega) (by omega)]; exact hk0) | exact z_Tu_s | (simp only [z_Tu, z_Tr]; first | rfl | (rw [hT _ (by omega) (by omega)]; rfl) | simp)) (by omega) rfl (by decide) rfl dX8_init_19 ?_
  show z_VB κ _ 143 b _ _ _ _ _ _
  rw [z_Tu_uu]
  refine zb_aload_n (i := 0) 0 hc dX8_init_22 rfl rfl ?_
  refine zb_bipush hc dX8_init_23 rfl ?_
  refine zb_newZ (NN := 20) hc (fun y => hst _ _ (by omega)) (by (try simp only [z_Tu, z_Tr]); first | (rw [hT _ (by omega) (by omega)]; rfl) | (simp; rw [hT _ (by omega) (by omega)]; rfl) | rfl) (z_t2 49 rfl rfl) (by decide) rfl (by decide) (Nat.le_of_ble_eq_true rfl) (Nat.le_of_ble_eq_true rfl) dX8_init_25 ?_
  refine zb_putR (ks := [(4, 1), (4, 2), (5, 0), (0, 0), (0, 0), (1, 0)]) (k := 140) (k2 := 143) (d := 3) (ty := .array .boolean) hc (zb_ABle hab hab2 (by omega)) he fl_RX8_19 fc_X8 ⟨(RX8, TX8, 6), rfl, rfl, by decide +kernel⟩ (by first | exact hT _ (by omega) (by omega) | (rw [hT _ (by omega) (by omega)]; exact hk0) | exact z_Tu_s | (simp only [z_Tu, z_Tr]; first | rfl | (rw [hT _ (by omega) (by omega)]; rfl) | simp)) (by omega) rfl (by decide) rfl dX8_init_27 ?_
  show z_VB κ _ 144 b _ _ _ _ _ _
  rw [z_Tu_uu]
  refine zb_aload_n (i := 0) 0 hc dX8_init_30 rfl rfl ?_
  refine zb_iconst hc dX8_init_31 ?_
  refine zb_putI (ks := [(4, 1), (4, 2), (4, 3), (0, 0), (0, 0), (1, 0)]) (k := 140) (kI := 140) (jI := 3) (x := 0) hc (zb_ABle hab hab2 (by omega)) he fl_RX8_23 fc_X8 ⟨(RX8, TX8, 6), rfl, rfl, by decide +kernel⟩ (by first | exact hT _ (by omega) (by omega) | (rw [hT _ (by omega) (by omega)]; exact hk0) | exact z_Tu_s | (simp only [z_Tu, z_Tr]; first | rfl | (rw [hT _ (by omega) (by omega)]; rfl) | simp)) (by omega) rfl rfl rfl dX8_init_32 ?_
  have hst22 : ∀ x y : Int, ((144 : Nat) : Int) ≤ x → (z_up st 140 3 0) x y = 0 := z_st_up (z_st_le hst (by omega)) (by omega)
  refine zb_aload_n (i := 0) 0 hc dX8_init_35 rfl rfl ?_
  refine zb_iconst hc dX8_init_36 ?_
  refine zb_putI (ks := [(4, 1), (4, 2), (4, 3), (0, 0), (0, 0), (1, 0)]) (k := 140) (kI := 140) (jI := 4) (x := (-1)) hc (zb_ABle hab hab2 (by omega)) he fl_RX8_27 fc_X8 ⟨(RX8, TX8, 6), rfl, rfl, by decide +kernel⟩ (by first | exact hT _ (by omega) (by omega) | (rw [hT _ (by omega) (by omega)]; exact hk0) | exact z_Tu_s | (simp only [z_Tu, z_Tr]; first | rfl | (rw [hT _ (by omega) (by omega)]; rfl) | simp)) (by omega) rfl rfl rfl dX8_init_37 ?_
  have hst26 : ∀ x y : Int, ((144 : Nat) : Int) ≤ x → (z_up (z_up st 140 3 0) 140 4 (-1)) x y = 0 := z_st_up (z_st_le hst22 (by omega)) (by omega)
  refine zb_aload_n (i := 0) 0 hc dX8_init_40 rfl rfl ?_
  refine zb_ldc2 (-1) hc kc_RX8_30 dX8_init_41 rfl ?_
  refine zb_putJ (ks := [(4, 1), (4, 2), (4, 3), (0, 0), (0, 0), (1, 0)]) (k := 140) (kI := 140) (jI := 5) (x := (-1)) hc (zb_ABle hab hab2 (by omega)) he fl_RX8_32 fc_X8 ⟨(RX8, TX8, 6), rfl, rfl, by decide +kernel⟩ (by first | exact hT _ (by omega) (by omega) | (rw [hT _ (by omega) (by omega)]; exact hk0) | exact z_Tu_s | (simp only [z_Tu, z_Tr]; first | rfl | (rw [hT _ (by omega) (by omega)]; rfl) | simp)) (by omega) rfl rfl rfl dX8_init_44 ?_
  have hst30 : ∀ x y : Int, ((144 : Nat) : Int) ≤ x → (z_up (z_up (z_up st 140 3 0) 140 4 (-1)) 140 5 (-1)) x y = 0 := z_st_up (z_st_le hst26 (by omega)) (by omega)
  refine zb_T (T2 := z_Tr T 140 (140 + 4)) (fun j hj => ?_) ?_
  · by_cases h0 : j = 140
    · subst h0
      first | (simp only [z_Tu, z_Tr]; simp; rfl) | (unfold z_Tr; rw [if_pos (by omega)]; simp only [z_Tu, z_Tr]; simp; rfl)
    · simp only [z_Tu, z_Tr, if_neg h0]
      by_cases h3 : j < 140
      · rw [if_neg (by omega)]
      · rw [if_pos (by omega), hT j (by omega) (by omega)]
        obtain ⟨i, hi, rfl⟩ : ∃ i, i < 3 ∧ j = 140 + 1 + i := ⟨j - 140 - 1, by omega, by omega⟩
        exact zq_X8 i hi
  exact zb_ret hc he rfl rfl rfl rfl rfl dX8_init_47
