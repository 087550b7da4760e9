theorem dX5_init_0 : decode cX5_init 0 = .ok (.aload_n 0, 1) := by decide +kernel
theorem dX5_init_1 : decode cX5_init 1 = .ok (.invokespecial 3, 3) := by decide +kernel
theorem dX5_init_4 : decode cX5_init 4 = .ok (.aload_n 0, 1) := by decide +kernel
theorem dX5_init_5 : decode cX5_init 5 = .ok (.sipush 780, 3) := by decide +kernel
theorem dX5_init_8 : decode cX5_init 8 = .ok (.newarray .int, 2) := by decide +kernel
theorem dX5_init_10 : decode cX5_init 10 = .ok (.putfield 9, 3) := by decide +kernel
theorem dX5_init_13 : decode cX5_init 13 = .ok (.aload_n 0, 1) := by decide +kernel
theorem dX5_init_14 : decode cX5_init 14 = .ok (.sipush 780, 3) := by decide +kernel
theorem dX5_init_17 : decode cX5_init 17 = .ok (.newarray .long, 2) := by decide +kernel
theorem dX5_init_19 : decode cX5_init 19 = .ok (.putfield 15, 3) := by decide +kernel
theorem dX5_init_22 : decode cX5_init 22 = .ok (.aload_n 0, 1) := by decide +kernel
theorem dX5_init_23 : decode cX5_init 23 = .ok (.sipush 2635, 3) := by decide +kernel
theorem dX5_init_26 : decode cX5_init 26 = .ok (.newarray .long, 2) := by decide +kernel
theorem dX5_init_28 : decode cX5_init 28 = .ok (.putfield 19, 3) := by decide +kernel
theorem dX5_init_31 : decode cX5_init 31 = .ok (.aload_n 0, 1) := by decide +kernel
theorem dX5_init_32 : decode cX5_init 32 = .ok (.sipush 780, 3) := by decide +kernel
theorem dX5_init_35 : decode cX5_init 35 = .ok (.newarray .int, 2) := by decide +kernel
theorem dX5_init_37 : decode cX5_init 37 = .ok (.putfield 22, 3) := by decide +kernel
theorem dX5_init_40 : decode cX5_init 40 = .ok (.aload_n 0, 1) := by decide +kernel
theorem dX5_init_41 : decode cX5_init 41 = .ok (.sipush 780, 3) := by decide +kernel
theorem dX5_init_44 : decode cX5_init 44 = .ok (.newarray .int, 2) := by decide +kernel
theorem dX5_init_46 : decode cX5_init 46 = .ok (.putfield 25, 3) := by decide +kernel
theorem dX5_init_49 : decode cX5_init 49 = .ok (.aload_n 0, 1) := by decide +kernel
theorem dX5_init_50 : decode cX5_init 50 = .ok (.iconst 0, 1) := by decide +kernel
theorem dX5_init_51 : decode cX5_init 51 = .ok (.putfield 28, 3) := by decide +kernel
theorem dX5_init_54 : decode cX5_init 54 = .ok (.aload_n 0, 1) := by decide +kernel
theorem dX5_init_55 : decode cX5_init 55 = .ok (.iconst 0, 1) := by decide +kernel
theorem dX5_init_56 : decode cX5_init 56 = .ok (.putfield 32, 3) := by decide +kernel
theorem dX5_init_59 : decode cX5_init 59 = .ok (.aload_n 0, 1) := by decide +kernel
theorem dX5_init_60 : decode cX5_init 60 = .ok (.iconst 0, 1) := by decide +kernel
theorem dX5_init_61 : decode cX5_init 61 = .ok (.putfield 35, 3) := by decide +kernel
theorem dX5_init_64 : decode cX5_init 64 = .ok (.aload_n 0, 1) := by decide +kernel
theorem dX5_init_65 : decode cX5_init 65 = .ok (.iconst (-1), 1) := by decide +kernel
theorem dX5_init_66 : decode cX5_init 66 = .ok (.putfield 38, 3) := by decide +kernel
theorem dX5_init_69 : decode cX5_init 69 = .ok (.aload_n 0, 1) := by decide +kernel
theorem dX5_init_70 : decode cX5_init 70 = .ok (.iconst 0, 1) := by decide +kernel
theorem dX5_init_71 : decode cX5_init 71 = .ok (.putfield 41, 3) := by decide +kernel
theorem dX5_init_74 : decode cX5_init 74 = .ok (.aload_n 0, 1) := by decide +kernel
theorem dX5_init_75 : decode cX5_init 75 = .ok (.iconst 0, 1) := by decide +kernel
theorem dX5_init_76 : decode cX5_init 76 = .ok (.putfield 45, 3) := by decide +kernel
theorem dX5_init_79 : decode cX5_init 79 = .ok (.return_, 1) := by decide +kernel
theorem zq_X5 : ∀ i, i < 5 → z_T0 (134 + 1 + i) = z_T (134 + 1 + i) := fun i hi => match i, hi with | 0, _ => rfl | 1, _ => rfl | 2, _ => rfl | 3, _ => rfl | 4, _ => rfl | _ + 5, h => absurd h (by omega)
def S_X5 (st : z_St) : z_St := z_up (z_up (z_up (z_up (z_up (z_up (z_up (z_up st 134 3 138) 134 4 139) 134 5 0) 134 6 0) 134 7 0) 134 8 (-1)) 134 9 0) 134 10 0
theorem zs_X5 {st : z_St} {M M2 : Nat} (h : ∀ x y : Int, (M : Int) ≤ x → st x y = 0) (hk : M ≤ M2 ∧ 134 < M2) : ∀ x y : Int, (M2 : Int) ≤ x → S_X5 st x y = 0 := by
  intro x y hx
  unfold S_X5
  repeat rw [z_up_n (by omega)]
  exact h x y (by omega)
set_option maxRecDepth 100000 in
set_option maxHeartbeats 4000000 in
theorem b_X5 {l : Launch} (hl : l.stackTraces = false) {T : Nat → z_Ty} {b : Nat} {st : z_St} (hT : ∀ j, 134 ≤ j → j < 134 + 6 → T j = z_T0 j) (hst : ∀ x y : Int, ((134 + 1 : Nat) : Int) ≤ x → st x y = 0) : z_MB l yX5_init cX5_init 1 8 5 5755 T 135 b [.ref (b + 134)] st (z_Tr T 134 (134 + 6)) 140 (S_X5 st) := by
  refine z_ofB hl (by decide +kernel) rfl (Nat.le_of_ble_eq_true rfl) (fun κ hc hy hab hab2 he => ?_)
  show z_VB κ T 135 b 0 0 0 [(0, .ref (b + 134))] [] st
  refine zb_aload_n (i := 0) 0 hc dX5_init_0 rfl rfl ?_
  refine zb_objInit hc (z_t1 223 rfl rfl) zo_1 zo_2 (by decide) (Nat.le_of_ble_eq_true rfl) dX5_init_1 ?_
  refine zb_aload_n (i := 0) 0 hc dX5_init_4 rfl rfl ?_
  refine zb_sipush hc dX5_init_5 rfl ?_
  refine zb_newI (NN := 780) hc (fun y => hst _ _ (by omega)) (by (try simp only [z_Tu, z_Tr]); first | (rw [hT _ (by omega) (by omega)]; rfl) | (simp; rw [hT _ (by omega) (by omega)]; rfl) | rfl) (z_t1 56 rfl rfl) (by decide) rfl (by decide) (Nat.le_of_ble_eq_true rfl) (Nat.le_of_ble_eq_true rfl) dX5_init_8 ?_
  refine zb_putR (ks := [(5, 0), (5, 0), (5, 0), (5, 0), (5, 0), (0, 0), (0, 0), (0, 0), (0, 0), (2, 0), (2, 0)]) (k := 134) (k2 := 135) (d := 1) (ty := .array .int) hc (zb_ABle hab hab2 (by omega)) he fl_RX5_9 fc_X5 ⟨(RX5, TX5, 11), rfl, rfl, by decide +kernel⟩ (by first | exact hT _ (by omega) (by omega) | (rw [hT _ (by omega) (by omega)]; exact hk0) | exact z_Tu_s | (simp only [z_Tu, z_Tr]; first | rfl | (rw [hT _ (by omega) (by omega)]; rfl) | simp)) (by omega) rfl (by decide) rfl dX5_init_10 ?_
  show z_VB κ _ 136 b _ _ _ _ _ _
  refine zb_aload_n (i := 0) 0 hc dX5_init_13 rfl rfl ?_
  refine zb_sipush hc dX5_init_14 rfl ?_
  refine zb_newJ (NN := 780) hc (fun y => hst _ _ (by omega)) (by (try simp only [z_Tu, z_Tr]); first | (rw [hT _ (by omega) (by omega)]; rfl) | (simp; rw [hT _ (by omega) (by omega)]; rfl) | rfl) (z_t1 217 rfl rfl) (by decide) rfl (by decide) (Nat.le_of_ble_eq_true rfl) (Nat.le_of_ble_eq_true rfl) dX5_init_17 ?_
  refine zb_putR (ks := [(4, 1), (5, 0), (5, 0), (5, 0), (5, 0), (0, 0), (0, 0), (0, 0), (0, 0), (2, 0), (2, 0)]) (k := 134) (k2 := 136) (d := 2) (ty := .array .long) hc (zb_ABle hab hab2 (by omega)) he fl_RX5_15 fc_X5 ⟨(RX5, TX5, 11), rfl, rfl, by decide +kernel⟩ (by first | exact hT _ (by omega) (by omega) | (rw [hT _ (by omega) (by omega)]; exact hk0) | exact z_Tu_s | (simp only [z_Tu, z_Tr]; first | rfl | (rw [hT _ (by omega) (by omega)]; rfl) | simp)) (by omega) rfl (by decide) rfl dX5_init_19 ?_
  show z_VB κ _ 137 b _ _ _ _ _ _
  rw [z_Tu_uu]
  refine zb_aload_n (i := 0) 0 hc dX5_init_22 rfl rfl ?_
  refine zb_sipush hc dX5_init_23 rfl ?_
  refine zb_newJ (NN := 2635) hc (fun y => hst _ _ (by omega)) (by (try simp only [z_Tu, z_Tr]); first | (rw [hT _ (by omega) (by omega)]; rfl) | (simp; rw [hT _ (by omega) (by omega)]; rfl) | rfl) (z_t1 217 rfl rfl) (by decide) rfl (by decide) (Nat.le_of_ble_eq_true rfl) (Nat.le_of_ble_eq_true rfl) dX5_init_26 ?_
  refine zb_putR (ks := [(4, 1), (4, 2), (5, 0), (5, 0), (5, 0), (0, 0), (0, 0), (0, 0), (0, 0), (2, 0), (2, 0)]) (k := 134) (k2 := 137) (d := 3) (ty := .array .long) hc (zb_ABle hab hab2 (by omega)) he fl_RX5_19 fc_X5 ⟨(RX5, TX5, 11), rfl, rfl, by decide +kernel⟩ (by first | exact hT _ (by omega) (by omega) | (rw [hT _ (by omega) (by omega)]; exact hk0) | exact z_Tu_s | (simp only [z_Tu, z_Tr]; first | rfl | (rw [hT _ (by omega) (by omega)]; rfl) | simp)) (by omega) rfl (by decide) rfl dX5_init_28 ?_
  show z_VB κ _ 138 b _ _ _ _ _ _
  rw [z_Tu_uu]
  refine zb_aload_n (i := 0) 0 hc dX5_init_31 rfl rfl ?_
  refine zb_sipush hc dX5_init_32 rfl ?_
  refine zb_newI (NN := 780) hc (fun y => hst _ _ (by omega)) (by (try simp only [z_Tu, z_Tr]); first | (rw [hT _ (by omega) (by omega)]; rfl) | (simp; rw [hT _ (by omega) (by omega)]; rfl) | rfl) (z_t1 56 rfl rfl) (by decide) rfl (by decide) (Nat.le_of_ble_eq_true rfl) (Nat.le_of_ble_eq_true rfl) dX5_init_35 ?_
  refine zb_putV (ks := [(4, 1), (4, 2), (4, 3), (5, 0), (5, 0), (0, 0), (0, 0), (0, 0), (0, 0), (2, 0), (2, 0)]) (k := 134) (k2 := 138) (ty := .array .int) (kI := 134) (jI := 3) (k2I := 138) hc (zb_ABle hab hab2 (by omega)) he fl_RX5_22 fc_X5 ⟨(RX5, TX5, 11), rfl, rfl, by decide +kernel⟩ (by first | exact hT _ (by omega) (by omega) | (rw [hT _ (by omega) (by omega)]; exact hk0) | exact z_Tu_s | (simp only [z_Tu, z_Tr]; first | rfl | (rw [hT _ (by omega) (by omega)]; rfl) | simp)) (by omega) rfl rfl rfl (by decide) rfl dX5_init_37 ?_
  have hst23 : ∀ x y : Int, ((139 : Nat) : Int) ≤ x → (z_up st 134 3 138) x y = 0 := z_st_up (z_st_le hst (by omega)) (by omega)
  show z_VB κ _ 139 b _ _ _ _ _ _
  rw [z_Tu_uu]
  refine zb_aload_n (i := 0) 0 hc dX5_init_40 rfl rfl ?_
  refine zb_sipush hc dX5_init_41 rfl ?_
  refine zb_newI (NN := 780) hc (fun y => hst23 _ _ (by omega)) (by (try simp only [z_Tu, z_Tr]); first | (rw [hT _ (by omega) (by omega)]; rfl) | (simp; rw [hT _ (by omega) (by omega)]; rfl) | rfl) (z_t1 56 rfl rfl) (by decide) rfl (by decide) (Nat.le_of_ble_eq_true rfl) (Nat.le_of_ble_eq_true rfl) dX5_init_44 ?_
  refine zb_putV (ks := [(4, 1), (4, 2), (4, 3), (3, 0), (5, 0), (0, 0), (0, 0), (0, 0), (0, 0), (2, 0), (2, 0)]) (k := 134) (k2 := 139) (ty := .array .int) (kI := 134) (jI := 4) (k2I := 139) hc (zb_ABle hab hab2 (by omega)) he fl_RX5_25 fc_X5 ⟨(RX5, TX5, 11), rfl, rfl, by decide +kernel⟩ (by first | exact hT _ (by omega) (by omega) | (rw [hT _ (by omega) (by omega)]; exact hk0) | exact z_Tu_s | (simp only [z_Tu, z_Tr]; first | rfl | (rw [hT _ (by omega) (by omega)]; rfl) | simp)) (by omega) rfl rfl rfl (by decide) rfl dX5_init_46 ?_
  have hst30 : ∀ x y : Int, ((140 : Nat) : Int) ≤ x → (z_up (z_up st 134 3 138) 134 4 139) x y = 0 := z_st_up (z_st_le hst23 (by omega)) (by omega)
  show z_VB κ _ 140 b _ _ _ _ _ _
  rw [z_Tu_uu]
  refine zb_aload_n (i := 0) 0 hc dX5_init_49 rfl rfl ?_
  refine zb_iconst hc dX5_init_50 ?_
  refine zb_putI (ks := [(4, 1), (4, 2), (4, 3), (3, 0), (3, 0), (0, 0), (0, 0), (0, 0), (0, 0), (2, 0), (2, 0)]) (k := 134) (kI := 134) (jI := 5) (x := 0) hc (zb_ABle hab hab2 (by omega)) he fl_RX5_28 fc_X5 ⟨(RX5, TX5, 11), rfl, rfl, by decide +kernel⟩ (by first | exact hT _ (by omega) (by omega) | (rw [hT _ (by omega) (by omega)]; exact hk0) | exact z_Tu_s | (simp only [z_Tu, z_Tr]; first | rfl | (rw [hT _ (by omega) (by omega)]; rfl) | simp)) (by omega) rfl rfl rfl dX5_init_51 ?_
  have hst36 : ∀ x y : Int, ((140 : Nat) : Int) ≤ x → (z_up (z_up (z_up st 134 3 138) 134 4 139) 134 5 0) x y = 0 := z_st_up (z_st_le hst30 (by omega)) (by omega)
  refine zb_aload_n (i := 0) 0 hc dX5_init_54 rfl rfl ?_
  refine zb_iconst hc dX5_init_55 ?_
  refine zb_putI (ks := [(4, 1), (4, 2), (4, 3), (3, 0), (3, 0), (0, 0), (0, 0), (0, 0), (0, 0), (2, 0), (2, 0)]) (k := 134) (kI := 134) (jI := 6) (x := 0) hc (zb_ABle hab hab2 (by omega)) he fl_RX5_32 fc_X5 ⟨(RX5, TX5, 11), rfl, rfl, by decide +kernel⟩ (by first | exact hT _ (by omega) (by omega) | (rw [hT _ (by omega) (by omega)]; exact hk0) | exact z_Tu_s | (simp only [z_Tu, z_Tr]; first | rfl | (rw [hT _ (by omega) (by omega)]; rfl) | simp)) (by omega) rfl rfl rfl dX5_init_56 ?_
  have hst40 : ∀ x y : Int, ((140 : Nat) : Int) ≤ x → (z_up (z_up (z_up (z_up st 134 3 138) 134 4 139) 134 5 0) 134 6 0) x y = 0 := z_st_up (z_st_le hst36 (by omega)) (by omega)
  refine zb_aload_n (i := 0) 0 hc dX5_init_59 rfl rfl ?_
  refine zb_iconst hc dX5_init_60 ?_
  refine zb_putI (ks := [(4, 1), (4, 2), (4, 3), (3, 0), (3, 0), (0, 0), (0, 0), (0, 0), (0, 0), (2, 0), (2, 0)]) (k := 134) (kI := 134) (jI := 7) (x := 0) hc (zb_ABle hab hab2 (by omega)) he fl_RX5_35 fc_X5 ⟨(RX5, TX5, 11), rfl, rfl, by decide +kernel⟩ (by first | exact hT _ (by omega) (by omega) | (rw [hT _ (by omega) (by omega)]; exact hk0) | exact z_Tu_s | (simp only [z_Tu, z_Tr]; first | rfl | (rw [hT _ (by omega) (by omega)]; rfl) | simp)) (by omega) rfl rfl rfl dX5_init_61 ?_
  have hst44 : ∀ x y : Int, ((140 : Nat) : Int) ≤ x → (z_up (z_up (z_up (z_up (z_up st 134 3 138) 134 4 139) 134 5 0) 134 6 0) 134 7 0) x y = 0 := z_st_up (z_st_le hst40 (by omega)) (by omega)
  refine zb_aload_n (i := 0) 0 hc dX5_init_64 rfl rfl ?_
  refine zb_iconst hc dX5_init_65 ?_
  refine zb_putI (ks := [(4, 1), (4, 2), (4, 3), (3, 0), (3, 0), (0, 0), (0, 0), (0, 0), (0, 0), (2, 0), (2, 0)]) (k := 134) (kI := 134) (jI := 8) (x := (-1)) hc (zb_ABle hab hab2 (by omega)) he fl_RX5_38 fc_X5 ⟨(RX5, TX5, 11), rfl, rfl, by decide +kernel⟩ (by first | exact hT _ (by omega) (by omega) | (rw [hT _ (by omega) (by omega)]; exact hk0) | exact z_Tu_s | (simp only [z_Tu, z_Tr]; first | rfl | (rw [hT _ (by omega) (by omega)]; rfl) | simp)) (by omega) rfl rfl rfl dX5_init_66 ?_
  have hst48 : ∀ x y : Int, ((140 : Nat) : Int) ≤ x → (z_up (z_up (z_up (z_up (z_up (z_up st 134 3 138) 134 4 139) 134 5 0) 134 6 0) 134 7 0) 134 8 (-1)) x y = 0 := z_st_up (z_st_le hst44 (by omega)) (by omega)
  refine zb_aload_n (i := 0) 0 hc dX5_init_69 rfl rfl ?_
  refine zb_iconst hc dX5_init_70 ?_
  refine zb_putZ (ks := [(4, 1), (4, 2), (4, 3), (3, 0), (3, 0), (0, 0), (0, 0), (0, 0), (0, 0), (2, 0), (2, 0)]) (k := 134) (kI := 134) (jI := 9) hc (zb_ABle hab hab2 (by omega)) he fl_RX5_41 fc_X5 ⟨(RX5, TX5, 11), rfl, rfl, by decide +kernel⟩ (by first | exact hT _ (by omega) (by omega) | (rw [hT _ (by omega) (by omega)]; exact hk0) | exact z_Tu_s | (simp only [z_Tu, z_Tr]; first | rfl | (rw [hT _ (by omega) (by omega)]; rfl) | simp)) (by omega) rfl rfl rfl dX5_init_71 ?_
  have hst52 : ∀ x y : Int, ((140 : Nat) : Int) ≤ x → (z_up (z_up (z_up (z_up (z_up (z_up (z_up st 134 3 138) 134 4 139) 134 5 0) 134 6 0) 134 7 0) 134 8 (-1)) 134 9 0) x y = 0 := z_st_up (z_st_le hst48 (by omega)) (by omega)
  refine zb_aload_n (i := 0) 0 hc dX5_init_74 rfl rfl ?_
  refine zb_iconst hc dX5_init_75 ?_
  refine zb_putZ (ks := [(4, 1), (4, 2), (4, 3), (3, 0), (3, 0), (0, 0), (0, 0), (0, 0), (0, 0), (2, 0), (2, 0)]) (k := 134) (kI := 134) (jI := 10) hc (zb_ABle hab hab2 (by omega)) he fl_RX5_45 fc_X5 ⟨(RX5, TX5, 11), rfl, rfl, by decide +kernel⟩ (by first | exact hT _ (by omega) (by omega) | (rw [hT _ (by omega) (by omega)]; exact hk0) | exact z_Tu_s | (simp only [z_Tu, z_Tr]; first | rfl | (rw [hT _ (by omega) (by omega)]; rfl) | simp)) (by omega) rfl rfl rfl dX5_init_76 ?_
  have hst56 : ∀ x y : Int, ((140 : Nat) : Int) ≤ x → (z_up (z_up (z_up (z_up (z_up (z_up (z_up (z_up st 134 3 138) 134 4 139) 134 5 0) 134 6 0) 134 7 0) 134 8 (-1)) 134 9 0) 134 10 0) x y = 0 := z_st_up (z_st_le hst52 (by omega)) (by omega)
  refine zb_T (T2 := z_Tr T 134 (134 + 6)) (fun j hj => ?_) ?_
  · by_cases h0 : j = 134
    · subst h0
      first | (simp only [z_Tu, z_Tr]; simp; rfl) | (unfold z_Tr; rw [if_pos (by omega)]; simp only [z_Tu, z_Tr]; simp; rfl)
    · simp only [z_Tu, z_Tr, if_neg h0]
      by_cases h3 : j < 134
      · rw [if_neg (by omega)]
      · rw [if_pos (by omega), hT j (by omega) (by omega)]
        obtain ⟨i, hi, rfl⟩ : ∃ i, i < 5 ∧ j = 134 + 1 + i := ⟨j - 134 - 1, by omega, by omega⟩
        exact zq_X5 i hi
  exact zb_ret hc he rfl rfl rfl rfl rfl dX5_init_79
