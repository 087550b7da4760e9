theorem dX4_init_0 : decode cX4_init 0 = .ok (.aload_n 0, 1) := by decide +kernel
theorem dX4_init_1 : decode cX4_init 1 = .ok (.invokespecial 3, 3) := by decide +kernel
theorem dX4_init_4 : decode cX4_init 4 = .ok (.aload_n 0, 1) := by decide +kernel
theorem dX4_init_5 : decode cX4_init 5 = .ok (.bipush 6, 2) := by decide +kernel
theorem dX4_init_7 : decode cX4_init 7 = .ok (.anewarray 9, 3) := by decide +kernel
theorem dX4_init_10 : decode cX4_init 10 = .ok (.putfield 11, 3) := by decide +kernel
theorem dX4_init_13 : decode cX4_init 13 = .ok (.aload_n 0, 1) := by decide +kernel
theorem dX4_init_14 : decode cX4_init 14 = .ok (.iconst 0, 1) := by decide +kernel
theorem dX4_init_15 : decode cX4_init 15 = .ok (.putfield 17, 3) := by decide +kernel
theorem dX4_init_18 : decode cX4_init 18 = .ok (.aload_n 0, 1) := by decide +kernel
theorem dX4_init_19 : decode cX4_init 19 = .ok (.bipush 10, 2) := by decide +kernel
theorem dX4_init_21 : decode cX4_init 21 = .ok (.anewarray 21, 3) := by decide +kernel
theorem dX4_init_24 : decode cX4_init 24 = .ok (.putfield 23, 3) := by decide +kernel
theorem dX4_init_27 : decode cX4_init 27 = .ok (.aload_n 0, 1) := by decide +kernel
theorem dX4_init_28 : decode cX4_init 28 = .ok (.iconst 5, 1) := by decide +kernel
theorem dX4_init_29 : decode cX4_init 29 = .ok (.newarray .int, 2) := by decide +kernel
theorem dX4_init_31 : decode cX4_init 31 = .ok (.putfield 27, 3) := by decide +kernel
theorem dX4_init_34 : decode cX4_init 34 = .ok (.aload_n 0, 1) := by decide +kernel
theorem dX4_init_35 : decode cX4_init 35 = .ok (.iconst 0, 1) := by decide +kernel
theorem dX4_init_36 : decode cX4_init 36 = .ok (.putfield 31, 3) := by decide +kernel
theorem dX4_init_39 : decode cX4_init 39 = .ok (.aload_n 0, 1) := by decide +kernel
theorem dX4_init_40 : decode cX4_init 40 = .ok (.iconst 4, 1) := by decide +kernel
theorem dX4_init_41 : decode cX4_init 41 = .ok (.newarray .int, 2) := by decide +kernel
theorem dX4_init_43 : decode cX4_init 43 = .ok (.putfield 34, 3) := by decide +kernel
theorem dX4_init_46 : decode cX4_init 46 = .ok (.aload_n 0, 1) := by decide +kernel
theorem dX4_init_47 : decode cX4_init 47 = .ok (.iconst 0, 1) := by decide +kernel
theorem dX4_init_48 : decode cX4_init 48 = .ok (.putfield 37, 3) := by decide +kernel
theorem dX4_init_51 : decode cX4_init 51 = .ok (.iconst 0, 1) := by decide +kernel
theorem dX4_init_52 : decode cX4_init 52 = .ok (.istore_n 1, 1) := by decide +kernel
theorem dX4_init_53 : decode cX4_init 53 = .ok (.iload_n 1, 1) := by decide +kernel
theorem dX4_init_54 : decode cX4_init 54 = .ok (.bipush 6, 2) := by decide +kernel
theorem dX4_init_56 : decode cX4_init 56 = .ok (.if_icmp .ge 22, 3) := by decide +kernel
theorem dX4_init_59 : decode cX4_init 59 = .ok (.aload_n 0, 1) := by decide +kernel
theorem dX4_init_60 : decode cX4_init 60 = .ok (.getfield 11, 3) := by decide +kernel
theorem dX4_init_63 : decode cX4_init 63 = .ok (.iload_n 1, 1) := by decide +kernel
theorem dX4_init_64 : decode cX4_init 64 = .ok (.new 9, 3) := by decide +kernel
theorem dX4_init_67 : decode cX4_init 67 = .ok (.dup, 1) := by decide +kernel
theorem dX4_init_68 : decode cX4_init 68 = .ok (.invokespecial 40, 3) := by decide +kernel
theorem dX4_init_71 : decode cX4_init 71 = .ok (.aastore, 1) := by decide +kernel
theorem dX4_init_72 : decode cX4_init 72 = .ok (.iinc 1 1, 3) := by decide +kernel
theorem dX4_init_75 : decode cX4_init 75 = .ok (.goto (-22), 3) := by decide +kernel
theorem dX4_init_78 : decode cX4_init 78 = .ok (.iconst 0, 1) := by decide +kernel
theorem dX4_init_79 : decode cX4_init 79 = .ok (.istore_n 1, 1) := by decide +kernel
theorem dX4_init_80 : decode cX4_init 80 = .ok (.iload_n 1, 1) := by decide +kernel
theorem dX4_init_81 : decode cX4_init 81 = .ok (.bipush 10, 2) := by decide +kernel
theorem dX4_init_83 : decode cX4_init 83 = .ok (.if_icmp .ge 22, 3) := by decide +kernel
theorem dX4_init_86 : decode cX4_init 86 = .ok (.aload_n 0, 1) := by decide +kernel
theorem dX4_init_87 : decode cX4_init 87 = .ok (.getfield 23, 3) := by decide +kernel
theorem dX4_init_90 : decode cX4_init 90 = .ok (.iload_n 1, 1) := by decide +kernel
theorem dX4_init_91 : decode cX4_init 91 = .ok (.new 21, 3) := by decide +kernel
theorem dX4_init_94 : decode cX4_init 94 = .ok (.dup, 1) := by decide +kernel
theorem dX4_init_95 : decode cX4_init 95 = .ok (.invokespecial 41, 3) := by decide +kernel
theorem dX4_init_98 : decode cX4_init 98 = .ok (.aastore, 1) := by decide +kernel
theorem dX4_init_99 : decode cX4_init 99 = .ok (.iinc 1 1, 3) := by decide +kernel
theorem dX4_init_102 : decode cX4_init 102 = .ok (.goto (-22), 3) := by decide +kernel
theorem dX4_init_105 : decode cX4_init 105 = .ok (.return_, 1) := by decide +kernel
def S_X4 (st : z_St) : z_St := z_up (S_X7 86 (z_up (S_X7 83 (z_up (S_X7 80 (z_up (S_X7 77 (z_up (S_X7 74 (z_up (S_X7 71 (z_up (S_X7 68 (z_up (S_X7 65 (z_up (S_X7 62 (z_up (S_X7 59 (z_up (S_X9 54 (z_up (S_X9 49 (z_up (S_X9 44 (z_up (S_X9 39 (z_up (S_X9 34 (z_up (S_X9 29 (z_up (z_up (z_up st 24 1 0) 24 4 0) 24 6 0)) 25 (-1) (0 + 1))) 25 (-1) (1 + 1))) 25 (-1) (2 + 1))) 25 (-1) (3 + 1))) 25 (-1) (4 + 1))) 25 (-1) (5 + 1))) 26 (-1) (0 + 1))) 26 (-1) (1 + 1))) 26 (-1) (2 + 1))) 26 (-1) (3 + 1))) 26 (-1) (4 + 1))) 26 (-1) (5 + 1))) 26 (-1) (6 + 1))) 26 (-1) (7 + 1))) 26 (-1) (8 + 1))) 26 (-1) (9 + 1)
theorem zs_X4 {st : z_St} {M M2 : Nat} (h : ∀ x y : Int, (M : Int) ≤ x → st x y = 0) (hk : M ≤ M2 ∧ 88 < M2) : ∀ x y : Int, (M2 : Int) ≤ x → S_X4 st x y = 0 := by
  intro x y hx
  unfold S_X4
  have hx2 : ((M2 : Nat) : Int) ≤ x := hx
  simp only [S_X9, S_X7]
  repeat rw [z_up_n (by omega)]
  exact h x y (by omega)
set_option maxRecDepth 100000 in
set_option maxHeartbeats 4000000 in
theorem b_X4 {l : Launch} (hl : l.stackTraces = false) {T : Nat → z_Ty} {b : Nat} {st : z_St} (hT : ∀ j, 24 ≤ j → j < 24 + 65 → T j = z_T0 j) (hst : ∀ x y : Int, ((24 + 1 : Nat) : Int) ≤ x → st x y = 0) : z_MB l yX4_init cX4_init 2 10 64 253 T 25 b [.ref (b + 24)] st (z_Tr T 24 (24 + 65)) 89 (S_X4 st) := by
  refine z_ofB hl (by decide +kernel) rfl (Nat.le_of_ble_eq_true rfl) (fun κ hc hy hab hab2 he => ?_)
  show z_VB κ T 25 b 0 0 0 [(0, .ref (b + 24))] [] st
  refine zb_aload_n (i := 0) 0 hc dX4_init_0 rfl rfl ?_
  refine zb_objInit hc (z_t1 62 rfl rfl) zo_1 zo_2 (by decide) (Nat.le_of_ble_eq_true rfl) dX4_init_1 ?_
  refine zb_aload_n (i := 0) 0 hc dX4_init_4 rfl rfl ?_
  refine zb_bipush hc dX4_init_5 rfl ?_
  refine zb_newSound (NN := 6) hc hy (fun y => hst _ _ (by omega)) (by (try simp only [z_Tu, z_Tr]); first | (rw [hT _ (by omega) (by omega)]; rfl) | (simp; rw [hT _ (by omega) (by omega)]; rfl) | rfl) (z_t1 63 rfl rfl) (by decide) rfl (by decide) (Nat.le_of_ble_eq_true rfl) (Nat.le_of_ble_eq_true rfl) dX4_init_7 ?_
  have hc25 : (st) 25 (-1) = 0 := hst _ _ (by decide)
  refine zb_putR (ks := [(5, 0), (0, 0), (5, 0), (5, 0), (0, 0), (5, 0), (0, 0)]) (k := 24) (k2 := 25) (d := 1) (ty := .array (.object "Latticehear$Sound")) hc (zb_ABle hab hab2 (by omega)) he fl_RX4_11 fc_X4 ⟨(RX4, TX4, 7), rfl, rfl, by decide +kernel⟩ (by first | exact hT _ (by omega) (by omega) | (rw [hT _ (by omega) (by omega)]; exact hk0) | exact z_Tu_s | (simp only [z_Tu, z_Tr]; first | rfl | (rw [hT _ (by omega) (by omega)]; rfl) | simp)) (by omega) rfl (by decide) rfl dX4_init_10 ?_
  show z_VB κ _ 26 b _ _ _ _ _ _
  refine zb_aload_n (i := 0) 0 hc dX4_init_13 rfl rfl ?_
  refine zb_iconst hc dX4_init_14 ?_
  refine zb_putI (ks := [(4, 1), (0, 0), (5, 0), (5, 0), (0, 0), (5, 0), (0, 0)]) (k := 24) (kI := 24) (jI := 1) (x := 0) hc (zb_ABle hab hab2 (by omega)) he fl_RX4_17 fc_X4 ⟨(RX4, TX4, 7), rfl, rfl, by decide +kernel⟩ (by first | exact hT _ (by omega) (by omega) | (rw [hT _ (by omega) (by omega)]; exact hk0) | exact z_Tu_s | (simp only [z_Tu, z_Tr]; first | rfl | (rw [hT _ (by omega) (by omega)]; rfl) | simp)) (by omega) rfl rfl rfl dX4_init_15 ?_
  have hst11 : ∀ x y : Int, ((26 : Nat) : Int) ≤ x → (z_up st 24 1 0) x y = 0 := z_st_up (z_st_le hst (by omega)) (by omega)
  replace hc25 : (z_up st 24 1 0) 25 (-1) = 0 := by rw [z_up_n (by decide)]; exact hc25
  refine zb_aload_n (i := 0) 0 hc dX4_init_18 rfl rfl ?_
  refine zb_bipush hc dX4_init_19 rfl ?_
  refine zb_newSaying (NN := 10) hc hy (fun y => hst11 _ _ (by omega)) (by (try simp only [z_Tu, z_Tr]); first | (rw [hT _ (by omega) (by omega)]; rfl) | (simp; rw [hT _ (by omega) (by omega)]; rfl) | rfl) (z_t1 65 rfl rfl) (by decide) rfl (by decide) (Nat.le_of_ble_eq_true rfl) (Nat.le_of_ble_eq_true rfl) dX4_init_21 ?_
  have hc26 : (z_up st 24 1 0) 26 (-1) = 0 := hst11 _ _ (by decide)
  refine zb_putR (ks := [(4, 1), (0, 0), (5, 0), (5, 0), (0, 0), (5, 0), (0, 0)]) (k := 24) (k2 := 26) (d := 2) (ty := .array (.object "Latticehear$Saying")) hc (zb_ABle hab hab2 (by omega)) he fl_RX4_23 fc_X4 ⟨(RX4, TX4, 7), rfl, rfl, by decide +kernel⟩ (by first | exact hT _ (by omega) (by omega) | (rw [hT _ (by omega) (by omega)]; exact hk0) | exact z_Tu_s | (simp only [z_Tu, z_Tr]; first | rfl | (rw [hT _ (by omega) (by omega)]; rfl) | simp)) (by omega) rfl (by decide) rfl dX4_init_24 ?_
  show z_VB κ _ 27 b _ _ _ _ _ _
  rw [z_Tu_uu]
  refine zb_aload_n (i := 0) 0 hc dX4_init_27 rfl rfl ?_
  refine zb_iconst hc dX4_init_28 ?_
  refine zb_newI (NN := 5) hc (fun y => hst11 _ _ (by omega)) (by (try simp only [z_Tu, z_Tr]); first | (rw [hT _ (by omega) (by omega)]; rfl) | (simp; rw [hT _ (by omega) (by omega)]; rfl) | rfl) (z_t1 56 rfl rfl) (by decide) rfl (by decide) (Nat.le_of_ble_eq_true rfl) (Nat.le_of_ble_eq_true rfl) dX4_init_29 ?_
  refine zb_putR (ks := [(4, 1), (0, 0), (4, 2), (5, 0), (0, 0), (5, 0), (0, 0)]) (k := 24) (k2 := 27) (d := 3) (ty := .array .int) hc (zb_ABle hab hab2 (by omega)) he fl_RX4_27 fc_X4 ⟨(RX4, TX4, 7), rfl, rfl, by decide +kernel⟩ (by first | exact hT _ (by omega) (by omega) | (rw [hT _ (by omega) (by omega)]; exact hk0) | exact z_Tu_s | (simp only [z_Tu, z_Tr]; first | rfl | (rw [hT _ (by omega) (by omega)]; rfl) | simp)) (by omega) rfl (by decide) rfl dX4_init_31 ?_
  show z_VB κ _ 28 b _ _ _ _ _ _
  rw [z_Tu_uu]
  refine zb_aload_n (i := 0) 0 hc dX4_init_34 rfl rfl ?_
  refine zb_iconst hc dX4_init_35 ?_
  refine zb_putI (ks := [(4, 1), (0, 0), (4, 2), (4, 3), (0, 0), (5, 0), (0, 0)]) (k := 24) (kI := 24) (jI := 4) (x := 0) hc (zb_ABle hab hab2 (by omega)) he fl_RX4_31 fc_X4 ⟨(RX4, TX4, 7), rfl, rfl, by decide +kernel⟩ (by first | exact hT _ (by omega) (by omega) | (rw [hT _ (by omega) (by omega)]; exact hk0) | exact z_Tu_s | (simp only [z_Tu, z_Tr]; first | rfl | (rw [hT _ (by omega) (by omega)]; rfl) | simp)) (by omega) rfl rfl rfl dX4_init_36 ?_
  have hst29 : ∀ x y : Int, ((28 : Nat) : Int) ≤ x → (z_up (z_up st 24 1 0) 24 4 0) x y = 0 := z_st_up (z_st_le hst11 (by omega)) (by omega)
  replace hc25 : (z_up (z_up st 24 1 0) 24 4 0) 25 (-1) = 0 := by rw [z_up_n (by decide)]; exact hc25
  replace hc26 : (z_up (z_up st 24 1 0) 24 4 0) 26 (-1) = 0 := by rw [z_up_n (by decide)]; exact hc26
  refine zb_aload_n (i := 0) 0 hc dX4_init_39 rfl rfl ?_
  refine zb_iconst hc dX4_init_40 ?_
  refine zb_newI (NN := 4) hc (fun y => hst29 _ _ (by omega)) (by (try simp only [z_Tu, z_Tr]); first | (rw [hT _ (by omega) (by omega)]; rfl) | (simp; rw [hT _ (by omega) (by omega)]; rfl) | rfl) (z_t1 56 rfl rfl) (by decide) rfl (by decide) (Nat.le_of_ble_eq_true rfl) (Nat.le_of_ble_eq_true rfl) dX4_init_41 ?_
  refine zb_putR (ks := [(4, 1), (0, 0), (4, 2), (4, 3), (0, 0), (5, 0), (0, 0)]) (k := 24) (k2 := 28) (d := 4) (ty := .array .int) hc (zb_ABle hab hab2 (by omega)) he fl_RX4_34 fc_X4 ⟨(RX4, TX4, 7), rfl, rfl, by decide +kernel⟩ (by first | exact hT _ (by omega) (by omega) | (rw [hT _ (by omega) (by omega)]; exact hk0) | exact z_Tu_s | (simp only [z_Tu, z_Tr]; first | rfl | (rw [hT _ (by omega) (by omega)]; rfl) | simp)) (by omega) rfl (by decide) rfl dX4_init_43 ?_
  show z_VB κ _ 29 b _ _ _ _ _ _
  rw [z_Tu_uu]
  refine zb_aload_n (i := 0) 0 hc dX4_init_46 rfl rfl ?_
  refine zb_iconst hc dX4_init_47 ?_
  refine zb_putI (ks := [(4, 1), (0, 0), (4, 2), (4, 3), (0, 0), (4, 4), (0, 0)]) (k := 24) (kI := 24) (jI := 6) (x := 0) hc (zb_ABle hab hab2 (by omega)) he fl_RX4_37 fc_X4 ⟨(RX4, TX4, 7), rfl, rfl, by decide +kernel⟩ (by first | exact hT _ (by omega) (by omega) | (rw [hT _ (by omega) (by omega)]; exact hk0) | exact z_Tu_s | (simp only [z_Tu, z_Tr]; first | rfl | (rw [hT _ (by omega) (by omega)]; rfl) | simp)) (by omega) rfl rfl rfl dX4_init_48 ?_
  have hst41 : ∀ x y : Int, ((29 : Nat) : Int) ≤ x → (z_up (z_up (z_up st 24 1 0) 24 4 0) 24 6 0) x y = 0 := z_st_up (z_st_le hst29 (by omega)) (by omega)
  replace hc25 : (z_up (z_up (z_up st 24 1 0) 24 4 0) 24 6 0) 25 (-1) = 0 := by rw [z_up_n (by decide)]; exact hc25
  replace hc26 : (z_up (z_up (z_up st 24 1 0) 24 4 0) 24 6 0) 26 (-1) = 0 := by rw [z_up_n (by decide)]; exact hc26
  refine zb_iconst hc dX4_init_51 ?_
  refine zb_istore_n (i := 1) [(1, .int (zI 0)), (0, .ref (b + 24))] hc dX4_init_52 rfl (by decide) rfl ?_
  refine zb_iload_n (i := 1) 0 hc dX4_init_53 rfl rfl ?_
  refine zb_bipush hc dX4_init_54 rfl ?_
  refine zb_geF hc dX4_init_56 (by decide) 78 (by decide) ?_
  refine zb_aload_n (i := 0) 1 hc dX4_init_59 rfl rfl ?_
  refine zb_get (k := 24) (k' := 25) (j := 0) (ks := [(4, 1), (0, 0), (4, 2), (4, 3), (0, 0), (4, 4), (0, 0)]) hc fl_RX4_11 (by (try simp only [z_Tu, z_Tr]); simp) (by decide) rfl rfl dX4_init_60 ?_
  refine zb_iload_n (i := 1) 0 hc dX4_init_63 rfl rfl ?_
  refine zb_new (NN := 6) (ks := [(5, 0), (0, 0), (5, 0), (5, 0), (5, 0), (0, 0)]) hc (fun y => hst41 _ _ (by omega)) (by (try simp only [z_Tu, z_Tr]); first | (rw [hT _ (by omega) (by omega)]; rfl) | (simp; rw [hT _ (by omega) (by omega)]; rfl) | rfl) zn_RX4_9 (fun j => rfl) (Nat.le_of_ble_eq_true rfl) (Nat.le_of_ble_eq_true rfl) dX4_init_64 ?_
  refine zb_dup hc dX4_init_67 rfl ?_
  refine zb_callN (np := 0) (k := 29) hc (zb_ABle hab hab2 (by decide)) (fun q h => hab2 q (by omega)) (by decide +kernel) hy ⟨⟨z_t1 70 rfl rfl, z_t1 4 rfl rfl, by decide +kernel, by decide⟩, z_t1 69 rfl rfl⟩ rfl rfl (fun l hl => b_X9 hl (k := 29) rfl rfl (fun j h1 h2 => by obtain ⟨i, hi, rfl⟩ : ∃ i, i < 4 ∧ j = 29 + 1 + i := ⟨j - 29 - 1, by omega, by omega⟩; exact zsub_29 i hi) (fun j h1 h2 => by (try simp only [z_Tu, z_Tr]); (repeat rw [if_neg (by omega)]); exact hT j (by omega) (by omega)) (z_st_le hst41 (by decide))) (by decide) (Nat.le_of_ble_eq_true rfl) (by decide) (by decide) dX4_init_68 ?_
  have hst55 : ∀ x y : Int, ((34 : Nat) : Int) ≤ x → (S_X9 29 (z_up (z_up (z_up st 24 1 0) 24 4 0) 24 6 0)) x y = 0 := zs_X9 hst41 (by decide)
  rw [z_Tr_Tu (by decide)]
  replace hc25 : (S_X9 29 (z_up (z_up (z_up st 24 1 0) 24 4 0) 24 6 0)) 25 (-1) = 0 := by unfold S_X9; rw [z_up_n (by decide), z_up_n (by decide)]; exact hc25
  replace hc26 : (S_X9 29 (z_up (z_up (z_up st 24 1 0) 24 4 0) 24 6 0)) 26 (-1) = 0 := by unfold S_X9; rw [z_up_n (by decide), z_up_n (by decide)]; exact hc26
  refine zb_aast (kA := 25) (kv := 29) (ci := 9) (i := 0) (NN := 6) (d := 4) (s9 := 5) (τ := 5) (ks := [(4, 1), (0, 0), (4, 2), (4, 3), (4, 4), (0, 0)]) (kAI := 25) (i9 := 0) hc (zb_ABle hab hab2 (by decide)) (by (try simp only [z_Tu, z_Tr]); first | (rw [hT _ (by omega) (by omega)]; rfl) | (simp; rw [hT _ (by omega) (by omega)]; rfl) | rfl) (by decide) rfl ⟨RX9, fun _ => rfl, _, rfl, rfl⟩ (by (try simp only [z_Tu, z_Tr]); rfl) (by decide) (by decide) hc25 rfl (by decide) (by decide) dX4_init_71 ?_
  have hst60 : ∀ x y : Int, ((34 : Nat) : Int) ≤ x → (z_up (S_X9 29 (z_up (z_up (z_up st 24 1 0) 24 4 0) 24 6 0)) 25 (-1) (0 + 1)) x y = 0 := z_st_up hst55 (by decide)
  replace hc25 : (z_up (S_X9 29 (z_up (z_up (z_up st 24 1 0) 24 4 0) 24 6 0)) 25 (-1) (0 + 1)) 25 (-1) = 1 := by rw [z_up_at]; rfl
  replace hc26 : (z_up (S_X9 29 (z_up (z_up (z_up st 24 1 0) 24 4 0) 24 6 0)) 25 (-1) (0 + 1)) 26 (-1) = 0 := by rw [z_up_n (by decide)]; exact hc26
  refine zb_iinc [(1, .int (zI 1)), (0, .ref (b + 24))] 0 hc dX4_init_72 rfl (by decide) rfl ?_
  refine zb_goto (tgt := 53) hc dX4_init_75 (by decide) ?_
  refine zb_iload_n (i := 1) 0 hc dX4_init_53 rfl rfl ?_
  refine zb_bipush hc dX4_init_54 rfl ?_
  refine zb_geF hc dX4_init_56 (by decide) 78 (by decide) ?_
  refine zb_aload_n (i := 0) 1 hc dX4_init_59 rfl rfl ?_
  refine zb_get (k := 24) (k' := 25) (j := 0) (ks := [(4, 1), (0, 0), (4, 2), (4, 3), (0, 0), (4, 4), (0, 0)]) hc fl_RX4_11 (by (try simp only [z_Tu, z_Tr]); simp) (by decide) rfl rfl dX4_init_60 ?_
  refine zb_iload_n (i := 1) 0 hc dX4_init_63 rfl rfl ?_
  refine zb_new (NN := 6) (ks := [(5, 0), (0, 0), (5, 0), (5, 0), (5, 0), (0, 0)]) hc (fun y => hst60 _ _ (by omega)) (by (try simp only [z_Tu, z_Tr]); first | (rw [hT _ (by omega) (by omega)]; rfl) | (simp; rw [hT _ (by omega) (by omega)]; rfl) | rfl) zn_RX4_9 (fun j => rfl) (Nat.le_of_ble_eq_true rfl) (Nat.le_of_ble_eq_true rfl) dX4_init_64 ?_
  refine zb_dup hc dX4_init_67 rfl ?_
  refine zb_callN (np := 0) (k := 34) hc (zb_ABle hab hab2 (by decide)) (fun q h => hab2 q (by omega)) (by decide +kernel) hy ⟨⟨z_t1 70 rfl rfl, z_t1 4 rfl rfl, by decide +kernel, by decide⟩, z_t1 69 rfl rfl⟩ rfl rfl (fun l hl => b_X9 hl (k := 34) rfl rfl (fun j h1 h2 => by obtain ⟨i, hi, rfl⟩ : ∃ i, i < 4 ∧ j = 34 + 1 + i := ⟨j - 34 - 1, by omega, by omega⟩; exact zsub_34 i hi) (fun j h1 h2 => by (try simp only [z_Tu, z_Tr]); (repeat rw [if_neg (by omega)]); exact hT j (by omega) (by omega)) (z_st_le hst60 (by decide))) (by decide) (Nat.le_of_ble_eq_true rfl) (by decide) (by decide) dX4_init_68 ?_
  have hst74 : ∀ x y : Int, ((39 : Nat) : Int) ≤ x → (S_X9 34 (z_up (S_X9 29 (z_up (z_up (z_up st 24 1 0) 24 4 0) 24 6 0)) 25 (-1) (0 + 1))) x y = 0 := zs_X9 hst60 (by decide)
  rw [z_Tr_Tu (by decide)]
  rw [z_Tr_tr (by decide) (by decide)]
  replace hc25 : (S_X9 34 (z_up (S_X9 29 (z_up (z_up (z_up st 24 1 0) 24 4 0) 24 6 0)) 25 (-1) (0 + 1))) 25 (-1) = 1 := by unfold S_X9; rw [z_up_n (by decide), z_up_n (by decide)]; exact hc25
  replace hc26 : (S_X9 34 (z_up (S_X9 29 (z_up (z_up (z_up st 24 1 0) 24 4 0) 24 6 0)) 25 (-1) (0 + 1))) 26 (-1) = 0 := by unfold S_X9; rw [z_up_n (by decide), z_up_n (by decide)]; exact hc26
  refine zb_aast (kA := 25) (kv := 34) (ci := 9) (i := 1) (NN := 6) (d := 4) (s9 := 5) (τ := 5) (ks := [(4, 1), (0, 0), (4, 2), (4, 3), (4, 4), (0, 0)]) (kAI := 25) (i9 := 1) hc (zb_ABle hab hab2 (by decide)) (by (try simp only [z_Tu, z_Tr]); first | (rw [hT _ (by omega) (by omega)]; rfl) | (simp; rw [hT _ (by omega) (by omega)]; rfl) | rfl) (by decide) rfl ⟨RX9, fun _ => rfl, _, rfl, rfl⟩ (by (try simp only [z_Tu, z_Tr]); rfl) (by decide) (by decide) hc25 rfl (by decide) (by decide) dX4_init_71 ?_
  have hst80 : ∀ x y : Int, ((39 : Nat) : Int) ≤ x → (z_up (S_X9 34 (z_up (S_X9 29 (z_up (z_up (z_up st 24 1 0) 24 4 0) 24 6 0)) 25 (-1) (0 + 1))) 25 (-1) (1 + 1)) x y = 0 := z_st_up hst74 (by decide)
  replace hc25 : (z_up (S_X9 34 (z_up (S_X9 29 (z_up (z_up (z_up st 24 1 0) 24 4 0) 24 6 0)) 25 (-1) (0 + 1))) 25 (-1) (1 + 1)) 25 (-1) = 2 := by rw [z_up_at]; rfl
  replace hc26 : (z_up (S_X9 34 (z_up (S_X9 29 (z_up (z_up (z_up st 24 1 0) 24 4 0) 24 6 0)) 25 (-1) (0 + 1))) 25 (-1) (1 + 1)) 26 (-1) = 0 := by rw [z_up_n (by decide)]; exact hc26
  refine zb_iinc [(1, .int (zI 2)), (0, .ref (b + 24))] 0 hc dX4_init_72 rfl (by decide) rfl ?_
  refine zb_goto (tgt := 53) hc dX4_init_75 (by decide) ?_
  refine zb_iload_n (i := 1) 0 hc dX4_init_53 rfl rfl ?_
  refine zb_bipush hc dX4_init_54 rfl ?_
  refine zb_geF hc dX4_init_56 (by decide) 78 (by decide) ?_
  refine zb_aload_n (i := 0) 1 hc dX4_init_59 rfl rfl ?_
  refine zb_get (k := 24) (k' := 25) (j := 0) (ks := [(4, 1), (0, 0), (4, 2), (4, 3), (0, 0), (4, 4), (0, 0)]) hc fl_RX4_11 (by (try simp only [z_Tu, z_Tr]); simp) (by decide) rfl rfl dX4_init_60 ?_
  refine zb_iload_n (i := 1) 0 hc dX4_init_63 rfl rfl ?_
  refine zb_new (NN := 6) (ks := [(5, 0), (0, 0), (5, 0), (5, 0), (5, 0), (0, 0)]) hc (fun y => hst80 _ _ (by omega)) (by (try simp only [z_Tu, z_Tr]); first | (rw [hT _ (by omega) (by omega)]; rfl) | (simp; rw [hT _ (by omega) (by omega)]; rfl) | rfl) zn_RX4_9 (fun j => rfl) (Nat.le_of_ble_eq_true rfl) (Nat.le_of_ble_eq_true rfl) dX4_init_64 ?_
  refine zb_dup hc dX4_init_67 rfl ?_
  refine zb_callN (np := 0) (k := 39) hc (zb_ABle hab hab2 (by decide)) (fun q h => hab2 q (by omega)) (by decide +kernel) hy ⟨⟨z_t1 70 rfl rfl, z_t1 4 rfl rfl, by decide +kernel, by decide⟩, z_t1 69 rfl rfl⟩ rfl rfl (fun l hl => b_X9 hl (k := 39) rfl rfl (fun j h1 h2 => by obtain ⟨i, hi, rfl⟩ : ∃ i, i < 4 ∧ j = 39 + 1 + i := ⟨j - 39 - 1, by omega, by omega⟩; exact zsub_39 i hi) (fun j h1 h2 => by (try simp only [z_Tu, z_Tr]); (repeat rw [if_neg (by omega)]); exact hT j (by omega) (by omega)) (z_st_le hst80 (by decide))) (by decide) (Nat.le_of_ble_eq_true rfl) (by decide) (by decide) dX4_init_68 ?_
  have hst94 : ∀ x y : Int, ((44 : Nat) : Int) ≤ x → (S_X9 39 (z_up (S_X9 34 (z_up (S_X9 29 (z_up (z_up (z_up st 24 1 0) 24 4 0) 24 6 0)) 25 (-1) (0 + 1))) 25 (-1) (1 + 1))) x y = 0 := zs_X9 hst80 (by decide)
  rw [z_Tr_Tu (by decide)]
  rw [z_Tr_tr (by decide) (by decide)]
  replace hc25 : (S_X9 39 (z_up (S_X9 34 (z_up (S_X9 29 (z_up (z_up (z_up st 24 1 0) 24 4 0) 24 6 0)) 25 (-1) (0 + 1))) 25 (-1) (1 + 1))) 25 (-1) = 2 := by unfold S_X9; rw [z_up_n (by decide), z_up_n (by decide)]; exact hc25
  replace hc26 : (S_X9 39 (z_up (S_X9 34 (z_up (S_X9 29 (z_up (z_up (z_up st 24 1 0) 24 4 0) 24 6 0)) 25 (-1) (0 + 1))) 25 (-1) (1 + 1))) 26 (-1) = 0 := by unfold S_X9; rw [z_up_n (by decide), z_up_n (by decide)]; exact hc26
  refine zb_aast (kA := 25) (kv := 39) (ci := 9) (i := 2) (NN := 6) (d := 4) (s9 := 5) (τ := 5) (ks := [(4, 1), (0, 0), (4, 2), (4, 3), (4, 4), (0, 0)]) (kAI := 25) (i9 := 2) hc (zb_ABle hab hab2 (by decide)) (by (try simp only [z_Tu, z_Tr]); first | (rw [hT _ (by omega) (by omega)]; rfl) | (simp; rw [hT _ (by omega) (by omega)]; rfl) | rfl) (by decide) rfl ⟨RX9, fun _ => rfl, _, rfl, rfl⟩ (by (try simp only [z_Tu, z_Tr]); rfl) (by decide) (by decide) hc25 rfl (by decide) (by decide) dX4_init_71 ?_
  have hst100 : ∀ x y : Int, ((44 : Nat) : Int) ≤ x → (z_up (S_X9 39 (z_up (S_X9 34 (z_up (S_X9 29 (z_up (z_up (z_up st 24 1 0) 24 4 0) 24 6 0)) 25 (-1) (0 + 1))) 25 (-1) (1 + 1))) 25 (-1) (2 + 1)) x y = 0 := z_st_up hst94 (by decide)
  replace hc25 : (z_up (S_X9 39 (z_up (S_X9 34 (z_up (S_X9 29 (z_up (z_up (z_up st 24 1 0) 24 4 0) 24 6 0)) 25 (-1) (0 + 1))) 25 (-1) (1 + 1))) 25 (-1) (2 + 1)) 25 (-1) = 3 := by rw [z_up_at]; rfl
  replace hc26 : (z_up (S_X9 39 (z_up (S_X9 34 (z_up (S_X9 29 (z_up (z_up (z_up st 24 1 0) 24 4 0) 24 6 0)) 25 (-1) (0 + 1))) 25 (-1) (1 + 1))) 25 (-1) (2 + 1)) 26 (-1) = 0 := by rw [z_up_n (by decide)]; exact hc26
  refine zb_iinc [(1, .int (zI 3)), (0, .ref (b + 24))] 0 hc dX4_init_72 rfl (by decide) rfl ?_
  refine zb_goto (tgt := 53) hc dX4_init_75 (by decide) ?_
  refine zb_iload_n (i := 1) 0 hc dX4_init_53 rfl rfl ?_
  refine zb_bipush hc dX4_init_54 rfl ?_
  refine zb_geF hc dX4_init_56 (by decide) 78 (by decide) ?_
  refine zb_aload_n (i := 0) 1 hc dX4_init_59 rfl rfl ?_
  refine zb_get (k := 24) (k' := 25) (j := 0) (ks := [(4, 1), (0, 0), (4, 2), (4, 3), (0, 0), (4, 4), (0, 0)]) hc fl_RX4_11 (by (try simp only [z_Tu, z_Tr]); simp) (by decide) rfl rfl dX4_init_60 ?_
  refine zb_iload_n (i := 1) 0 hc dX4_init_63 rfl rfl ?_
  refine zb_new (NN := 6) (ks := [(5, 0), (0, 0), (5, 0), (5, 0), (5, 0), (0, 0)]) hc (fun y => hst100 _ _ (by omega)) (by (try simp only [z_Tu, z_Tr]); first | (rw [hT _ (by omega) (by omega)]; rfl) | (simp; rw [hT _ (by omega) (by omega)]; rfl) | rfl) zn_RX4_9 (fun j => rfl) (Nat.le_of_ble_eq_true rfl) (Nat.le_of_ble_eq_true rfl) dX4_init_64 ?_
  refine zb_dup hc dX4_init_67 rfl ?_
  refine zb_callN (np := 0) (k := 44) hc (zb_ABle hab hab2 (by decide)) (fun q h => hab2 q (by omega)) (by decide +kernel) hy ⟨⟨z_t1 70 rfl rfl, z_t1 4 rfl rfl, by decide +kernel, by decide⟩, z_t1 69 rfl rfl⟩ rfl rfl (fun l hl => b_X9 hl (k := 44) rfl rfl (fun j h1 h2 => by obtain ⟨i, hi, rfl⟩ : ∃ i, i < 4 ∧ j = 44 + 1 + i := ⟨j - 44 - 1, by omega, by omega⟩; exact zsub_44 i hi) (fun j h1 h2 => by (try simp only [z_Tu, z_Tr]); (repeat rw [if_neg (by omega)]); exact hT j (by omega) (by omega)) (z_st_le hst100 (by decide))) (by decide) (Nat.le_of_ble_eq_true rfl) (by decide) (by decide) dX4_init_68 ?_
  have hst114 : ∀ x y : Int, ((49 : Nat) : Int) ≤ x → (S_X9 44 (z_up (S_X9 39 (z_up (S_X9 34 (z_up (S_X9 29 (z_up (z_up (z_up st 24 1 0) 24 4 0) 24 6 0)) 25 (-1) (0 + 1))) 25 (-1) (1 + 1))) 25 (-1) (2 + 1))) x y = 0 := zs_X9 hst100 (by decide)
  rw [z_Tr_Tu (by decide)]
  rw [z_Tr_tr (by decide) (by decide)]
  replace hc25 : (S_X9 44 (z_up (S_X9 39 (z_up (S_X9 34 (z_up (S_X9 29 (z_up (z_up (z_up st 24 1 0) 24 4 0) 24 6 0)) 25 (-1) (0 + 1))) 25 (-1) (1 + 1))) 25 (-1) (2 + 1))) 25 (-1) = 3 := by unfold S_X9; rw [z_up_n (by decide), z_up_n (by decide)]; exact hc25
  replace hc26 : (S_X9 44 (z_up (S_X9 39 (z_up (S_X9 34 (z_up (S_X9 29 (z_up (z_up (z_up st 24 1 0) 24 4 0) 24 6 0)) 25 (-1) (0 + 1))) 25 (-1) (1 + 1))) 25 (-1) (2 + 1))) 26 (-1) = 0 := by unfold S_X9; rw [z_up_n (by decide), z_up_n (by decide)]; exact hc26
  refine zb_aast (kA := 25) (kv := 44) (ci := 9) (i := 3) (NN := 6) (d := 4) (s9 := 5) (τ := 5) (ks := [(4, 1), (0, 0), (4, 2), (4, 3), (4, 4), (0, 0)]) (kAI := 25) (i9 := 3) hc (zb_ABle hab hab2 (by decide)) (by (try simp only [z_Tu, z_Tr]); first | (rw [hT _ (by omega) (by omega)]; rfl) | (simp; rw [hT _ (by omega) (by omega)]; rfl) | rfl) (by decide) rfl ⟨RX9, fun _ => rfl, _, rfl, rfl⟩ (by (try simp only [z_Tu, z_Tr]); rfl) (by decide) (by decide) hc25 rfl (by decide) (by decide) dX4_init_71 ?_
  have hst120 : ∀ x y : Int, ((49 : Nat) : Int) ≤ x → (z_up (S_X9 44 (z_up (S_X9 39 (z_up (S_X9 34 (z_up (S_X9 29 (z_up (z_up (z_up st 24 1 0) 24 4 0) 24 6 0)) 25 (-1) (0 + 1))) 25 (-1) (1 + 1))) 25 (-1) (2 + 1))) 25 (-1) (3 + 1)) x y = 0 := z_st_up hst114 (by decide)
  replace hc25 : (z_up (S_X9 44 (z_up (S_X9 39 (z_up (S_X9 34 (z_up (S_X9 29 (z_up (z_up (z_up st 24 1 0) 24 4 0) 24 6 0)) 25 (-1) (0 + 1))) 25 (-1) (1 + 1))) 25 (-1) (2 + 1))) 25 (-1) (3 + 1)) 25 (-1) = 4 := by rw [z_up_at]; rfl
  replace hc26 : (z_up (S_X9 44 (z_up (S_X9 39 (z_up (S_X9 34 (z_up (S_X9 29 (z_up (z_up (z_up st 24 1 0) 24 4 0) 24 6 0)) 25 (-1) (0 + 1))) 25 (-1) (1 + 1))) 25 (-1) (2 + 1))) 25 (-1) (3 + 1)) 26 (-1) = 0 := by rw [z_up_n (by decide)]; exact hc26
  refine zb_iinc [(1, .int (zI 4)), (0, .ref (b + 24))] 0 hc dX4_init_72 rfl (by decide) rfl ?_
  refine zb_goto (tgt := 53) hc dX4_init_75 (by decide) ?_
  refine zb_iload_n (i := 1) 0 hc dX4_init_53 rfl rfl ?_
  refine zb_bipush hc dX4_init_54 rfl ?_
  refine zb_geF hc dX4_init_56 (by decide) 78 (by decide) ?_
  refine zb_aload_n (i := 0) 1 hc dX4_init_59 rfl rfl ?_
  refine zb_get (k := 24) (k' := 25) (j := 0) (ks := [(4, 1), (0, 0), (4, 2), (4, 3), (0, 0), (4, 4), (0, 0)]) hc fl_RX4_11 (by (try simp only [z_Tu, z_Tr]); simp) (by decide) rfl rfl dX4_init_60 ?_
  refine zb_iload_n (i := 1) 0 hc dX4_init_63 rfl rfl ?_
  refine zb_new (NN := 6) (ks := [(5, 0), (0, 0), (5, 0), (5, 0), (5, 0), (0, 0)]) hc (fun y => hst120 _ _ (by omega)) (by (try simp only [z_Tu, z_Tr]); first | (rw [hT _ (by omega) (by omega)]; rfl) | (simp; rw [hT _ (by omega) (by omega)]; rfl) | rfl) zn_RX4_9 (fun j => rfl) (Nat.le_of_ble_eq_true rfl) (Nat.le_of_ble_eq_true rfl) dX4_init_64 ?_
  refine zb_dup hc dX4_init_67 rfl ?_
  refine zb_callN (np := 0) (k := 49) hc (zb_ABle hab hab2 (by decide)) (fun q h => hab2 q (by omega)) (by decide +kernel) hy ⟨⟨z_t1 70 rfl rfl, z_t1 4 rfl rfl, by decide +kernel, by decide⟩, z_t1 69 rfl rfl⟩ rfl rfl (fun l hl => b_X9 hl (k := 49) rfl rfl (fun j h1 h2 => by obtain ⟨i, hi, rfl⟩ : ∃ i, i < 4 ∧ j = 49 + 1 + i := ⟨j - 49 - 1, by omega, by omega⟩; exact zsub_49 i hi) (fun j h1 h2 => by (try simp only [z_Tu, z_Tr]); (repeat rw [if_neg (by omega)]); exact hT j (by omega) (by omega)) (z_st_le hst120 (by decide))) (by decide) (Nat.le_of_ble_eq_true rfl) (by decide) (by decide) dX4_init_68 ?_
  have hst134 : ∀ x y : Int, ((54 : Nat) : Int) ≤ x → (S_X9 49 (z_up (S_X9 44 (z_up (S_X9 39 (z_up (S_X9 34 (z_up (S_X9 29 (z_up (z_up (z_up st 24 1 0) 24 4 0) 24 6 0)) 25 (-1) (0 + 1))) 25 (-1) (1 + 1))) 25 (-1) (2 + 1))) 25 (-1) (3 + 1))) x y = 0 := zs_X9 hst120 (by decide)
  rw [z_Tr_Tu (by decide)]
  rw [z_Tr_tr (by decide) (by decide)]
  replace hc25 : (S_X9 49 (z_up (S_X9 44 (z_up (S_X9 39 (z_up (S_X9 34 (z_up (S_X9 29 (z_up (z_up (z_up st 24 1 0) 24 4 0) 24 6 0)) 25 (-1) (0 + 1))) 25 (-1) (1 + 1))) 25 (-1) (2 + 1))) 25 (-1) (3 + 1))) 25 (-1) = 4 := by unfold S_X9; rw [z_up_n (by decide), z_up_n (by decide)]; exact hc25
  replace hc26 : (S_X9 49 (z_up (S_X9 44 (z_up (S_X9 39 (z_up (S_X9 34 (z_up (S_X9 29 (z_up (z_up (z_up st 24 1 0) 24 4 0) 24 6 0)) 25 (-1) (0 + 1))) 25 (-1) (1 + 1))) 25 (-1) (2 + 1))) 25 (-1) (3 + 1))) 26 (-1) = 0 := by unfold S_X9; rw [z_up_n (by decide), z_up_n (by decide)]; exact hc26
  refine zb_aast (kA := 25) (kv := 49) (ci := 9) (i := 4) (NN := 6) (d := 4) (s9 := 5) (τ := 5) (ks := [(4, 1), (0, 0), (4, 2), (4, 3), (4, 4), (0, 0)]) (kAI := 25) (i9 := 4) hc (zb_ABle hab hab2 (by decide)) (by (try simp only [z_Tu, z_Tr]); first | (rw [hT _ (by omega) (by omega)]; rfl) | (simp; rw [hT _ (by omega) (by omega)]; rfl) | rfl) (by decide) rfl ⟨RX9, fun _ => rfl, _, rfl, rfl⟩ (by (try simp only [z_Tu, z_Tr]); rfl) (by decide) (by decide) hc25 rfl (by decide) (by decide) dX4_init_71 ?_
  have hst140 : ∀ x y : Int, ((54 : Nat) : Int) ≤ x → (z_up (S_X9 49 (z_up (S_X9 44 (z_up (S_X9 39 (z_up (S_X9 34 (z_up (S_X9 29 (z_up (z_up (z_up st 24 1 0) 24 4 0) 24 6 0)) 25 (-1) (0 + 1))) 25 (-1) (1 + 1))) 25 (-1) (2 + 1))) 25 (-1) (3 + 1))) 25 (-1) (4 + 1)) x y = 0 := z_st_up hst134 (by decide)
  replace hc25 : (z_up (S_X9 49 (z_up (S_X9 44 (z_up (S_X9 39 (z_up (S_X9 34 (z_up (S_X9 29 (z_up (z_up (z_up st 24 1 0) 24 4 0) 24 6 0)) 25 (-1) (0 + 1))) 25 (-1) (1 + 1))) 25 (-1) (2 + 1))) 25 (-1) (3 + 1))) 25 (-1) (4 + 1)) 25 (-1) = 5 := by rw [z_up_at]; rfl
  replace hc26 : (z_up (S_X9 49 (z_up (S_X9 44 (z_up (S_X9 39 (z_up (S_X9 34 (z_up (S_X9 29 (z_up (z_up (z_up st 24 1 0) 24 4 0) 24 6 0)) 25 (-1) (0 + 1))) 25 (-1) (1 + 1))) 25 (-1) (2 + 1))) 25 (-1) (3 + 1))) 25 (-1) (4 + 1)) 26 (-1) = 0 := by rw [z_up_n (by decide)]; exact hc26
  refine zb_iinc [(1, .int (zI 5)), (0, .ref (b + 24))] 0 hc dX4_init_72 rfl (by decide) rfl ?_
  refine zb_goto (tgt := 53) hc dX4_init_75 (by decide) ?_
  refine zb_iload_n (i := 1) 0 hc dX4_init_53 rfl rfl ?_
  refine zb_bipush hc dX4_init_54 rfl ?_
  refine zb_geF hc dX4_init_56 (by decide) 78 (by decide) ?_
  refine zb_aload_n (i := 0) 1 hc dX4_init_59 rfl rfl ?_
  refine zb_get (k := 24) (k' := 25) (j := 0) (ks := [(4, 1), (0, 0), (4, 2), (4, 3), (0, 0), (4, 4), (0, 0)]) hc fl_RX4_11 (by (try simp only [z_Tu, z_Tr]); simp) (by decide) rfl rfl dX4_init_60 ?_
  refine zb_iload_n (i := 1) 0 hc dX4_init_63 rfl rfl ?_
  refine zb_new (NN := 6) (ks := [(5, 0), (0, 0), (5, 0), (5, 0), (5, 0), (0, 0)]) hc (fun y => hst140 _ _ (by omega)) (by (try simp only [z_Tu, z_Tr]); first | (rw [hT _ (by omega) (by omega)]; rfl) | (simp; rw [hT _ (by omega) (by omega)]; rfl) | rfl) zn_RX4_9 (fun j => rfl) (Nat.le_of_ble_eq_true rfl) (Nat.le_of_ble_eq_true rfl) dX4_init_64 ?_
  refine zb_dup hc dX4_init_67 rfl ?_
  refine zb_callN (np := 0) (k := 54) hc (zb_ABle hab hab2 (by decide)) (fun q h => hab2 q (by omega)) (by decide +kernel) hy ⟨⟨z_t1 70 rfl rfl, z_t1 4 rfl rfl, by decide +kernel, by decide⟩, z_t1 69 rfl rfl⟩ rfl rfl (fun l hl => b_X9 hl (k := 54) rfl rfl (fun j h1 h2 => by obtain ⟨i, hi, rfl⟩ : ∃ i, i < 4 ∧ j = 54 + 1 + i := ⟨j - 54 - 1, by omega, by omega⟩; exact zsub_54 i hi) (fun j h1 h2 => by (try simp only [z_Tu, z_Tr]); (repeat rw [if_neg (by omega)]); exact hT j (by omega) (by omega)) (z_st_le hst140 (by decide))) (by decide) (Nat.le_of_ble_eq_true rfl) (by decide) (by decide) dX4_init_68 ?_
  have hst154 : ∀ x y : Int, ((59 : Nat) : Int) ≤ x → (S_X9 54 (z_up (S_X9 49 (z_up (S_X9 44 (z_up (S_X9 39 (z_up (S_X9 34 (z_up (S_X9 29 (z_up (z_up (z_up st 24 1 0) 24 4 0) 24 6 0)) 25 (-1) (0 + 1))) 25 (-1) (1 + 1))) 25 (-1) (2 + 1))) 25 (-1) (3 + 1))) 25 (-1) (4 + 1))) x y = 0 := zs_X9 hst140 (by decide)
  rw [z_Tr_Tu (by decide)]
  rw [z_Tr_tr (by decide) (by decide)]
  replace hc25 : (S_X9 54 (z_up (S_X9 49 (z_up (S_X9 44 (z_up (S_X9 39 (z_up (S_X9 34 (z_up (S_X9 29 (z_up (z_up (z_up st 24 1 0) 24 4 0) 24 6 0)) 25 (-1) (0 + 1))) 25 (-1) (1 + 1))) 25 (-1) (2 + 1))) 25 (-1) (3 + 1))) 25 (-1) (4 + 1))) 25 (-1) = 5 := by unfold S_X9; rw [z_up_n (by decide), z_up_n (by decide)]; exact hc25
  replace hc26 : (S_X9 54 (z_up (S_X9 49 (z_up (S_X9 44 (z_up (S_X9 39 (z_up (S_X9 34 (z_up (S_X9 29 (z_up (z_up (z_up st 24 1 0) 24 4 0) 24 6 0)) 25 (-1) (0 + 1))) 25 (-1) (1 + 1))) 25 (-1) (2 + 1))) 25 (-1) (3 + 1))) 25 (-1) (4 + 1))) 26 (-1) = 0 := by unfold S_X9; rw [z_up_n (by decide), z_up_n (by decide)]; exact hc26
  refine zb_aast (kA := 25) (kv := 54) (ci := 9) (i := 5) (NN := 6) (d := 4) (s9 := 5) (τ := 5) (ks := [(4, 1), (0, 0), (4, 2), (4, 3), (4, 4), (0, 0)]) (kAI := 25) (i9 := 5) hc (zb_ABle hab hab2 (by decide)) (by (try simp only [z_Tu, z_Tr]); first | (rw [hT _ (by omega) (by omega)]; rfl) | (simp; rw [hT _ (by omega) (by omega)]; rfl) | rfl) (by decide) rfl ⟨RX9, fun _ => rfl, _, rfl, rfl⟩ (by (try simp only [z_Tu, z_Tr]); rfl) (by decide) (by decide) hc25 rfl (by decide) (by decide) dX4_init_71 ?_
  have hst160 : ∀ x y : Int, ((59 : Nat) : Int) ≤ x → (z_up (S_X9 54 (z_up (S_X9 49 (z_up (S_X9 44 (z_up (S_X9 39 (z_up (S_X9 34 (z_up (S_X9 29 (z_up (z_up (z_up st 24 1 0) 24 4 0) 24 6 0)) 25 (-1) (0 + 1))) 25 (-1) (1 + 1))) 25 (-1) (2 + 1))) 25 (-1) (3 + 1))) 25 (-1) (4 + 1))) 25 (-1) (5 + 1)) x y = 0 := z_st_up hst154 (by decide)
  replace hc25 : (z_up (S_X9 54 (z_up (S_X9 49 (z_up (S_X9 44 (z_up (S_X9 39 (z_up (S_X9 34 (z_up (S_X9 29 (z_up (z_up (z_up st 24 1 0) 24 4 0) 24 6 0)) 25 (-1) (0 + 1))) 25 (-1) (1 + 1))) 25 (-1) (2 + 1))) 25 (-1) (3 + 1))) 25 (-1) (4 + 1))) 25 (-1) (5 + 1)) 25 (-1) = 6 := by rw [z_up_at]; rfl
  replace hc26 : (z_up (S_X9 54 (z_up (S_X9 49 (z_up (S_X9 44 (z_up (S_X9 39 (z_up (S_X9 34 (z_up (S_X9 29 (z_up (z_up (z_up st 24 1 0) 24 4 0) 24 6 0)) 25 (-1) (0 + 1))) 25 (-1) (1 + 1))) 25 (-1) (2 + 1))) 25 (-1) (3 + 1))) 25 (-1) (4 + 1))) 25 (-1) (5 + 1)) 26 (-1) = 0 := by rw [z_up_n (by decide)]; exact hc26
  refine zb_iinc [(1, .int (zI 6)), (0, .ref (b + 24))] 0 hc dX4_init_72 rfl (by decide) rfl ?_
  refine zb_goto (tgt := 53) hc dX4_init_75 (by decide) ?_
  refine zb_iload_n (i := 1) 0 hc dX4_init_53 rfl rfl ?_
  refine zb_bipush hc dX4_init_54 rfl ?_
  refine zb_geT hc dX4_init_56 (by decide) 78 (by decide) ?_
  refine zb_iconst hc dX4_init_78 ?_
  refine zb_istore_n (i := 1) [(1, .int (zI 0)), (0, .ref (b + 24))] hc dX4_init_79 rfl (by decide) rfl ?_
  refine zb_iload_n (i := 1) 0 hc dX4_init_80 rfl rfl ?_
  refine zb_bipush hc dX4_init_81 rfl ?_
  refine zb_geF hc dX4_init_83 (by decide) 105 (by decide) ?_
  refine zb_aload_n (i := 0) 1 hc dX4_init_86 rfl rfl ?_
  refine zb_get (k := 24) (k' := 26) (j := 2) (ks := [(4, 1), (0, 0), (4, 2), (4, 3), (0, 0), (4, 4), (0, 0)]) hc fl_RX4_23 (by (try simp only [z_Tu, z_Tr]); simp) (by decide) rfl rfl dX4_init_87 ?_
  refine zb_iload_n (i := 1) 0 hc dX4_init_90 rfl rfl ?_
  refine zb_new (NN := 4) (ks := [(5, 0), (5, 0), (0, 0), (0, 0)]) hc (fun y => hst160 _ _ (by omega)) (by (try simp only [z_Tu, z_Tr]); first | (rw [hT _ (by omega) (by omega)]; rfl) | (simp; rw [hT _ (by omega) (by omega)]; rfl) | rfl) zn_RX4_21 (fun j => rfl) (Nat.le_of_ble_eq_true rfl) (Nat.le_of_ble_eq_true rfl) dX4_init_91 ?_
  refine zb_dup hc dX4_init_94 rfl ?_
  refine zb_callN (np := 0) (k := 59) hc (zb_ABle hab hab2 (by decide)) (fun q h => hab2 q (by omega)) (by decide +kernel) hy ⟨⟨z_t1 99 rfl rfl, z_t1 5 rfl rfl, by decide +kernel, by decide⟩, z_t1 98 rfl rfl⟩ rfl rfl (fun l hl => b_X7 hl (k := 59) rfl rfl (fun j h1 h2 => by obtain ⟨i, hi, rfl⟩ : ∃ i, i < 2 ∧ j = 59 + 1 + i := ⟨j - 59 - 1, by omega, by omega⟩; exact zsub_59 i hi) (fun j h1 h2 => by (try simp only [z_Tu, z_Tr]); (repeat rw [if_neg (by omega)]); exact hT j (by omega) (by omega)) (z_st_le hst160 (by decide))) (by decide) (Nat.le_of_ble_eq_true rfl) (by decide) (by decide) dX4_init_95 ?_
  have hst179 : ∀ x y : Int, ((62 : Nat) : Int) ≤ x → (S_X7 59 (z_up (S_X9 54 (z_up (S_X9 49 (z_up (S_X9 44 (z_up (S_X9 39 (z_up (S_X9 34 (z_up (S_X9 29 (z_up (z_up (z_up st 24 1 0) 24 4 0) 24 6 0)) 25 (-1) (0 + 1))) 25 (-1) (1 + 1))) 25 (-1) (2 + 1))) 25 (-1) (3 + 1))) 25 (-1) (4 + 1))) 25 (-1) (5 + 1))) x y = 0 := zs_X7 hst160 (by decide)
  rw [z_Tr_Tu (by decide)]
  rw [z_Tr_tr (by decide) (by decide)]
  replace hc25 : (S_X7 59 (z_up (S_X9 54 (z_up (S_X9 49 (z_up (S_X9 44 (z_up (S_X9 39 (z_up (S_X9 34 (z_up (S_X9 29 (z_up (z_up (z_up st 24 1 0) 24 4 0) 24 6 0)) 25 (-1) (0 + 1))) 25 (-1) (1 + 1))) 25 (-1) (2 + 1))) 25 (-1) (3 + 1))) 25 (-1) (4 + 1))) 25 (-1) (5 + 1))) 25 (-1) = 6 := by unfold S_X7; rw [z_up_n (by decide), z_up_n (by decide)]; exact hc25
  replace hc26 : (S_X7 59 (z_up (S_X9 54 (z_up (S_X9 49 (z_up (S_X9 44 (z_up (S_X9 39 (z_up (S_X9 34 (z_up (S_X9 29 (z_up (z_up (z_up st 24 1 0) 24 4 0) 24 6 0)) 25 (-1) (0 + 1))) 25 (-1) (1 + 1))) 25 (-1) (2 + 1))) 25 (-1) (3 + 1))) 25 (-1) (4 + 1))) 25 (-1) (5 + 1))) 26 (-1) = 0 := by unfold S_X7; rw [z_up_n (by decide), z_up_n (by decide)]; exact hc26
  refine zb_aast (kA := 26) (kv := 59) (ci := 7) (i := 0) (NN := 10) (d := 33) (s9 := 3) (τ := 6) (ks := [(4, 1), (4, 2), (0, 0), (0, 0)]) (kAI := 26) (i9 := 0) hc (zb_ABle hab hab2 (by decide)) (by (try simp only [z_Tu, z_Tr]); first | (rw [hT _ (by omega) (by omega)]; rfl) | (simp; rw [hT _ (by omega) (by omega)]; rfl) | rfl) (by decide) rfl ⟨RX7, fun _ => rfl, _, rfl, rfl⟩ (by (try simp only [z_Tu, z_Tr]); rfl) (by decide) (by decide) hc26 rfl (by decide) (by decide) dX4_init_98 ?_
  have hst185 : ∀ x y : Int, ((62 : Nat) : Int) ≤ x → (z_up (S_X7 59 (z_up (S_X9 54 (z_up (S_X9 49 (z_up (S_X9 44 (z_up (S_X9 39 (z_up (S_X9 34 (z_up (S_X9 29 (z_up (z_up (z_up st 24 1 0) 24 4 0) 24 6 0)) 25 (-1) (0 + 1))) 25 (-1) (1 + 1))) 25 (-1) (2 + 1))) 25 (-1) (3 + 1))) 25 (-1) (4 + 1))) 25 (-1) (5 + 1))) 26 (-1) (0 + 1)) x y = 0 := z_st_up hst179 (by decide)
  replace hc26 : (z_up (S_X7 59 (z_up (S_X9 54 (z_up (S_X9 49 (z_up (S_X9 44 (z_up (S_X9 39 (z_up (S_X9 34 (z_up (S_X9 29 (z_up (z_up (z_up st 24 1 0) 24 4 0) 24 6 0)) 25 (-1) (0 + 1))) 25 (-1) (1 + 1))) 25 (-1) (2 + 1))) 25 (-1) (3 + 1))) 25 (-1) (4 + 1))) 25 (-1) (5 + 1))) 26 (-1) (0 + 1)) 26 (-1) = 1 := by rw [z_up_at]; rfl
  replace hc25 : (z_up (S_X7 59 (z_up (S_X9 54 (z_up (S_X9 49 (z_up (S_X9 44 (z_up (S_X9 39 (z_up (S_X9 34 (z_up (S_X9 29 (z_up (z_up (z_up st 24 1 0) 24 4 0) 24 6 0)) 25 (-1) (0 + 1))) 25 (-1) (1 + 1))) 25 (-1) (2 + 1))) 25 (-1) (3 + 1))) 25 (-1) (4 + 1))) 25 (-1) (5 + 1))) 26 (-1) (0 + 1)) 25 (-1) = 6 := by rw [z_up_n (by decide)]; exact hc25
  refine zb_iinc [(1, .int (zI 1)), (0, .ref (b + 24))] 0 hc dX4_init_99 rfl (by decide) rfl ?_
  refine zb_goto (tgt := 80) hc dX4_init_102 (by decide) ?_
  refine zb_iload_n (i := 1) 0 hc dX4_init_80 rfl rfl ?_
  refine zb_bipush hc dX4_init_81 rfl ?_
  refine zb_geF hc dX4_init_83 (by decide) 105 (by decide) ?_
  refine zb_aload_n (i := 0) 1 hc dX4_init_86 rfl rfl ?_
  refine zb_get (k := 24) (k' := 26) (j := 2) (ks := [(4, 1), (0, 0), (4, 2), (4, 3), (0, 0), (4, 4), (0, 0)]) hc fl_RX4_23 (by (try simp only [z_Tu, z_Tr]); simp) (by decide) rfl rfl dX4_init_87 ?_
  refine zb_iload_n (i := 1) 0 hc dX4_init_90 rfl rfl ?_
  refine zb_new (NN := 4) (ks := [(5, 0), (5, 0), (0, 0), (0, 0)]) hc (fun y => hst185 _ _ (by omega)) (by (try simp only [z_Tu, z_Tr]); first | (rw [hT _ (by omega) (by omega)]; rfl) | (simp; rw [hT _ (by omega) (by omega)]; rfl) | rfl) zn_RX4_21 (fun j => rfl) (Nat.le_of_ble_eq_true rfl) (Nat.le_of_ble_eq_true rfl) dX4_init_91 ?_
  refine zb_dup hc dX4_init_94 rfl ?_
  refine zb_callN (np := 0) (k := 62) hc (zb_ABle hab hab2 (by decide)) (fun q h => hab2 q (by omega)) (by decide +kernel) hy ⟨⟨z_t1 99 rfl rfl, z_t1 5 rfl rfl, by decide +kernel, by decide⟩, z_t1 98 rfl rfl⟩ rfl rfl (fun l hl => b_X7 hl (k := 62) rfl rfl (fun j h1 h2 => by obtain ⟨i, hi, rfl⟩ : ∃ i, i < 2 ∧ j = 62 + 1 + i := ⟨j - 62 - 1, by omega, by omega⟩; exact zsub_62 i hi) (fun j h1 h2 => by (try simp only [z_Tu, z_Tr]); (repeat rw [if_neg (by omega)]); exact hT j (by omega) (by omega)) (z_st_le hst185 (by decide))) (by decide) (Nat.le_of_ble_eq_true rfl) (by decide) (by decide) dX4_init_95 ?_
  have hst199 : ∀ x y : Int, ((65 : Nat) : Int) ≤ x → (S_X7 62 (z_up (S_X7 59 (z_up (S_X9 54 (z_up (S_X9 49 (z_up (S_X9 44 (z_up (S_X9 39 (z_up (S_X9 34 (z_up (S_X9 29 (z_up (z_up (z_up st 24 1 0) 24 4 0) 24 6 0)) 25 (-1) (0 + 1))) 25 (-1) (1 + 1))) 25 (-1) (2 + 1))) 25 (-1) (3 + 1))) 25 (-1) (4 + 1))) 25 (-1) (5 + 1))) 26 (-1) (0 + 1))) x y = 0 := zs_X7 hst185 (by decide)
  rw [z_Tr_Tu (by decide)]
  rw [z_Tr_tr (by decide) (by decide)]
  replace hc25 : (S_X7 62 (z_up (S_X7 59 (z_up (S_X9 54 (z_up (S_X9 49 (z_up (S_X9 44 (z_up (S_X9 39 (z_up (S_X9 34 (z_up (S_X9 29 (z_up (z_up (z_up st 24 1 0) 24 4 0) 24 6 0)) 25 (-1) (0 + 1))) 25 (-1) (1 + 1))) 25 (-1) (2 + 1))) 25 (-1) (3 + 1))) 25 (-1) (4 + 1))) 25 (-1) (5 + 1))) 26 (-1) (0 + 1))) 25 (-1) = 6 := by unfold S_X7; rw [z_up_n (by decide), z_up_n (by decide)]; exact hc25
  replace hc26 : (S_X7 62 (z_up (S_X7 59 (z_up (S_X9 54 (z_up (S_X9 49 (z_up (S_X9 44 (z_up (S_X9 39 (z_up (S_X9 34 (z_up (S_X9 29 (z_up (z_up (z_up st 24 1 0) 24 4 0) 24 6 0)) 25 (-1) (0 + 1))) 25 (-1) (1 + 1))) 25 (-1) (2 + 1))) 25 (-1) (3 + 1))) 25 (-1) (4 + 1))) 25 (-1) (5 + 1))) 26 (-1) (0 + 1))) 26 (-1) = 1 := by unfold S_X7; rw [z_up_n (by decide), z_up_n (by decide)]; exact hc26
  refine zb_aast (kA := 26) (kv := 62) (ci := 7) (i := 1) (NN := 10) (d := 33) (s9 := 3) (τ := 6) (ks := [(4, 1), (4, 2), (0, 0), (0, 0)]) (kAI := 26) (i9 := 1) hc (zb_ABle hab hab2 (by decide)) (by (try simp only [z_Tu, z_Tr]); first | (rw [hT _ (by omega) (by omega)]; rfl) | (simp; rw [hT _ (by omega) (by omega)]; rfl) | rfl) (by decide) rfl ⟨RX7, fun _ => rfl, _, rfl, rfl⟩ (by (try simp only [z_Tu, z_Tr]); rfl) (by decide) (by decide) hc26 rfl (by decide) (by decide) dX4_init_98 ?_
  have hst205 : ∀ x y : Int, ((65 : Nat) : Int) ≤ x → (z_up (S_X7 62 (z_up (S_X7 59 (z_up (S_X9 54 (z_up (S_X9 49 (z_up (S_X9 44 (z_up (S_X9 39 (z_up (S_X9 34 (z_up (S_X9 29 (z_up (z_up (z_up st 24 1 0) 24 4 0) 24 6 0)) 25 (-1) (0 + 1))) 25 (-1) (1 + 1))) 25 (-1) (2 + 1))) 25 (-1) (3 + 1))) 25 (-1) (4 + 1))) 25 (-1) (5 + 1))) 26 (-1) (0 + 1))) 26 (-1) (1 + 1)) x y = 0 := z_st_up hst199 (by decide)
  replace hc26 : (z_up (S_X7 62 (z_up (S_X7 59 (z_up (S_X9 54 (z_up (S_X9 49 (z_up (S_X9 44 (z_up (S_X9 39 (z_up (S_X9 34 (z_up (S_X9 29 (z_up (z_up (z_up st 24 1 0) 24 4 0) 24 6 0)) 25 (-1) (0 + 1))) 25 (-1) (1 + 1))) 25 (-1) (2 + 1))) 25 (-1) (3 + 1))) 25 (-1) (4 + 1))) 25 (-1) (5 + 1))) 26 (-1) (0 + 1))) 26 (-1) (1 + 1)) 26 (-1) = 2 := by rw [z_up_at]; rfl
  replace hc25 : (z_up (S_X7 62 (z_up (S_X7 59 (z_up (S_X9 54 (z_up (S_X9 49 (z_up (S_X9 44 (z_up (S_X9 39 (z_up (S_X9 34 (z_up (S_X9 29 (z_up (z_up (z_up st 24 1 0) 24 4 0) 24 6 0)) 25 (-1) (0 + 1))) 25 (-1) (1 + 1))) 25 (-1) (2 + 1))) 25 (-1) (3 + 1))) 25 (-1) (4 + 1))) 25 (-1) (5 + 1))) 26 (-1) (0 + 1))) 26 (-1) (1 + 1)) 25 (-1) = 6 := by rw [z_up_n (by decide)]; exact hc25
  refine zb_iinc [(1, .int (zI 2)), (0, .ref (b + 24))] 0 hc dX4_init_99 rfl (by decide) rfl ?_
  refine zb_goto (tgt := 80) hc dX4_init_102 (by decide) ?_
  refine zb_iload_n (i := 1) 0 hc dX4_init_80 rfl rfl ?_
  refine zb_bipush hc dX4_init_81 rfl ?_
  refine zb_geF hc dX4_init_83 (by decide) 105 (by decide) ?_
  refine zb_aload_n (i := 0) 1 hc dX4_init_86 rfl rfl ?_
  refine zb_get (k := 24) (k' := 26) (j := 2) (ks := [(4, 1), (0, 0), (4, 2), (4, 3), (0, 0), (4, 4), (0, 0)]) hc fl_RX4_23 (by (try simp only [z_Tu, z_Tr]); simp) (by decide) rfl rfl dX4_init_87 ?_
  refine zb_iload_n (i := 1) 0 hc dX4_init_90 rfl rfl ?_
  refine zb_new (NN := 4) (ks := [(5, 0), (5, 0), (0, 0), (0, 0)]) hc (fun y => hst205 _ _ (by omega)) (by (try simp only [z_Tu, z_Tr]); first | (rw [hT _ (by omega) (by omega)]; rfl) | (simp; rw [hT _ (by omega) (by omega)]; rfl) | rfl) zn_RX4_21 (fun j => rfl) (Nat.le_of_ble_eq_true rfl) (Nat.le_of_ble_eq_true rfl) dX4_init_91 ?_
  refine zb_dup hc dX4_init_94 rfl ?_
  refine zb_callN (np := 0) (k := 65) hc (zb_ABle hab hab2 (by decide)) (fun q h => hab2 q (by omega)) (by decide +kernel) hy ⟨⟨z_t1 99 rfl rfl, z_t1 5 rfl rfl, by decide +kernel, by decide⟩, z_t1 98 rfl rfl⟩ rfl rfl (fun l hl => b_X7 hl (k := 65) rfl rfl (fun j h1 h2 => by obtain ⟨i, hi, rfl⟩ : ∃ i, i < 2 ∧ j = 65 + 1 + i := ⟨j - 65 - 1, by omega, by omega⟩; exact zsub_65 i hi) (fun j h1 h2 => by (try simp only [z_Tu, z_Tr]); (repeat rw [if_neg (by omega)]); exact hT j (by omega) (by omega)) (z_st_le hst205 (by decide))) (by decide) (Nat.le_of_ble_eq_true rfl) (by decide) (by decide) dX4_init_95 ?_
  have hst219 : ∀ x y : Int, ((68 : Nat) : Int) ≤ x → (S_X7 65 (z_up (S_X7 62 (z_up (S_X7 59 (z_up (S_X9 54 (z_up (S_X9 49 (z_up (S_X9 44 (z_up (S_X9 39 (z_up (S_X9 34 (z_up (S_X9 29 (z_up (z_up (z_up st 24 1 0) 24 4 0) 24 6 0)) 25 (-1) (0 + 1))) 25 (-1) (1 + 1))) 25 (-1) (2 + 1))) 25 (-1) (3 + 1))) 25 (-1) (4 + 1))) 25 (-1) (5 + 1))) 26 (-1) (0 + 1))) 26 (-1) (1 + 1))) x y = 0 := zs_X7 hst205 (by decide)
  rw [z_Tr_Tu (by decide)]
  rw [z_Tr_tr (by decide) (by decide)]
  replace hc25 : (S_X7 65 (z_up (S_X7 62 (z_up (S_X7 59 (z_up (S_X9 54 (z_up (S_X9 49 (z_up (S_X9 44 (z_up (S_X9 39 (z_up (S_X9 34 (z_up (S_X9 29 (z_up (z_up (z_up st 24 1 0) 24 4 0) 24 6 0)) 25 (-1) (0 + 1))) 25 (-1) (1 + 1))) 25 (-1) (2 + 1))) 25 (-1) (3 + 1))) 25 (-1) (4 + 1))) 25 (-1) (5 + 1))) 26 (-1) (0 + 1))) 26 (-1) (1 + 1))) 25 (-1) = 6 := by unfold S_X7; rw [z_up_n (by decide), z_up_n (by decide)]; exact hc25
  replace hc26 : (S_X7 65 (z_up (S_X7 62 (z_up (S_X7 59 (z_up (S_X9 54 (z_up (S_X9 49 (z_up (S_X9 44 (z_up (S_X9 39 (z_up (S_X9 34 (z_up (S_X9 29 (z_up (z_up (z_up st 24 1 0) 24 4 0) 24 6 0)) 25 (-1) (0 + 1))) 25 (-1) (1 + 1))) 25 (-1) (2 + 1))) 25 (-1) (3 + 1))) 25 (-1) (4 + 1))) 25 (-1) (5 + 1))) 26 (-1) (0 + 1))) 26 (-1) (1 + 1))) 26 (-1) = 2 := by unfold S_X7; rw [z_up_n (by decide), z_up_n (by decide)]; exact hc26
  refine zb_aast (kA := 26) (kv := 65) (ci := 7) (i := 2) (NN := 10) (d := 33) (s9 := 3) (τ := 6) (ks := [(4, 1), (4, 2), (0, 0), (0, 0)]) (kAI := 26) (i9 := 2) hc (zb_ABle hab hab2 (by decide)) (by (try simp only [z_Tu, z_Tr]); first | (rw [hT _ (by omega) (by omega)]; rfl) | (simp; rw [hT _ (by omega) (by omega)]; rfl) | rfl) (by decide) rfl ⟨RX7, fun _ => rfl, _, rfl, rfl⟩ (by (try simp only [z_Tu, z_Tr]); rfl) (by decide) (by decide) hc26 rfl (by decide) (by decide) dX4_init_98 ?_
  have hst225 : ∀ x y : Int, ((68 : Nat) : Int) ≤ x → (z_up (S_X7 65 (z_up (S_X7 62 (z_up (S_X7 59 (z_up (S_X9 54 (z_up (S_X9 49 (z_up (S_X9 44 (z_up (S_X9 39 (z_up (S_X9 34 (z_up (S_X9 29 (z_up (z_up (z_up st 24 1 0) 24 4 0) 24 6 0)) 25 (-1) (0 + 1))) 25 (-1) (1 + 1))) 25 (-1) (2 + 1))) 25 (-1) (3 + 1))) 25 (-1) (4 + 1))) 25 (-1) (5 + 1))) 26 (-1) (0 + 1))) 26 (-1) (1 + 1))) 26 (-1) (2 + 1)) x y = 0 := z_st_up hst219 (by decide)
  replace hc26 : (z_up (S_X7 65 (z_up (S_X7 62 (z_up (S_X7 59 (z_up (S_X9 54 (z_up (S_X9 49 (z_up (S_X9 44 (z_up (S_X9 39 (z_up (S_X9 34 (z_up (S_X9 29 (z_up (z_up (z_up st 24 1 0) 24 4 0) 24 6 0)) 25 (-1) (0 + 1))) 25 (-1) (1 + 1))) 25 (-1) (2 + 1))) 25 (-1) (3 + 1))) 25 (-1) (4 + 1))) 25 (-1) (5 + 1))) 26 (-1) (0 + 1))) 26 (-1) (1 + 1))) 26 (-1) (2 + 1)) 26 (-1) = 3 := by rw [z_up_at]; rfl
  replace hc25 : (z_up (S_X7 65 (z_up (S_X7 62 (z_up (S_X7 59 (z_up (S_X9 54 (z_up (S_X9 49 (z_up (S_X9 44 (z_up (S_X9 39 (z_up (S_X9 34 (z_up (S_X9 29 (z_up (z_up (z_up st 24 1 0) 24 4 0) 24 6 0)) 25 (-1) (0 + 1))) 25 (-1) (1 + 1))) 25 (-1) (2 + 1))) 25 (-1) (3 + 1))) 25 (-1) (4 + 1))) 25 (-1) (5 + 1))) 26 (-1) (0 + 1))) 26 (-1) (1 + 1))) 26 (-1) (2 + 1)) 25 (-1) = 6 := by rw [z_up_n (by decide)]; exact hc25
  refine zb_iinc [(1, .int (zI 3)), (0, .ref (b + 24))] 0 hc dX4_init_99 rfl (by decide) rfl ?_
  refine zb_goto (tgt := 80) hc dX4_init_102 (by decide) ?_
  refine zb_iload_n (i := 1) 0 hc dX4_init_80 rfl rfl ?_
  refine zb_bipush hc dX4_init_81 rfl ?_
  refine zb_geF hc dX4_init_83 (by decide) 105 (by decide) ?_
  refine zb_aload_n (i := 0) 1 hc dX4_init_86 rfl rfl ?_
  refine zb_get (k := 24) (k' := 26) (j := 2) (ks := [(4, 1), (0, 0), (4, 2), (4, 3), (0, 0), (4, 4), (0, 0)]) hc fl_RX4_23 (by (try simp only [z_Tu, z_Tr]); simp) (by decide) rfl rfl dX4_init_87 ?_
  refine zb_iload_n (i := 1) 0 hc dX4_init_90 rfl rfl ?_
  refine zb_new (NN := 4) (ks := [(5, 0), (5, 0), (0, 0), (0, 0)]) hc (fun y => hst225 _ _ (by omega)) (by (try simp only [z_Tu, z_Tr]); first | (rw [hT _ (by omega) (by omega)]; rfl) | (simp; rw [hT _ (by omega) (by omega)]; rfl) | rfl) zn_RX4_21 (fun j => rfl) (Nat.le_of_ble_eq_true rfl) (Nat.le_of_ble_eq_true rfl) dX4_init_91 ?_
  refine zb_dup hc dX4_init_94 rfl ?_
  refine zb_callN (np := 0) (k := 68) hc (zb_ABle hab hab2 (by decide)) (fun q h => hab2 q (by omega)) (by decide +kernel) hy ⟨⟨z_t1 99 rfl rfl, z_t1 5 rfl rfl, by decide +kernel, by decide⟩, z_t1 98 rfl rfl⟩ rfl rfl (fun l hl => b_X7 hl (k := 68) rfl rfl (fun j h1 h2 => by obtain ⟨i, hi, rfl⟩ : ∃ i, i < 2 ∧ j = 68 + 1 + i := ⟨j - 68 - 1, by omega, by omega⟩; exact zsub_68 i hi) (fun j h1 h2 => by (try simp only [z_Tu, z_Tr]); (repeat rw [if_neg (by omega)]); exact hT j (by omega) (by omega)) (z_st_le hst225 (by decide))) (by decide) (Nat.le_of_ble_eq_true rfl) (by decide) (by decide) dX4_init_95 ?_
  have hst239 : ∀ x y : Int, ((71 : Nat) : Int) ≤ x → (S_X7 68 (z_up (S_X7 65 (z_up (S_X7 62 (z_up (S_X7 59 (z_up (S_X9 54 (z_up (S_X9 49 (z_up (S_X9 44 (z_up (S_X9 39 (z_up (S_X9 34 (z_up (S_X9 29 (z_up (z_up (z_up st 24 1 0) 24 4 0) 24 6 0)) 25 (-1) (0 + 1))) 25 (-1) (1 + 1))) 25 (-1) (2 + 1))) 25 (-1) (3 + 1))) 25 (-1) (4 + 1))) 25 (-1) (5 + 1))) 26 (-1) (0 + 1))) 26 (-1) (1 + 1))) 26 (-1) (2 + 1))) x y = 0 := zs_X7 hst225 (by decide)
  rw [z_Tr_Tu (by decide)]
  rw [z_Tr_tr (by decide) (by decide)]
  replace hc25 : (S_X7 68 (z_up (S_X7 65 (z_up (S_X7 62 (z_up (S_X7 59 (z_up (S_X9 54 (z_up (S_X9 49 (z_up (S_X9 44 (z_up (S_X9 39 (z_up (S_X9 34 (z_up (S_X9 29 (z_up (z_up (z_up st 24 1 0) 24 4 0) 24 6 0)) 25 (-1) (0 + 1))) 25 (-1) (1 + 1))) 25 (-1) (2 + 1))) 25 (-1) (3 + 1))) 25 (-1) (4 + 1))) 25 (-1) (5 + 1))) 26 (-1) (0 + 1))) 26 (-1) (1 + 1))) 26 (-1) (2 + 1))) 25 (-1) = 6 := by unfold S_X7; rw [z_up_n (by decide), z_up_n (by decide)]; exact hc25
  replace hc26 : (S_X7 68 (z_up (S_X7 65 (z_up (S_X7 62 (z_up (S_X7 59 (z_up (S_X9 54 (z_up (S_X9 49 (z_up (S_X9 44 (z_up (S_X9 39 (z_up (S_X9 34 (z_up (S_X9 29 (z_up (z_up (z_up st 24 1 0) 24 4 0) 24 6 0)) 25 (-1) (0 + 1))) 25 (-1) (1 + 1))) 25 (-1) (2 + 1))) 25 (-1) (3 + 1))) 25 (-1) (4 + 1))) 25 (-1) (5 + 1))) 26 (-1) (0 + 1))) 26 (-1) (1 + 1))) 26 (-1) (2 + 1))) 26 (-1) = 3 := by unfold S_X7; rw [z_up_n (by decide), z_up_n (by decide)]; exact hc26
  refine zb_aast (kA := 26) (kv := 68) (ci := 7) (i := 3) (NN := 10) (d := 33) (s9 := 3) (τ := 6) (ks := [(4, 1), (4, 2), (0, 0), (0, 0)]) (kAI := 26) (i9 := 3) hc (zb_ABle hab hab2 (by decide)) (by (try simp only [z_Tu, z_Tr]); first | (rw [hT _ (by omega) (by omega)]; rfl) | (simp; rw [hT _ (by omega) (by omega)]; rfl) | rfl) (by decide) rfl ⟨RX7, fun _ => rfl, _, rfl, rfl⟩ (by (try simp only [z_Tu, z_Tr]); rfl) (by decide) (by decide) hc26 rfl (by decide) (by decide) dX4_init_98 ?_
  have hst245 : ∀ x y : Int, ((71 : Nat) : Int) ≤ x → (z_up (S_X7 68 (z_up (S_X7 65 (z_up (S_X7 62 (z_up (S_X7 59 (z_up (S_X9 54 (z_up (S_X9 49 (z_up (S_X9 44 (z_up (S_X9 39 (z_up (S_X9 34 (z_up (S_X9 29 (z_up (z_up (z_up st 24 1 0) 24 4 0) 24 6 0)) 25 (-1) (0 + 1))) 25 (-1) (1 + 1))) 25 (-1) (2 + 1))) 25 (-1) (3 + 1))) 25 (-1) (4 + 1))) 25 (-1) (5 + 1))) 26 (-1) (0 + 1))) 26 (-1) (1 + 1))) 26 (-1) (2 + 1))) 26 (-1) (3 + 1)) x y = 0 := z_st_up hst239 (by decide)
  replace hc26 : (z_up (S_X7 68 (z_up (S_X7 65 (z_up (S_X7 62 (z_up (S_X7 59 (z_up (S_X9 54 (z_up (S_X9 49 (z_up (S_X9 44 (z_up (S_X9 39 (z_up (S_X9 34 (z_up (S_X9 29 (z_up (z_up (z_up st 24 1 0) 24 4 0) 24 6 0)) 25 (-1) (0 + 1))) 25 (-1) (1 + 1))) 25 (-1) (2 + 1))) 25 (-1) (3 + 1))) 25 (-1) (4 + 1))) 25 (-1) (5 + 1))) 26 (-1) (0 + 1))) 26 (-1) (1 + 1))) 26 (-1) (2 + 1))) 26 (-1) (3 + 1)) 26 (-1) = 4 := by rw [z_up_at]; rfl
  replace hc25 : (z_up (S_X7 68 (z_up (S_X7 65 (z_up (S_X7 62 (z_up (S_X7 59 (z_up (S_X9 54 (z_up (S_X9 49 (z_up (S_X9 44 (z_up (S_X9 39 (z_up (S_X9 34 (z_up (S_X9 29 (z_up (z_up (z_up st 24 1 0) 24 4 0) 24 6 0)) 25 (-1) (0 + 1))) 25 (-1) (1 + 1))) 25 (-1) (2 + 1))) 25 (-1) (3 + 1))) 25 (-1) (4 + 1))) 25 (-1) (5 + 1))) 26 (-1) (0 + 1))) 26 (-1) (1 + 1))) 26 (-1) (2 + 1))) 26 (-1) (3 + 1)) 25 (-1) = 6 := by rw [z_up_n (by decide)]; exact hc25
  refine zb_iinc [(1, .int (zI 4)), (0, .ref (b + 24))] 0 hc dX4_init_99 rfl (by decide) rfl ?_
  refine zb_goto (tgt := 80) hc dX4_init_102 (by decide) ?_
  refine zb_iload_n (i := 1) 0 hc dX4_init_80 rfl rfl ?_
  refine zb_bipush hc dX4_init_81 rfl ?_
  refine zb_geF hc dX4_init_83 (by decide) 105 (by decide) ?_
  refine zb_aload_n (i := 0) 1 hc dX4_init_86 rfl rfl ?_
  refine zb_get (k := 24) (k' := 26) (j := 2) (ks := [(4, 1), (0, 0), (4, 2), (4, 3), (0, 0), (4, 4), (0, 0)]) hc fl_RX4_23 (by (try simp only [z_Tu, z_Tr]); simp) (by decide) rfl rfl dX4_init_87 ?_
  refine zb_iload_n (i := 1) 0 hc dX4_init_90 rfl rfl ?_
  refine zb_new (NN := 4) (ks := [(5, 0), (5, 0), (0, 0), (0, 0)]) hc (fun y => hst245 _ _ (by omega)) (by (try simp only [z_Tu, z_Tr]); first | (rw [hT _ (by omega) (by omega)]; rfl) | (simp; rw [hT _ (by omega) (by omega)]; rfl) | rfl) zn_RX4_21 (fun j => rfl) (Nat.le_of_ble_eq_true rfl) (Nat.le_of_ble_eq_true rfl) dX4_init_91 ?_
  refine zb_dup hc dX4_init_94 rfl ?_
  refine zb_callN (np := 0) (k := 71) hc (zb_ABle hab hab2 (by decide)) (fun q h => hab2 q (by omega)) (by decide +kernel) hy ⟨⟨z_t1 99 rfl rfl, z_t1 5 rfl rfl, by decide +kernel, by decide⟩, z_t1 98 rfl rfl⟩ rfl rfl (fun l hl => b_X7 hl (k := 71) rfl rfl (fun j h1 h2 => by obtain ⟨i, hi, rfl⟩ : ∃ i, i < 2 ∧ j = 71 + 1 + i := ⟨j - 71 - 1, by omega, by omega⟩; exact zsub_71 i hi) (fun j h1 h2 => by (try simp only [z_Tu, z_Tr]); (repeat rw [if_neg (by omega)]); exact hT j (by omega) (by omega)) (z_st_le hst245 (by decide))) (by decide) (Nat.le_of_ble_eq_true rfl) (by decide) (by decide) dX4_init_95 ?_
  have hst259 : ∀ x y : Int, ((74 : Nat) : Int) ≤ x → (S_X7 71 (z_up (S_X7 68 (z_up (S_X7 65 (z_up (S_X7 62 (z_up (S_X7 59 (z_up (S_X9 54 (z_up (S_X9 49 (z_up (S_X9 44 (z_up (S_X9 39 (z_up (S_X9 34 (z_up (S_X9 29 (z_up (z_up (z_up st 24 1 0) 24 4 0) 24 6 0)) 25 (-1) (0 + 1))) 25 (-1) (1 + 1))) 25 (-1) (2 + 1))) 25 (-1) (3 + 1))) 25 (-1) (4 + 1))) 25 (-1) (5 + 1))) 26 (-1) (0 + 1))) 26 (-1) (1 + 1))) 26 (-1) (2 + 1))) 26 (-1) (3 + 1))) x y = 0 := zs_X7 hst245 (by decide)
  rw [z_Tr_Tu (by decide)]
  rw [z_Tr_tr (by decide) (by decide)]
  replace hc25 : (S_X7 71 (z_up (S_X7 68 (z_up (S_X7 65 (z_up (S_X7 62 (z_up (S_X7 59 (z_up (S_X9 54 (z_up (S_X9 49 (z_up (S_X9 44 (z_up (S_X9 39 (z_up (S_X9 34 (z_up (S_X9 29 (z_up (z_up (z_up st 24 1 0) 24 4 0) 24 6 0)) 25 (-1) (0 + 1))) 25 (-1) (1 + 1))) 25 (-1) (2 + 1))) 25 (-1) (3 + 1))) 25 (-1) (4 + 1))) 25 (-1) (5 + 1))) 26 (-1) (0 + 1))) 26 (-1) (1 + 1))) 26 (-1) (2 + 1))) 26 (-1) (3 + 1))) 25 (-1) = 6 := by unfold S_X7; rw [z_up_n (by decide), z_up_n (by decide)]; exact hc25
  replace hc26 : (S_X7 71 (z_up (S_X7 68 (z_up (S_X7 65 (z_up (S_X7 62 (z_up (S_X7 59 (z_up (S_X9 54 (z_up (S_X9 49 (z_up (S_X9 44 (z_up (S_X9 39 (z_up (S_X9 34 (z_up (S_X9 29 (z_up (z_up (z_up st 24 1 0) 24 4 0) 24 6 0)) 25 (-1) (0 + 1))) 25 (-1) (1 + 1))) 25 (-1) (2 + 1))) 25 (-1) (3 + 1))) 25 (-1) (4 + 1))) 25 (-1) (5 + 1))) 26 (-1) (0 + 1))) 26 (-1) (1 + 1))) 26 (-1) (2 + 1))) 26 (-1) (3 + 1))) 26 (-1) = 4 := by unfold S_X7; rw [z_up_n (by decide), z_up_n (by decide)]; exact hc26
  refine zb_aast (kA := 26) (kv := 71) (ci := 7) (i := 4) (NN := 10) (d := 33) (s9 := 3) (τ := 6) (ks := [(4, 1), (4, 2), (0, 0), (0, 0)]) (kAI := 26) (i9 := 4) hc (zb_ABle hab hab2 (by decide)) (by (try simp only [z_Tu, z_Tr]); first | (rw [hT _ (by omega) (by omega)]; rfl) | (simp; rw [hT _ (by omega) (by omega)]; rfl) | rfl) (by decide) rfl ⟨RX7, fun _ => rfl, _, rfl, rfl⟩ (by (try simp only [z_Tu, z_Tr]); rfl) (by decide) (by decide) hc26 rfl (by decide) (by decide) dX4_init_98 ?_
  have hst265 : ∀ x y : Int, ((74 : Nat) : Int) ≤ x → (z_up (S_X7 71 (z_up (S_X7 68 (z_up (S_X7 65 (z_up (S_X7 62 (z_up (S_X7 59 (z_up (S_X9 54 (z_up (S_X9 49 (z_up (S_X9 44 (z_up (S_X9 39 (z_up (S_X9 34 (z_up (S_X9 29 (z_up (z_up (z_up st 24 1 0) 24 4 0) 24 6 0)) 25 (-1) (0 + 1))) 25 (-1) (1 + 1))) 25 (-1) (2 + 1))) 25 (-1) (3 + 1))) 25 (-1) (4 + 1))) 25 (-1) (5 + 1))) 26 (-1) (0 + 1))) 26 (-1) (1 + 1))) 26 (-1) (2 + 1))) 26 (-1) (3 + 1))) 26 (-1) (4 + 1)) x y = 0 := z_st_up hst259 (by decide)
  replace hc26 : (z_up (S_X7 71 (z_up (S_X7 68 (z_up (S_X7 65 (z_up (S_X7 62 (z_up (S_X7 59 (z_up (S_X9 54 (z_up (S_X9 49 (z_up (S_X9 44 (z_up (S_X9 39 (z_up (S_X9 34 (z_up (S_X9 29 (z_up (z_up (z_up st 24 1 0) 24 4 0) 24 6 0)) 25 (-1) (0 + 1))) 25 (-1) (1 + 1))) 25 (-1) (2 + 1))) 25 (-1) (3 + 1))) 25 (-1) (4 + 1))) 25 (-1) (5 + 1))) 26 (-1) (0 + 1))) 26 (-1) (1 + 1))) 26 (-1) (2 + 1))) 26 (-1) (3 + 1))) 26 (-1) (4 + 1)) 26 (-1) = 5 := by rw [z_up_at]; rfl
  replace hc25 : (z_up (S_X7 71 (z_up (S_X7 68 (z_up (S_X7 65 (z_up (S_X7 62 (z_up (S_X7 59 (z_up (S_X9 54 (z_up (S_X9 49 (z_up (S_X9 44 (z_up (S_X9 39 (z_up (S_X9 34 (z_up (S_X9 29 (z_up (z_up (z_up st 24 1 0) 24 4 0) 24 6 0)) 25 (-1) (0 + 1))) 25 (-1) (1 + 1))) 25 (-1) (2 + 1))) 25 (-1) (3 + 1))) 25 (-1) (4 + 1))) 25 (-1) (5 + 1))) 26 (-1) (0 + 1))) 26 (-1) (1 + 1))) 26 (-1) (2 + 1))) 26 (-1) (3 + 1))) 26 (-1) (4 + 1)) 25 (-1) = 6 := by rw [z_up_n (by decide)]; exact hc25
  refine zb_iinc [(1, .int (zI 5)), (0, .ref (b + 24))] 0 hc dX4_init_99 rfl (by decide) rfl ?_
  refine zb_goto (tgt := 80) hc dX4_init_102 (by decide) ?_
  refine zb_iload_n (i := 1) 0 hc dX4_init_80 rfl rfl ?_
  refine zb_bipush hc dX4_init_81 rfl ?_
  refine zb_geF hc dX4_init_83 (by decide) 105 (by decide) ?_
  refine zb_aload_n (i := 0) 1 hc dX4_init_86 rfl rfl ?_
  refine zb_get (k := 24) (k' := 26) (j := 2) (ks := [(4, 1), (0, 0), (4, 2), (4, 3), (0, 0), (4, 4), (0, 0)]) hc fl_RX4_23 (by (try simp only [z_Tu, z_Tr]); simp) (by decide) rfl rfl dX4_init_87 ?_
  refine zb_iload_n (i := 1) 0 hc dX4_init_90 rfl rfl ?_
  refine zb_new (NN := 4) (ks := [(5, 0), (5, 0), (0, 0), (0, 0)]) hc (fun y => hst265 _ _ (by omega)) (by (try simp only [z_Tu, z_Tr]); first | (rw [hT _ (by omega) (by omega)]; rfl) | (simp; rw [hT _ (by omega) (by omega)]; rfl) | rfl) zn_RX4_21 (fun j => rfl) (Nat.le_of_ble_eq_true rfl) (Nat.le_of_ble_eq_true rfl) dX4_init_91 ?_
  refine zb_dup hc dX4_init_94 rfl ?_
  refine zb_callN (np := 0) (k := 74) hc (zb_ABle hab hab2 (by decide)) (fun q h => hab2 q (by omega)) (by decide +kernel) hy ⟨⟨z_t1 99 rfl rfl, z_t1 5 rfl rfl, by decide +kernel, by decide⟩, z_t1 98 rfl rfl⟩ rfl rfl (fun l hl => b_X7 hl (k := 74) rfl rfl (fun j h1 h2 => by obtain ⟨i, hi, rfl⟩ : ∃ i, i < 2 ∧ j = 74 + 1 + i := ⟨j - 74 - 1, by omega, by omega⟩; exact zsub_74 i hi) (fun j h1 h2 => by (try simp only [z_Tu, z_Tr]); (repeat rw [if_neg (by omega)]); exact hT j (by omega) (by omega)) (z_st_le hst265 (by decide))) (by decide) (Nat.le_of_ble_eq_true rfl) (by decide) (by decide) dX4_init_95 ?_
  have hst279 : ∀ x y : Int, ((77 : Nat) : Int) ≤ x → (S_X7 74 (z_up (S_X7 71 (z_up (S_X7 68 (z_up (S_X7 65 (z_up (S_X7 62 (z_up (S_X7 59 (z_up (S_X9 54 (z_up (S_X9 49 (z_up (S_X9 44 (z_up (S_X9 39 (z_up (S_X9 34 (z_up (S_X9 29 (z_up (z_up (z_up st 24 1 0) 24 4 0) 24 6 0)) 25 (-1) (0 + 1))) 25 (-1) (1 + 1))) 25 (-1) (2 + 1))) 25 (-1) (3 + 1))) 25 (-1) (4 + 1))) 25 (-1) (5 + 1))) 26 (-1) (0 + 1))) 26 (-1) (1 + 1))) 26 (-1) (2 + 1))) 26 (-1) (3 + 1))) 26 (-1) (4 + 1))) x y = 0 := zs_X7 hst265 (by decide)
  rw [z_Tr_Tu (by decide)]
  rw [z_Tr_tr (by decide) (by decide)]
  replace hc25 : (S_X7 74 (z_up (S_X7 71 (z_up (S_X7 68 (z_up (S_X7 65 (z_up (S_X7 62 (z_up (S_X7 59 (z_up (S_X9 54 (z_up (S_X9 49 (z_up (S_X9 44 (z_up (S_X9 39 (z_up (S_X9 34 (z_up (S_X9 29 (z_up (z_up (z_up st 24 1 0) 24 4 0) 24 6 0)) 25 (-1) (0 + 1))) 25 (-1) (1 + 1))) 25 (-1) (2 + 1))) 25 (-1) (3 + 1))) 25 (-1) (4 + 1))) 25 (-1) (5 + 1))) 26 (-1) (0 + 1))) 26 (-1) (1 + 1))) 26 (-1) (2 + 1))) 26 (-1) (3 + 1))) 26 (-1) (4 + 1))) 25 (-1) = 6 := by unfold S_X7; rw [z_up_n (by decide), z_up_n (by decide)]; exact hc25
  replace hc26 : (S_X7 74 (z_up (S_X7 71 (z_up (S_X7 68 (z_up (S_X7 65 (z_up (S_X7 62 (z_up (S_X7 59 (z_up (S_X9 54 (z_up (S_X9 49 (z_up (S_X9 44 (z_up (S_X9 39 (z_up (S_X9 34 (z_up (S_X9 29 (z_up (z_up (z_up st 24 1 0) 24 4 0) 24 6 0)) 25 (-1) (0 + 1))) 25 (-1) (1 + 1))) 25 (-1) (2 + 1))) 25 (-1) (3 + 1))) 25 (-1) (4 + 1))) 25 (-1) (5 + 1))) 26 (-1) (0 + 1))) 26 (-1) (1 + 1))) 26 (-1) (2 + 1))) 26 (-1) (3 + 1))) 26 (-1) (4 + 1))) 26 (-1) = 5 := by unfold S_X7; rw [z_up_n (by decide), z_up_n (by decide)]; exact hc26
  refine zb_aast (kA := 26) (kv := 74) (ci := 7) (i := 5) (NN := 10) (d := 33) (s9 := 3) (τ := 6) (ks := [(4, 1), (4, 2), (0, 0), (0, 0)]) (kAI := 26) (i9 := 5) hc (zb_ABle hab hab2 (by decide)) (by (try simp only [z_Tu, z_Tr]); first | (rw [hT _ (by omega) (by omega)]; rfl) | (simp; rw [hT _ (by omega) (by omega)]; rfl) | rfl) (by decide) rfl ⟨RX7, fun _ => rfl, _, rfl, rfl⟩ (by (try simp only [z_Tu, z_Tr]); rfl) (by decide) (by decide) hc26 rfl (by decide) (by decide) dX4_init_98 ?_
  have hst285 : ∀ x y : Int, ((77 : Nat) : Int) ≤ x → (z_up (S_X7 74 (z_up (S_X7 71 (z_up (S_X7 68 (z_up (S_X7 65 (z_up (S_X7 62 (z_up (S_X7 59 (z_up (S_X9 54 (z_up (S_X9 49 (z_up (S_X9 44 (z_up (S_X9 39 (z_up (S_X9 34 (z_up (S_X9 29 (z_up (z_up (z_up st 24 1 0) 24 4 0) 24 6 0)) 25 (-1) (0 + 1))) 25 (-1) (1 + 1))) 25 (-1) (2 + 1))) 25 (-1) (3 + 1))) 25 (-1) (4 + 1))) 25 (-1) (5 + 1))) 26 (-1) (0 + 1))) 26 (-1) (1 + 1))) 26 (-1) (2 + 1))) 26 (-1) (3 + 1))) 26 (-1) (4 + 1))) 26 (-1) (5 + 1)) x y = 0 := z_st_up hst279 (by decide)
  replace hc26 : (z_up (S_X7 74 (z_up (S_X7 71 (z_up (S_X7 68 (z_up (S_X7 65 (z_up (S_X7 62 (z_up (S_X7 59 (z_up (S_X9 54 (z_up (S_X9 49 (z_up (S_X9 44 (z_up (S_X9 39 (z_up (S_X9 34 (z_up (S_X9 29 (z_up (z_up (z_up st 24 1 0) 24 4 0) 24 6 0)) 25 (-1) (0 + 1))) 25 (-1) (1 + 1))) 25 (-1) (2 + 1))) 25 (-1) (3 + 1))) 25 (-1) (4 + 1))) 25 (-1) (5 + 1))) 26 (-1) (0 + 1))) 26 (-1) (1 + 1))) 26 (-1) (2 + 1))) 26 (-1) (3 + 1))) 26 (-1) (4 + 1))) 26 (-1) (5 + 1)) 26 (-1) = 6 := by rw [z_up_at]; rfl
  replace hc25 : (z_up (S_X7 74 (z_up (S_X7 71 (z_up (S_X7 68 (z_up (S_X7 65 (z_up (S_X7 62 (z_up (S_X7 59 (z_up (S_X9 54 (z_up (S_X9 49 (z_up (S_X9 44 (z_up (S_X9 39 (z_up (S_X9 34 (z_up (S_X9 29 (z_up (z_up (z_up st 24 1 0) 24 4 0) 24 6 0)) 25 (-1) (0 + 1))) 25 (-1) (1 + 1))) 25 (-1) (2 + 1))) 25 (-1) (3 + 1))) 25 (-1) (4 + 1))) 25 (-1) (5 + 1))) 26 (-1) (0 + 1))) 26 (-1) (1 + 1))) 26 (-1) (2 + 1))) 26 (-1) (3 + 1))) 26 (-1) (4 + 1))) 26 (-1) (5 + 1)) 25 (-1) = 6 := by rw [z_up_n (by decide)]; exact hc25
  refine zb_iinc [(1, .int (zI 6)), (0, .ref (b + 24))] 0 hc dX4_init_99 rfl (by decide) rfl ?_
  refine zb_goto (tgt := 80) hc dX4_init_102 (by decide) ?_
  refine zb_iload_n (i := 1) 0 hc dX4_init_80 rfl rfl ?_
  refine zb_bipush hc dX4_init_81 rfl ?_
  refine zb_geF hc dX4_init_83 (by decide) 105 (by decide) ?_
  refine zb_aload_n (i := 0) 1 hc dX4_init_86 rfl rfl ?_
  refine zb_get (k := 24) (k' := 26) (j := 2) (ks := [(4, 1), (0, 0), (4, 2), (4, 3), (0, 0), (4, 4), (0, 0)]) hc fl_RX4_23 (by (try simp only [z_Tu, z_Tr]); simp) (by decide) rfl rfl dX4_init_87 ?_
  refine zb_iload_n (i := 1) 0 hc dX4_init_90 rfl rfl ?_
  refine zb_new (NN := 4) (ks := [(5, 0), (5, 0), (0, 0), (0, 0)]) hc (fun y => hst285 _ _ (by omega)) (by (try simp only [z_Tu, z_Tr]); first | (rw [hT _ (by omega) (by omega)]; rfl) | (simp; rw [hT _ (by omega) (by omega)]; rfl) | rfl) zn_RX4_21 (fun j => rfl) (Nat.le_of_ble_eq_true rfl) (Nat.le_of_ble_eq_true rfl) dX4_init_91 ?_
  refine zb_dup hc dX4_init_94 rfl ?_
  refine zb_callN (np := 0) (k := 77) hc (zb_ABle hab hab2 (by decide)) (fun q h => hab2 q (by omega)) (by decide +kernel) hy ⟨⟨z_t1 99 rfl rfl, z_t1 5 rfl rfl, by decide +kernel, by decide⟩, z_t1 98 rfl rfl⟩ rfl rfl (fun l hl => b_X7 hl (k := 77) rfl rfl (fun j h1 h2 => by obtain ⟨i, hi, rfl⟩ : ∃ i, i < 2 ∧ j = 77 + 1 + i := ⟨j - 77 - 1, by omega, by omega⟩; exact zsub_77 i hi) (fun j h1 h2 => by (try simp only [z_Tu, z_Tr]); (repeat rw [if_neg (by omega)]); exact hT j (by omega) (by omega)) (z_st_le hst285 (by decide))) (by decide) (Nat.le_of_ble_eq_true rfl) (by decide) (by decide) dX4_init_95 ?_
  have hst299 : ∀ x y : Int, ((80 : Nat) : Int) ≤ x → (S_X7 77 (z_up (S_X7 74 (z_up (S_X7 71 (z_up (S_X7 68 (z_up (S_X7 65 (z_up (S_X7 62 (z_up (S_X7 59 (z_up (S_X9 54 (z_up (S_X9 49 (z_up (S_X9 44 (z_up (S_X9 39 (z_up (S_X9 34 (z_up (S_X9 29 (z_up (z_up (z_up st 24 1 0) 24 4 0) 24 6 0)) 25 (-1) (0 + 1))) 25 (-1) (1 + 1))) 25 (-1) (2 + 1))) 25 (-1) (3 + 1))) 25 (-1) (4 + 1))) 25 (-1) (5 + 1))) 26 (-1) (0 + 1))) 26 (-1) (1 + 1))) 26 (-1) (2 + 1))) 26 (-1) (3 + 1))) 26 (-1) (4 + 1))) 26 (-1) (5 + 1))) x y = 0 := zs_X7 hst285 (by decide)
  rw [z_Tr_Tu (by decide)]
  rw [z_Tr_tr (by decide) (by decide)]
  replace hc25 : (S_X7 77 (z_up (S_X7 74 (z_up (S_X7 71 (z_up (S_X7 68 (z_up (S_X7 65 (z_up (S_X7 62 (z_up (S_X7 59 (z_up (S_X9 54 (z_up (S_X9 49 (z_up (S_X9 44 (z_up (S_X9 39 (z_up (S_X9 34 (z_up (S_X9 29 (z_up (z_up (z_up st 24 1 0) 24 4 0) 24 6 0)) 25 (-1) (0 + 1))) 25 (-1) (1 + 1))) 25 (-1) (2 + 1))) 25 (-1) (3 + 1))) 25 (-1) (4 + 1))) 25 (-1) (5 + 1))) 26 (-1) (0 + 1))) 26 (-1) (1 + 1))) 26 (-1) (2 + 1))) 26 (-1) (3 + 1))) 26 (-1) (4 + 1))) 26 (-1) (5 + 1))) 25 (-1) = 6 := by unfold S_X7; rw [z_up_n (by decide), z_up_n (by decide)]; exact hc25
  replace hc26 : (S_X7 77 (z_up (S_X7 74 (z_up (S_X7 71 (z_up (S_X7 68 (z_up (S_X7 65 (z_up (S_X7 62 (z_up (S_X7 59 (z_up (S_X9 54 (z_up (S_X9 49 (z_up (S_X9 44 (z_up (S_X9 39 (z_up (S_X9 34 (z_up (S_X9 29 (z_up (z_up (z_up st 24 1 0) 24 4 0) 24 6 0)) 25 (-1) (0 + 1))) 25 (-1) (1 + 1))) 25 (-1) (2 + 1))) 25 (-1) (3 + 1))) 25 (-1) (4 + 1))) 25 (-1) (5 + 1))) 26 (-1) (0 + 1))) 26 (-1) (1 + 1))) 26 (-1) (2 + 1))) 26 (-1) (3 + 1))) 26 (-1) (4 + 1))) 26 (-1) (5 + 1))) 26 (-1) = 6 := by unfold S_X7; rw [z_up_n (by decide), z_up_n (by decide)]; exact hc26
  refine zb_aast (kA := 26) (kv := 77) (ci := 7) (i := 6) (NN := 10) (d := 33) (s9 := 3) (τ := 6) (ks := [(4, 1), (4, 2), (0, 0), (0, 0)]) (kAI := 26) (i9 := 6) hc (zb_ABle hab hab2 (by decide)) (by (try simp only [z_Tu, z_Tr]); first | (rw [hT _ (by omega) (by omega)]; rfl) | (simp; rw [hT _ (by omega) (by omega)]; rfl) | rfl) (by decide) rfl ⟨RX7, fun _ => rfl, _, rfl, rfl⟩ (by (try simp only [z_Tu, z_Tr]); rfl) (by decide) (by decide) hc26 rfl (by decide) (by decide) dX4_init_98 ?_
  have hst305 : ∀ x y : Int, ((80 : Nat) : Int) ≤ x → (z_up (S_X7 77 (z_up (S_X7 74 (z_up (S_X7 71 (z_up (S_X7 68 (z_up (S_X7 65 (z_up (S_X7 62 (z_up (S_X7 59 (z_up (S_X9 54 (z_up (S_X9 49 (z_up (S_X9 44 (z_up (S_X9 39 (z_up (S_X9 34 (z_up (S_X9 29 (z_up (z_up (z_up st 24 1 0) 24 4 0) 24 6 0)) 25 (-1) (0 + 1))) 25 (-1) (1 + 1))) 25 (-1) (2 + 1))) 25 (-1) (3 + 1))) 25 (-1) (4 + 1))) 25 (-1) (5 + 1))) 26 (-1) (0 + 1))) 26 (-1) (1 + 1))) 26 (-1) (2 + 1))) 26 (-1) (3 + 1))) 26 (-1) (4 + 1))) 26 (-1) (5 + 1))) 26 (-1) (6 + 1)) x y = 0 := z_st_up hst299 (by decide)
  replace hc26 : (z_up (S_X7 77 (z_up (S_X7 74 (z_up (S_X7 71 (z_up (S_X7 68 (z_up (S_X7 65 (z_up (S_X7 62 (z_up (S_X7 59 (z_up (S_X9 54 (z_up (S_X9 49 (z_up (S_X9 44 (z_up (S_X9 39 (z_up (S_X9 34 (z_up (S_X9 29 (z_up (z_up (z_up st 24 1 0) 24 4 0) 24 6 0)) 25 (-1) (0 + 1))) 25 (-1) (1 + 1))) 25 (-1) (2 + 1))) 25 (-1) (3 + 1))) 25 (-1) (4 + 1))) 25 (-1) (5 + 1))) 26 (-1) (0 + 1))) 26 (-1) (1 + 1))) 26 (-1) (2 + 1))) 26 (-1) (3 + 1))) 26 (-1) (4 + 1))) 26 (-1) (5 + 1))) 26 (-1) (6 + 1)) 26 (-1) = 7 := by rw [z_up_at]; rfl
  replace hc25 : (z_up (S_X7 77 (z_up (S_X7 74 (z_up (S_X7 71 (z_up (S_X7 68 (z_up (S_X7 65 (z_up (S_X7 62 (z_up (S_X7 59 (z_up (S_X9 54 (z_up (S_X9 49 (z_up (S_X9 44 (z_up (S_X9 39 (z_up (S_X9 34 (z_up (S_X9 29 (z_up (z_up (z_up st 24 1 0) 24 4 0) 24 6 0)) 25 (-1) (0 + 1))) 25 (-1) (1 + 1))) 25 (-1) (2 + 1))) 25 (-1) (3 + 1))) 25 (-1) (4 + 1))) 25 (-1) (5 + 1))) 26 (-1) (0 + 1))) 26 (-1) (1 + 1))) 26 (-1) (2 + 1))) 26 (-1) (3 + 1))) 26 (-1) (4 + 1))) 26 (-1) (5 + 1))) 26 (-1) (6 + 1)) 25 (-1) = 6 := by rw [z_up_n (by decide)]; exact hc25
  refine zb_iinc [(1, .int (zI 7)), (0, .ref (b + 24))] 0 hc dX4_init_99 rfl (by decide) rfl ?_
  refine zb_goto (tgt := 80) hc dX4_init_102 (by decide) ?_
  refine zb_iload_n (i := 1) 0 hc dX4_init_80 rfl rfl ?_
  refine zb_bipush hc dX4_init_81 rfl ?_
  refine zb_geF hc dX4_init_83 (by decide) 105 (by decide) ?_
  refine zb_aload_n (i := 0) 1 hc dX4_init_86 rfl rfl ?_
  refine zb_get (k := 24) (k' := 26) (j := 2) (ks := [(4, 1), (0, 0), (4, 2), (4, 3), (0, 0), (4, 4), (0, 0)]) hc fl_RX4_23 (by (try simp only [z_Tu, z_Tr]); simp) (by decide) rfl rfl dX4_init_87 ?_
  refine zb_iload_n (i := 1) 0 hc dX4_init_90 rfl rfl ?_
  refine zb_new (NN := 4) (ks := [(5, 0), (5, 0), (0, 0), (0, 0)]) hc (fun y => hst305 _ _ (by omega)) (by (try simp only [z_Tu, z_Tr]); first | (rw [hT _ (by omega) (by omega)]; rfl) | (simp; rw [hT _ (by omega) (by omega)]; rfl) | rfl) zn_RX4_21 (fun j => rfl) (Nat.le_of_ble_eq_true rfl) (Nat.le_of_ble_eq_true rfl) dX4_init_91 ?_
  refine zb_dup hc dX4_init_94 rfl ?_
  refine zb_callN (np := 0) (k := 80) hc (zb_ABle hab hab2 (by decide)) (fun q h => hab2 q (by omega)) (by decide +kernel) hy ⟨⟨z_t1 99 rfl rfl, z_t1 5 rfl rfl, by decide +kernel, by decide⟩, z_t1 98 rfl rfl⟩ rfl rfl (fun l hl => b_X7 hl (k := 80) rfl rfl (fun j h1 h2 => by obtain ⟨i, hi, rfl⟩ : ∃ i, i < 2 ∧ j = 80 + 1 + i := ⟨j - 80 - 1, by omega, by omega⟩; exact zsub_80 i hi) (fun j h1 h2 => by (try simp only [z_Tu, z_Tr]); (repeat rw [if_neg (by omega)]); exact hT j (by omega) (by omega)) (z_st_le hst305 (by decide))) (by decide) (Nat.le_of_ble_eq_true rfl) (by decide) (by decide) dX4_init_95 ?_
  have hst319 : ∀ x y : Int, ((83 : Nat) : Int) ≤ x → (S_X7 80 (z_up (S_X7 77 (z_up (S_X7 74 (z_up (S_X7 71 (z_up (S_X7 68 (z_up (S_X7 65 (z_up (S_X7 62 (z_up (S_X7 59 (z_up (S_X9 54 (z_up (S_X9 49 (z_up (S_X9 44 (z_up (S_X9 39 (z_up (S_X9 34 (z_up (S_X9 29 (z_up (z_up (z_up st 24 1 0) 24 4 0) 24 6 0)) 25 (-1) (0 + 1))) 25 (-1) (1 + 1))) 25 (-1) (2 + 1))) 25 (-1) (3 + 1))) 25 (-1) (4 + 1))) 25 (-1) (5 + 1))) 26 (-1) (0 + 1))) 26 (-1) (1 + 1))) 26 (-1) (2 + 1))) 26 (-1) (3 + 1))) 26 (-1) (4 + 1))) 26 (-1) (5 + 1))) 26 (-1) (6 + 1))) x y = 0 := zs_X7 hst305 (by decide)
  rw [z_Tr_Tu (by decide)]
  rw [z_Tr_tr (by decide) (by decide)]
  replace hc25 : (S_X7 80 (z_up (S_X7 77 (z_up (S_X7 74 (z_up (S_X7 71 (z_up (S_X7 68 (z_up (S_X7 65 (z_up (S_X7 62 (z_up (S_X7 59 (z_up (S_X9 54 (z_up (S_X9 49 (z_up (S_X9 44 (z_up (S_X9 39 (z_up (S_X9 34 (z_up (S_X9 29 (z_up (z_up (z_up st 24 1 0) 24 4 0) 24 6 0)) 25 (-1) (0 + 1))) 25 (-1) (1 + 1))) 25 (-1) (2 + 1))) 25 (-1) (3 + 1))) 25 (-1) (4 + 1))) 25 (-1) (5 + 1))) 26 (-1) (0 + 1))) 26 (-1) (1 + 1))) 26 (-1) (2 + 1))) 26 (-1) (3 + 1))) 26 (-1) (4 + 1))) 26 (-1) (5 + 1))) 26 (-1) (6 + 1))) 25 (-1) = 6 := by unfold S_X7; rw [z_up_n (by decide), z_up_n (by decide)]; exact hc25
  replace hc26 : (S_X7 80 (z_up (S_X7 77 (z_up (S_X7 74 (z_up (S_X7 71 (z_up (S_X7 68 (z_up (S_X7 65 (z_up (S_X7 62 (z_up (S_X7 59 (z_up (S_X9 54 (z_up (S_X9 49 (z_up (S_X9 44 (z_up (S_X9 39 (z_up (S_X9 34 (z_up (S_X9 29 (z_up (z_up (z_up st 24 1 0) 24 4 0) 24 6 0)) 25 (-1) (0 + 1))) 25 (-1) (1 + 1))) 25 (-1) (2 + 1))) 25 (-1) (3 + 1))) 25 (-1) (4 + 1))) 25 (-1) (5 + 1))) 26 (-1) (0 + 1))) 26 (-1) (1 + 1))) 26 (-1) (2 + 1))) 26 (-1) (3 + 1))) 26 (-1) (4 + 1))) 26 (-1) (5 + 1))) 26 (-1) (6 + 1))) 26 (-1) = 7 := by unfold S_X7; rw [z_up_n (by decide), z_up_n (by decide)]; exact hc26
  refine zb_aast (kA := 26) (kv := 80) (ci := 7) (i := 7) (NN := 10) (d := 33) (s9 := 3) (τ := 6) (ks := [(4, 1), (4, 2), (0, 0), (0, 0)]) (kAI := 26) (i9 := 7) hc (zb_ABle hab hab2 (by decide)) (by (try simp only [z_Tu, z_Tr]); first | (rw [hT _ (by omega) (by omega)]; rfl) | (simp; rw [hT _ (by omega) (by omega)]; rfl) | rfl) (by decide) rfl ⟨RX7, fun _ => rfl, _, rfl, rfl⟩ (by (try simp only [z_Tu, z_Tr]); rfl) (by decide) (by decide) hc26 rfl (by decide) (by decide) dX4_init_98 ?_
  have hst325 : ∀ x y : Int, ((83 : Nat) : Int) ≤ x → (z_up (S_X7 80 (z_up (S_X7 77 (z_up (S_X7 74 (z_up (S_X7 71 (z_up (S_X7 68 (z_up (S_X7 65 (z_up (S_X7 62 (z_up (S_X7 59 (z_up (S_X9 54 (z_up (S_X9 49 (z_up (S_X9 44 (z_up (S_X9 39 (z_up (S_X9 34 (z_up (S_X9 29 (z_up (z_up (z_up st 24 1 0) 24 4 0) 24 6 0)) 25 (-1) (0 + 1))) 25 (-1) (1 + 1))) 25 (-1) (2 + 1))) 25 (-1) (3 + 1))) 25 (-1) (4 + 1))) 25 (-1) (5 + 1))) 26 (-1) (0 + 1))) 26 (-1) (1 + 1))) 26 (-1) (2 + 1))) 26 (-1) (3 + 1))) 26 (-1) (4 + 1))) 26 (-1) (5 + 1))) 26 (-1) (6 + 1))) 26 (-1) (7 + 1)) x y = 0 := z_st_up hst319 (by decide)
  replace hc26 : (z_up (S_X7 80 (z_up (S_X7 77 (z_up (S_X7 74 (z_up (S_X7 71 (z_up (S_X7 68 (z_up (S_X7 65 (z_up (S_X7 62 (z_up (S_X7 59 (z_up (S_X9 54 (z_up (S_X9 49 (z_up (S_X9 44 (z_up (S_X9 39 (z_up (S_X9 34 (z_up (S_X9 29 (z_up (z_up (z_up st 24 1 0) 24 4 0) 24 6 0)) 25 (-1) (0 + 1))) 25 (-1) (1 + 1))) 25 (-1) (2 + 1))) 25 (-1) (3 + 1))) 25 (-1) (4 + 1))) 25 (-1) (5 + 1))) 26 (-1) (0 + 1))) 26 (-1) (1 + 1))) 26 (-1) (2 + 1))) 26 (-1) (3 + 1))) 26 (-1) (4 + 1))) 26 (-1) (5 + 1))) 26 (-1) (6 + 1))) 26 (-1) (7 + 1)) 26 (-1) = 8 := by rw [z_up_at]; rfl
  replace hc25 : (z_up (S_X7 80 (z_up (S_X7 77 (z_up (S_X7 74 (z_up (S_X7 71 (z_up (S_X7 68 (z_up (S_X7 65 (z_up (S_X7 62 (z_up (S_X7 59 (z_up (S_X9 54 (z_up (S_X9 49 (z_up (S_X9 44 (z_up (S_X9 39 (z_up (S_X9 34 (z_up (S_X9 29 (z_up (z_up (z_up st 24 1 0) 24 4 0) 24 6 0)) 25 (-1) (0 + 1))) 25 (-1) (1 + 1))) 25 (-1) (2 + 1))) 25 (-1) (3 + 1))) 25 (-1) (4 + 1))) 25 (-1) (5 + 1))) 26 (-1) (0 + 1))) 26 (-1) (1 + 1))) 26 (-1) (2 + 1))) 26 (-1) (3 + 1))) 26 (-1) (4 + 1))) 26 (-1) (5 + 1))) 26 (-1) (6 + 1))) 26 (-1) (7 + 1)) 25 (-1) = 6 := by rw [z_up_n (by decide)]; exact hc25
  refine zb_iinc [(1, .int (zI 8)), (0, .ref (b + 24))] 0 hc dX4_init_99 rfl (by decide) rfl ?_
  refine zb_goto (tgt := 80) hc dX4_init_102 (by decide) ?_
  refine zb_iload_n (i := 1) 0 hc dX4_init_80 rfl rfl ?_
  refine zb_bipush hc dX4_init_81 rfl ?_
  refine zb_geF hc dX4_init_83 (by decide) 105 (by decide) ?_
  refine zb_aload_n (i := 0) 1 hc dX4_init_86 rfl rfl ?_
  refine zb_get (k := 24) (k' := 26) (j := 2) (ks := [(4, 1), (0, 0), (4, 2), (4, 3), (0, 0), (4, 4), (0, 0)]) hc fl_RX4_23 (by (try simp only [z_Tu, z_Tr]); simp) (by decide) rfl rfl dX4_init_87 ?_
  refine zb_iload_n (i := 1) 0 hc dX4_init_90 rfl rfl ?_
  refine zb_new (NN := 4) (ks := [(5, 0), (5, 0), (0, 0), (0, 0)]) hc (fun y => hst325 _ _ (by omega)) (by (try simp only [z_Tu, z_Tr]); first | (rw [hT _ (by omega) (by omega)]; rfl) | (simp; rw [hT _ (by omega) (by omega)]; rfl) | rfl) zn_RX4_21 (fun j => rfl) (Nat.le_of_ble_eq_true rfl) (Nat.le_of_ble_eq_true rfl) dX4_init_91 ?_
  refine zb_dup hc dX4_init_94 rfl ?_
  refine zb_callN (np := 0) (k := 83) hc (zb_ABle hab hab2 (by decide)) (fun q h => hab2 q (by omega)) (by decide +kernel) hy ⟨⟨z_t1 99 rfl rfl, z_t1 5 rfl rfl, by decide +kernel, by decide⟩, z_t1 98 rfl rfl⟩ rfl rfl (fun l hl => b_X7 hl (k := 83) rfl rfl (fun j h1 h2 => by obtain ⟨i, hi, rfl⟩ : ∃ i, i < 2 ∧ j = 83 + 1 + i := ⟨j - 83 - 1, by omega, by omega⟩; exact zsub_83 i hi) (fun j h1 h2 => by (try simp only [z_Tu, z_Tr]); (repeat rw [if_neg (by omega)]); exact hT j (by omega) (by omega)) (z_st_le hst325 (by decide))) (by decide) (Nat.le_of_ble_eq_true rfl) (by decide) (by decide) dX4_init_95 ?_
  have hst339 : ∀ x y : Int, ((86 : Nat) : Int) ≤ x → (S_X7 83 (z_up (S_X7 80 (z_up (S_X7 77 (z_up (S_X7 74 (z_up (S_X7 71 (z_up (S_X7 68 (z_up (S_X7 65 (z_up (S_X7 62 (z_up (S_X7 59 (z_up (S_X9 54 (z_up (S_X9 49 (z_up (S_X9 44 (z_up (S_X9 39 (z_up (S_X9 34 (z_up (S_X9 29 (z_up (z_up (z_up st 24 1 0) 24 4 0) 24 6 0)) 25 (-1) (0 + 1))) 25 (-1) (1 + 1))) 25 (-1) (2 + 1))) 25 (-1) (3 + 1))) 25 (-1) (4 + 1))) 25 (-1) (5 + 1))) 26 (-1) (0 + 1))) 26 (-1) (1 + 1))) 26 (-1) (2 + 1))) 26 (-1) (3 + 1))) 26 (-1) (4 + 1))) 26 (-1) (5 + 1))) 26 (-1) (6 + 1))) 26 (-1) (7 + 1))) x y = 0 := zs_X7 hst325 (by decide)
  rw [z_Tr_Tu (by decide)]
  rw [z_Tr_tr (by decide) (by decide)]
  replace hc25 : (S_X7 83 (z_up (S_X7 80 (z_up (S_X7 77 (z_up (S_X7 74 (z_up (S_X7 71 (z_up (S_X7 68 (z_up (S_X7 65 (z_up (S_X7 62 (z_up (S_X7 59 (z_up (S_X9 54 (z_up (S_X9 49 (z_up (S_X9 44 (z_up (S_X9 39 (z_up (S_X9 34 (z_up (S_X9 29 (z_up (z_up (z_up st 24 1 0) 24 4 0) 24 6 0)) 25 (-1) (0 + 1))) 25 (-1) (1 + 1))) 25 (-1) (2 + 1))) 25 (-1) (3 + 1))) 25 (-1) (4 + 1))) 25 (-1) (5 + 1))) 26 (-1) (0 + 1))) 26 (-1) (1 + 1))) 26 (-1) (2 + 1))) 26 (-1) (3 + 1))) 26 (-1) (4 + 1))) 26 (-1) (5 + 1))) 26 (-1) (6 + 1))) 26 (-1) (7 + 1))) 25 (-1) = 6 := by unfold S_X7; rw [z_up_n (by decide), z_up_n (by decide)]; exact hc25
  replace hc26 : (S_X7 83 (z_up (S_X7 80 (z_up (S_X7 77 (z_up (S_X7 74 (z_up (S_X7 71 (z_up (S_X7 68 (z_up (S_X7 65 (z_up (S_X7 62 (z_up (S_X7 59 (z_up (S_X9 54 (z_up (S_X9 49 (z_up (S_X9 44 (z_up (S_X9 39 (z_up (S_X9 34 (z_up (S_X9 29 (z_up (z_up (z_up st 24 1 0) 24 4 0) 24 6 0)) 25 (-1) (0 + 1))) 25 (-1) (1 + 1))) 25 (-1) (2 + 1))) 25 (-1) (3 + 1))) 25 (-1) (4 + 1))) 25 (-1) (5 + 1))) 26 (-1) (0 + 1))) 26 (-1) (1 + 1))) 26 (-1) (2 + 1))) 26 (-1) (3 + 1))) 26 (-1) (4 + 1))) 26 (-1) (5 + 1))) 26 (-1) (6 + 1))) 26 (-1) (7 + 1))) 26 (-1) = 8 := by unfold S_X7; rw [z_up_n (by decide), z_up_n (by decide)]; exact hc26
  refine zb_aast (kA := 26) (kv := 83) (ci := 7) (i := 8) (NN := 10) (d := 33) (s9 := 3) (τ := 6) (ks := [(4, 1), (4, 2), (0, 0), (0, 0)]) (kAI := 26) (i9 := 8) hc (zb_ABle hab hab2 (by decide)) (by (try simp only [z_Tu, z_Tr]); first | (rw [hT _ (by omega) (by omega)]; rfl) | (simp; rw [hT _ (by omega) (by omega)]; rfl) | rfl) (by decide) rfl ⟨RX7, fun _ => rfl, _, rfl, rfl⟩ (by (try simp only [z_Tu, z_Tr]); rfl) (by decide) (by decide) hc26 rfl (by decide) (by decide) dX4_init_98 ?_
  have hst345 : ∀ x y : Int, ((86 : Nat) : Int) ≤ x → (z_up (S_X7 83 (z_up (S_X7 80 (z_up (S_X7 77 (z_up (S_X7 74 (z_up (S_X7 71 (z_up (S_X7 68 (z_up (S_X7 65 (z_up (S_X7 62 (z_up (S_X7 59 (z_up (S_X9 54 (z_up (S_X9 49 (z_up (S_X9 44 (z_up (S_X9 39 (z_up (S_X9 34 (z_up (S_X9 29 (z_up (z_up (z_up st 24 1 0) 24 4 0) 24 6 0)) 25 (-1) (0 + 1))) 25 (-1) (1 + 1))) 25 (-1) (2 + 1))) 25 (-1) (3 + 1))) 25 (-1) (4 + 1))) 25 (-1) (5 + 1))) 26 (-1) (0 + 1))) 26 (-1) (1 + 1))) 26 (-1) (2 + 1))) 26 (-1) (3 + 1))) 26 (-1) (4 + 1))) 26 (-1) (5 + 1))) 26 (-1) (6 + 1))) 26 (-1) (7 + 1))) 26 (-1) (8 + 1)) x y = 0 := z_st_up hst339 (by decide)
  replace hc26 : (z_up (S_X7 83 (z_up (S_X7 80 (z_up (S_X7 77 (z_up (S_X7 74 (z_up (S_X7 71 (z_up (S_X7 68 (z_up (S_X7 65 (z_up (S_X7 62 (z_up (S_X7 59 (z_up (S_X9 54 (z_up (S_X9 49 (z_up (S_X9 44 (z_up (S_X9 39 (z_up (S_X9 34 (z_up (S_X9 29 (z_up (z_up (z_up st 24 1 0) 24 4 0) 24 6 0)) 25 (-1) (0 + 1))) 25 (-1) (1 + 1))) 25 (-1) (2 + 1))) 25 (-1) (3 + 1))) 25 (-1) (4 + 1))) 25 (-1) (5 + 1))) 26 (-1) (0 + 1))) 26 (-1) (1 + 1))) 26 (-1) (2 + 1))) 26 (-1) (3 + 1))) 26 (-1) (4 + 1))) 26 (-1) (5 + 1))) 26 (-1) (6 + 1))) 26 (-1) (7 + 1))) 26 (-1) (8 + 1)) 26 (-1) = 9 := by rw [z_up_at]; rfl
  replace hc25 : (z_up (S_X7 83 (z_up (S_X7 80 (z_up (S_X7 77 (z_up (S_X7 74 (z_up (S_X7 71 (z_up (S_X7 68 (z_up (S_X7 65 (z_up (S_X7 62 (z_up (S_X7 59 (z_up (S_X9 54 (z_up (S_X9 49 (z_up (S_X9 44 (z_up (S_X9 39 (z_up (S_X9 34 (z_up (S_X9 29 (z_up (z_up (z_up st 24 1 0) 24 4 0) 24 6 0)) 25 (-1) (0 + 1))) 25 (-1) (1 + 1))) 25 (-1) (2 + 1))) 25 (-1) (3 + 1))) 25 (-1) (4 + 1))) 25 (-1) (5 + 1))) 26 (-1) (0 + 1))) 26 (-1) (1 + 1))) 26 (-1) (2 + 1))) 26 (-1) (3 + 1))) 26 (-1) (4 + 1))) 26 (-1) (5 + 1))) 26 (-1) (6 + 1))) 26 (-1) (7 + 1))) 26 (-1) (8 + 1)) 25 (-1) = 6 := by rw [z_up_n (by decide)]; exact hc25
  refine zb_iinc [(1, .int (zI 9)), (0, .ref (b + 24))] 0 hc dX4_init_99 rfl (by decide) rfl ?_
  refine zb_goto (tgt := 80) hc dX4_init_102 (by decide) ?_
  refine zb_iload_n (i := 1) 0 hc dX4_init_80 rfl rfl ?_
  refine zb_bipush hc dX4_init_81 rfl ?_
  refine zb_geF hc dX4_init_83 (by decide) 105 (by decide) ?_
  refine zb_aload_n (i := 0) 1 hc dX4_init_86 rfl rfl ?_
  refine zb_get (k := 24) (k' := 26) (j := 2) (ks := [(4, 1), (0, 0), (4, 2), (4, 3), (0, 0), (4, 4), (0, 0)]) hc fl_RX4_23 (by (try simp only [z_Tu, z_Tr]); simp) (by decide) rfl rfl dX4_init_87 ?_
  refine zb_iload_n (i := 1) 0 hc dX4_init_90 rfl rfl ?_
  refine zb_new (NN := 4) (ks := [(5, 0), (5, 0), (0, 0), (0, 0)]) hc (fun y => hst345 _ _ (by omega)) (by (try simp only [z_Tu, z_Tr]); first | (rw [hT _ (by omega) (by omega)]; rfl) | (simp; rw [hT _ (by omega) (by omega)]; rfl) | rfl) zn_RX4_21 (fun j => rfl) (Nat.le_of_ble_eq_true rfl) (Nat.le_of_ble_eq_true rfl) dX4_init_91 ?_
  refine zb_dup hc dX4_init_94 rfl ?_
  refine zb_callN (np := 0) (k := 86) hc (zb_ABle hab hab2 (by decide)) (fun q h => hab2 q (by omega)) (by decide +kernel) hy ⟨⟨z_t1 99 rfl rfl, z_t1 5 rfl rfl, by decide +kernel, by decide⟩, z_t1 98 rfl rfl⟩ rfl rfl (fun l hl => b_X7 hl (k := 86) rfl rfl (fun j h1 h2 => by obtain ⟨i, hi, rfl⟩ : ∃ i, i < 2 ∧ j = 86 + 1 + i := ⟨j - 86 - 1, by omega, by omega⟩; exact zsub_86 i hi) (fun j h1 h2 => by (try simp only [z_Tu, z_Tr]); (repeat rw [if_neg (by omega)]); exact hT j (by omega) (by omega)) (z_st_le hst345 (by decide))) (by decide) (Nat.le_of_ble_eq_true rfl) (by decide) (by decide) dX4_init_95 ?_
  have hst359 : ∀ x y : Int, ((89 : Nat) : Int) ≤ x → (S_X7 86 (z_up (S_X7 83 (z_up (S_X7 80 (z_up (S_X7 77 (z_up (S_X7 74 (z_up (S_X7 71 (z_up (S_X7 68 (z_up (S_X7 65 (z_up (S_X7 62 (z_up (S_X7 59 (z_up (S_X9 54 (z_up (S_X9 49 (z_up (S_X9 44 (z_up (S_X9 39 (z_up (S_X9 34 (z_up (S_X9 29 (z_up (z_up (z_up st 24 1 0) 24 4 0) 24 6 0)) 25 (-1) (0 + 1))) 25 (-1) (1 + 1))) 25 (-1) (2 + 1))) 25 (-1) (3 + 1))) 25 (-1) (4 + 1))) 25 (-1) (5 + 1))) 26 (-1) (0 + 1))) 26 (-1) (1 + 1))) 26 (-1) (2 + 1))) 26 (-1) (3 + 1))) 26 (-1) (4 + 1))) 26 (-1) (5 + 1))) 26 (-1) (6 + 1))) 26 (-1) (7 + 1))) 26 (-1) (8 + 1))) x y = 0 := zs_X7 hst345 (by decide)
  rw [z_Tr_Tu (by decide)]
  rw [z_Tr_tr (by decide) (by decide)]
  replace hc25 : (S_X7 86 (z_up (S_X7 83 (z_up (S_X7 80 (z_up (S_X7 77 (z_up (S_X7 74 (z_up (S_X7 71 (z_up (S_X7 68 (z_up (S_X7 65 (z_up (S_X7 62 (z_up (S_X7 59 (z_up (S_X9 54 (z_up (S_X9 49 (z_up (S_X9 44 (z_up (S_X9 39 (z_up (S_X9 34 (z_up (S_X9 29 (z_up (z_up (z_up st 24 1 0) 24 4 0) 24 6 0)) 25 (-1) (0 + 1))) 25 (-1) (1 + 1))) 25 (-1) (2 + 1))) 25 (-1) (3 + 1))) 25 (-1) (4 + 1))) 25 (-1) (5 + 1))) 26 (-1) (0 + 1))) 26 (-1) (1 + 1))) 26 (-1) (2 + 1))) 26 (-1) (3 + 1))) 26 (-1) (4 + 1))) 26 (-1) (5 + 1))) 26 (-1) (6 + 1))) 26 (-1) (7 + 1))) 26 (-1) (8 + 1))) 25 (-1) = 6 := by unfold S_X7; rw [z_up_n (by decide), z_up_n (by decide)]; exact hc25
  replace hc26 : (S_X7 86 (z_up (S_X7 83 (z_up (S_X7 80 (z_up (S_X7 77 (z_up (S_X7 74 (z_up (S_X7 71 (z_up (S_X7 68 (z_up (S_X7 65 (z_up (S_X7 62 (z_up (S_X7 59 (z_up (S_X9 54 (z_up (S_X9 49 (z_up (S_X9 44 (z_up (S_X9 39 (z_up (S_X9 34 (z_up (S_X9 29 (z_up (z_up (z_up st 24 1 0) 24 4 0) 24 6 0)) 25 (-1) (0 + 1))) 25 (-1) (1 + 1))) 25 (-1) (2 + 1))) 25 (-1) (3 + 1))) 25 (-1) (4 + 1))) 25 (-1) (5 + 1))) 26 (-1) (0 + 1))) 26 (-1) (1 + 1))) 26 (-1) (2 + 1))) 26 (-1) (3 + 1))) 26 (-1) (4 + 1))) 26 (-1) (5 + 1))) 26 (-1) (6 + 1))) 26 (-1) (7 + 1))) 26 (-1) (8 + 1))) 26 (-1) = 9 := by unfold S_X7; rw [z_up_n (by decide), z_up_n (by decide)]; exact hc26
  refine zb_aast (kA := 26) (kv := 86) (ci := 7) (i := 9) (NN := 10) (d := 33) (s9 := 3) (τ := 6) (ks := [(4, 1), (4, 2), (0, 0), (0, 0)]) (kAI := 26) (i9 := 9) hc (zb_ABle hab hab2 (by decide)) (by (try simp only [z_Tu, z_Tr]); first | (rw [hT _ (by omega) (by omega)]; rfl) | (simp; rw [hT _ (by omega) (by omega)]; rfl) | rfl) (by decide) rfl ⟨RX7, fun _ => rfl, _, rfl, rfl⟩ (by (try simp only [z_Tu, z_Tr]); rfl) (by decide) (by decide) hc26 rfl (by decide) (by decide) dX4_init_98 ?_
  have hst365 : ∀ x y : Int, ((89 : Nat) : Int) ≤ x → (z_up (S_X7 86 (z_up (S_X7 83 (z_up (S_X7 80 (z_up (S_X7 77 (z_up (S_X7 74 (z_up (S_X7 71 (z_up (S_X7 68 (z_up (S_X7 65 (z_up (S_X7 62 (z_up (S_X7 59 (z_up (S_X9 54 (z_up (S_X9 49 (z_up (S_X9 44 (z_up (S_X9 39 (z_up (S_X9 34 (z_up (S_X9 29 (z_up (z_up (z_up st 24 1 0) 24 4 0) 24 6 0)) 25 (-1) (0 + 1))) 25 (-1) (1 + 1))) 25 (-1) (2 + 1))) 25 (-1) (3 + 1))) 25 (-1) (4 + 1))) 25 (-1) (5 + 1))) 26 (-1) (0 + 1))) 26 (-1) (1 + 1))) 26 (-1) (2 + 1))) 26 (-1) (3 + 1))) 26 (-1) (4 + 1))) 26 (-1) (5 + 1))) 26 (-1) (6 + 1))) 26 (-1) (7 + 1))) 26 (-1) (8 + 1))) 26 (-1) (9 + 1)) x y = 0 := z_st_up hst359 (by decide)
  replace hc26 : (z_up (S_X7 86 (z_up (S_X7 83 (z_up (S_X7 80 (z_up (S_X7 77 (z_up (S_X7 74 (z_up (S_X7 71 (z_up (S_X7 68 (z_up (S_X7 65 (z_up (S_X7 62 (z_up (S_X7 59 (z_up (S_X9 54 (z_up (S_X9 49 (z_up (S_X9 44 (z_up (S_X9 39 (z_up (S_X9 34 (z_up (S_X9 29 (z_up (z_up (z_up st 24 1 0) 24 4 0) 24 6 0)) 25 (-1) (0 + 1))) 25 (-1) (1 + 1))) 25 (-1) (2 + 1))) 25 (-1) (3 + 1))) 25 (-1) (4 + 1))) 25 (-1) (5 + 1))) 26 (-1) (0 + 1))) 26 (-1) (1 + 1))) 26 (-1) (2 + 1))) 26 (-1) (3 + 1))) 26 (-1) (4 + 1))) 26 (-1) (5 + 1))) 26 (-1) (6 + 1))) 26 (-1) (7 + 1))) 26 (-1) (8 + 1))) 26 (-1) (9 + 1)) 26 (-1) = 10 := by rw [z_up_at]; rfl
  replace hc25 : (z_up (S_X7 86 (z_up (S_X7 83 (z_up (S_X7 80 (z_up (S_X7 77 (z_up (S_X7 74 (z_up (S_X7 71 (z_up (S_X7 68 (z_up (S_X7 65 (z_up (S_X7 62 (z_up (S_X7 59 (z_up (S_X9 54 (z_up (S_X9 49 (z_up (S_X9 44 (z_up (S_X9 39 (z_up (S_X9 34 (z_up (S_X9 29 (z_up (z_up (z_up st 24 1 0) 24 4 0) 24 6 0)) 25 (-1) (0 + 1))) 25 (-1) (1 + 1))) 25 (-1) (2 + 1))) 25 (-1) (3 + 1))) 25 (-1) (4 + 1))) 25 (-1) (5 + 1))) 26 (-1) (0 + 1))) 26 (-1) (1 + 1))) 26 (-1) (2 + 1))) 26 (-1) (3 + 1))) 26 (-1) (4 + 1))) 26 (-1) (5 + 1))) 26 (-1) (6 + 1))) 26 (-1) (7 + 1))) 26 (-1) (8 + 1))) 26 (-1) (9 + 1)) 25 (-1) = 6 := by rw [z_up_n (by decide)]; exact hc25
  refine zb_iinc [(1, .int (zI 10)), (0, .ref (b + 24))] 0 hc dX4_init_99 rfl (by decide) rfl ?_
  refine zb_goto (tgt := 80) hc dX4_init_102 (by decide) ?_
  refine zb_iload_n (i := 1) 0 hc dX4_init_80 rfl rfl ?_
  refine zb_bipush hc dX4_init_81 rfl ?_
  refine zb_geT hc dX4_init_83 (by decide) 105 (by decide) ?_
  refine zb_full (k := 25) (NN := 6) rfl (by (try simp only [z_Tu, z_Tr]); first | (rw [hT _ (by omega) (by omega)]; rfl) | (simp; rw [hT _ (by omega) (by omega)]; rfl) | rfl) hc25 ?_
  refine zb_full (k := 26) (NN := 10) rfl (by (try simp only [z_Tu, z_Tr]); first | (rw [hT _ (by omega) (by omega)]; rfl) | (simp; rw [hT _ (by omega) (by omega)]; rfl) | rfl) hc26 ?_
  refine zb_T (T2 := z_Tr T 24 (24 + 65)) (fun j hj => ?_) ?_
  · by_cases h0 : j = 24
    · subst h0
      first | (simp only [z_Tu, z_Tr]; simp; rfl) | (unfold z_Tr; rw [if_pos (by omega)]; simp only [z_Tu, z_Tr]; simp; rfl)
    · by_cases h1 : j = 25
      · subst h1; rfl
      · by_cases h2 : j = 26
        · subst h2; rfl
        · simp only [z_Tu, z_Tr, if_neg h0, if_neg h1, if_neg h2]
          by_cases h3 : 29 ≤ j ∧ j < 89
          · rw [if_pos h3, if_pos (by omega)]
          · rw [if_neg h3]
            by_cases h4 : j < 24
            · rw [if_neg (by omega)]
            · rw [if_pos (by omega), hT j (by omega) (by omega)]
              have h5 : j = 27 ∨ j = 28 := by omega
              rcases h5 with rfl | rfl <;> rfl
  exact zb_ret hc he rfl rfl rfl rfl rfl dX4_init_105
