theorem dX11_init_0 : decode cX11_init 0 = .ok (.aload_n 0, 1) := by decide +kernel
theorem dX11_init_1 : decode cX11_init 1 = .ok (.invokespecial 3, 3) := by decide +kernel
theorem dX11_init_4 : decode cX11_init 4 = .ok (.aload_n 0, 1) := by decide +kernel
theorem dX11_init_5 : decode cX11_init 5 = .ok (.new 9, 3) := by decide +kernel
theorem dX11_init_8 : decode cX11_init 8 = .ok (.dup, 1) := by decide +kernel
theorem dX11_init_9 : decode cX11_init 9 = .ok (.invokespecial 11, 3) := by decide +kernel
theorem dX11_init_12 : decode cX11_init 12 = .ok (.putfield 12, 3) := by decide +kernel
theorem dX11_init_15 : decode cX11_init 15 = .ok (.aload_n 0, 1) := by decide +kernel
theorem dX11_init_16 : decode cX11_init 16 = .ok (.new 16, 3) := by decide +kernel
theorem dX11_init_19 : decode cX11_init 19 = .ok (.dup, 1) := by decide +kernel
theorem dX11_init_20 : decode cX11_init 20 = .ok (.invokespecial 18, 3) := by decide +kernel
theorem dX11_init_23 : decode cX11_init 23 = .ok (.putfield 19, 3) := by decide +kernel
theorem dX11_init_26 : decode cX11_init 26 = .ok (.aload_n 0, 1) := by decide +kernel
theorem dX11_init_27 : decode cX11_init 27 = .ok (.new 23, 3) := by decide +kernel
theorem dX11_init_30 : decode cX11_init 30 = .ok (.dup, 1) := by decide +kernel
theorem dX11_init_31 : decode cX11_init 31 = .ok (.invokespecial 25, 3) := by decide +kernel
theorem dX11_init_34 : decode cX11_init 34 = .ok (.putfield 26, 3) := by decide +kernel
theorem dX11_init_37 : decode cX11_init 37 = .ok (.aload_n 0, 1) := by decide +kernel
theorem dX11_init_38 : decode cX11_init 38 = .ok (.new 30, 3) := by decide +kernel
theorem dX11_init_41 : decode cX11_init 41 = .ok (.dup, 1) := by decide +kernel
theorem dX11_init_42 : decode cX11_init 42 = .ok (.invokespecial 32, 3) := by decide +kernel
theorem dX11_init_45 : decode cX11_init 45 = .ok (.putfield 33, 3) := by decide +kernel
theorem dX11_init_48 : decode cX11_init 48 = .ok (.aload_n 0, 1) := by decide +kernel
theorem dX11_init_49 : decode cX11_init 49 = .ok (.new 37, 3) := by decide +kernel
theorem dX11_init_52 : decode cX11_init 52 = .ok (.dup, 1) := by decide +kernel
theorem dX11_init_53 : decode cX11_init 53 = .ok (.invokespecial 39, 3) := by decide +kernel
theorem dX11_init_56 : decode cX11_init 56 = .ok (.putfield 40, 3) := by decide +kernel
theorem dX11_init_59 : decode cX11_init 59 = .ok (.aload_n 0, 1) := by decide +kernel
theorem dX11_init_60 : decode cX11_init 60 = .ok (.new 44, 3) := by decide +kernel
theorem dX11_init_63 : decode cX11_init 63 = .ok (.dup, 1) := by decide +kernel
theorem dX11_init_64 : decode cX11_init 64 = .ok (.invokespecial 46, 3) := by decide +kernel
theorem dX11_init_67 : decode cX11_init 67 = .ok (.putfield 47, 3) := by decide +kernel
theorem dX11_init_70 : decode cX11_init 70 = .ok (.aload_n 0, 1) := by decide +kernel
theorem dX11_init_71 : decode cX11_init 71 = .ok (.new 51, 3) := by decide +kernel
theorem dX11_init_74 : decode cX11_init 74 = .ok (.dup, 1) := by decide +kernel
theorem dX11_init_75 : decode cX11_init 75 = .ok (.invokespecial 53, 3) := by decide +kernel
theorem dX11_init_78 : decode cX11_init 78 = .ok (.putfield 54, 3) := by decide +kernel
theorem dX11_init_81 : decode cX11_init 81 = .ok (.aload_n 0, 1) := by decide +kernel
theorem dX11_init_82 : decode cX11_init 82 = .ok (.new 58, 3) := by decide +kernel
theorem dX11_init_85 : decode cX11_init 85 = .ok (.dup, 1) := by decide +kernel
theorem dX11_init_86 : decode cX11_init 86 = .ok (.invokespecial 60, 3) := by decide +kernel
theorem dX11_init_89 : decode cX11_init 89 = .ok (.putfield 61, 3) := by decide +kernel
theorem dX11_init_92 : decode cX11_init 92 = .ok (.aload_n 0, 1) := by decide +kernel
theorem dX11_init_93 : decode cX11_init 93 = .ok (.new 65, 3) := by decide +kernel
theorem dX11_init_96 : decode cX11_init 96 = .ok (.dup, 1) := by decide +kernel
theorem dX11_init_97 : decode cX11_init 97 = .ok (.invokespecial 67, 3) := by decide +kernel
theorem dX11_init_100 : decode cX11_init 100 = .ok (.putfield 68, 3) := by decide +kernel
theorem dX11_init_103 : decode cX11_init 103 = .ok (.aload_n 0, 1) := by decide +kernel
theorem dX11_init_104 : decode cX11_init 104 = .ok (.new 65, 3) := by decide +kernel
theorem dX11_init_107 : decode cX11_init 107 = .ok (.dup, 1) := by decide +kernel
theorem dX11_init_108 : decode cX11_init 108 = .ok (.invokespecial 67, 3) := by decide +kernel
theorem dX11_init_111 : decode cX11_init 111 = .ok (.putfield 72, 3) := by decide +kernel
theorem dX11_init_114 : decode cX11_init 114 = .ok (.aload_n 0, 1) := by decide +kernel
theorem dX11_init_115 : decode cX11_init 115 = .ok (.iconst 5, 1) := by decide +kernel
theorem dX11_init_116 : decode cX11_init 116 = .ok (.iconst 5, 1) := by decide +kernel
theorem dX11_init_117 : decode cX11_init 117 = .ok (.multianewarray 75 2, 4) := by decide +kernel
theorem dX11_init_121 : decode cX11_init 121 = .ok (.putfield 77, 3) := by decide +kernel
theorem dX11_init_124 : decode cX11_init 124 = .ok (.return_, 1) := by decide +kernel
def S_X11 (st : z_St) : z_St := S_X6 160 (S_X6 158 (S_X10 (S_X3 (S_X8 (S_X5 (S_X0 (S_X2 (S_X4 (S_X1 st)))))))))
theorem zs_X11 {st : z_St} {M M2 : Nat} (h : ∀ x y : Int, (M : Int) ≤ x → st x y = 0) (hk : M ≤ M2 ∧ 167 < M2) : ∀ x y : Int, (M2 : Int) ≤ x → S_X11 st x y = 0 := by
  intro x y hx
  unfold S_X11
  have hx2 : ((M2 : Nat) : Int) ≤ x := hx
  simp only [S_X9, S_X7, S_X1, S_X4, S_X2, S_X0, S_X5, S_X8, S_X3, S_X10, S_X6]
  repeat rw [z_up_n (by omega)]
  exact h x y (by omega)
set_option maxRecDepth 100000 in
set_option maxHeartbeats 4000000 in
theorem b_X11 {l : Launch} (hl : l.stackTraces = false) {T : Nat → z_Ty} {b : Nat} {st : z_St} (hT : ∀ j, 0 ≤ j → j < 0 + 168 → T j = z_T0 j) (hst : ∀ x y : Int, ((0 + 1 : Nat) : Int) ≤ x → st x y = 0) : z_MB l yX11_init cX11_init 1 12 167 11229 T 1 b [.ref (b + 0)] st (z_Tr T 0 (0 + 168)) 168 (S_X11 st) := by
  refine z_ofB hl (by decide +kernel) rfl (Nat.le_of_ble_eq_true rfl) (fun κ hc hy hab hab2 he => ?_)
  show z_VB κ T 1 b 0 0 0 [(0, .ref (b + 0))] [] st
  refine zb_aload_n (i := 0) 0 hc dX11_init_0 rfl rfl ?_
  refine zb_objInit hc (z_t1 27 rfl rfl) zo_1 zo_2 (by decide) (Nat.le_of_ble_eq_true rfl) dX11_init_1 ?_
  refine zb_aload_n (i := 0) 0 hc dX11_init_4 rfl rfl ?_
  refine zb_new (NN := 4) (ks := [(5, 0), (5, 0), (0, 0), (0, 0)]) hc (fun y => hst _ _ (by omega)) (by (try simp only [z_Tu, z_Tr]); first | (rw [hT _ (by omega) (by omega)]; rfl) | (simp; rw [hT _ (by omega) (by omega)]; rfl) | rfl) zn_RX11_9 (fun j => rfl) (Nat.le_of_ble_eq_true rfl) (Nat.le_of_ble_eq_true rfl) dX11_init_5 ?_
  refine zb_dup hc dX11_init_8 rfl ?_
  refine zb_callN (np := 0) (k := 1) hc (zb_ABle hab hab2 (by decide)) (fun q h => hab2 q (by omega)) (by decide +kernel) hy ⟨⟨z_t1 34 rfl rfl, z_t1 2 rfl rfl, by decide +kernel, by decide⟩, z_t1 33 rfl rfl⟩ rfl rfl (fun l hl => b_X1 hl (fun j h1 h2 => by (try simp only [z_Tu, z_Tr]); (repeat rw [if_neg (by omega)]); exact hT j (by omega) (by omega)) (z_st_le hst (by decide))) (by decide) (Nat.le_of_ble_eq_true rfl) (by decide) (by decide) dX11_init_9 ?_
  have hst6 : ∀ x y : Int, ((24 : Nat) : Int) ≤ x → (S_X1 st) x y = 0 := zs_X1 hst (by decide)
  refine zb_putR (ks := [(5, 0), (5, 0), (5, 0), (5, 0), (5, 0), (5, 0), (5, 0), (5, 0), (5, 0), (5, 0), (5, 0)]) (k := 0) (k2 := 1) (d := 1) (ty := .object "Latticehear$Hearing") hc (zb_ABle hab hab2 (by omega)) he fl_RX11_12 fc_X11 ⟨(RX11, TX11, 11), rfl, rfl, by decide +kernel⟩ (by first | exact hT _ (by omega) (by omega) | (rw [hT _ (by omega) (by omega)]; exact hk0) | exact z_Tu_s | (simp only [z_Tu, z_Tr]; first | rfl | (rw [hT _ (by omega) (by omega)]; rfl) | simp)) (by omega) rfl (by decide) rfl dX11_init_12 ?_
  show z_VB κ _ 24 b _ _ _ _ _ _
  refine zb_aload_n (i := 0) 0 hc dX11_init_15 rfl rfl ?_
  refine zb_new (NN := 7) (ks := [(5, 0), (0, 0), (5, 0), (5, 0), (0, 0), (5, 0), (0, 0)]) hc (fun y => hst6 _ _ (by omega)) (by (try simp only [z_Tu, z_Tr]); first | (rw [hT _ (by omega) (by omega)]; rfl) | (simp; rw [hT _ (by omega) (by omega)]; rfl) | rfl) zn_RX11_16 (fun j => rfl) (Nat.le_of_ble_eq_true rfl) (Nat.le_of_ble_eq_true rfl) dX11_init_16 ?_
  refine zb_dup hc dX11_init_19 rfl ?_
  refine zb_callI (np := 0) (k := 24) hc (zb_ABle hab hab2 (by decide)) (fun q h => hab2 q (by omega)) (z_t1 59 rfl rfl) hy ⟨⟨z_t1 61 rfl rfl, z_t1 3 rfl rfl, by decide +kernel, by decide⟩, z_t1 60 rfl rfl⟩ rfl rfl (fun l hl => b_X4 hl (fun j h1 h2 => by (try simp only [z_Tu, z_Tr]); (repeat rw [if_neg (by omega)]); exact hT j (by omega) (by omega)) (z_st_le hst6 (by decide))) (by decide) (Nat.le_of_ble_eq_true rfl) (by decide) (by decide) dX11_init_20 ?_
  have hst13 : ∀ x y : Int, ((89 : Nat) : Int) ≤ x → (S_X4 (S_X1 st)) x y = 0 := zs_X4 hst6 (by decide)
  rw [z_Tr_Tu (by decide)]
  rw [z_Tr_tr (by decide) (by decide)]
  refine zb_putR (ks := [(4, 1), (5, 0), (5, 0), (5, 0), (5, 0), (5, 0), (5, 0), (5, 0), (5, 0), (5, 0), (5, 0)]) (k := 0) (k2 := 24) (d := 24) (ty := .object "Latticehear$Lexicon") hc (zb_ABle hab hab2 (by omega)) he fl_RX11_19 fc_X11 ⟨(RX11, TX11, 11), rfl, rfl, by decide +kernel⟩ (by first | exact hT _ (by omega) (by omega) | (rw [hT _ (by omega) (by omega)]; exact hk0) | exact z_Tu_s | (simp only [z_Tu, z_Tr]; first | rfl | (rw [hT _ (by omega) (by omega)]; rfl) | simp)) (by omega) rfl (by decide) rfl dX11_init_23 ?_
  show z_VB κ _ 89 b _ _ _ _ _ _
  rw [z_Tu_uu]
  refine zb_aload_n (i := 0) 0 hc dX11_init_26 rfl rfl ?_
  refine zb_new (NN := 6) (ks := [(5, 0), (5, 0), (5, 0), (0, 0), (0, 0), (0, 0)]) hc (fun y => hst13 _ _ (by omega)) (by (try simp only [z_Tu, z_Tr]); first | (rw [hT _ (by omega) (by omega)]; rfl) | (simp; rw [hT _ (by omega) (by omega)]; rfl) | rfl) zn_RX11_23 (fun j => rfl) (Nat.le_of_ble_eq_true rfl) (Nat.le_of_ble_eq_true rfl) dX11_init_27 ?_
  refine zb_dup hc dX11_init_30 rfl ?_
  refine zb_callN (np := 0) (k := 89) hc (zb_ABle hab hab2 (by decide)) (fun q h => hab2 q (by omega)) (by decide +kernel) hy ⟨⟨z_t1 164 rfl rfl, z_t1 6 rfl rfl, by decide +kernel, by decide⟩, z_t1 163 rfl rfl⟩ rfl rfl (fun l hl => b_X2 hl (fun j h1 h2 => by (try simp only [z_Tu, z_Tr]); (repeat rw [if_neg (by omega)]); exact hT j (by omega) (by omega)) (z_st_le hst13 (by decide))) (by decide) (Nat.le_of_ble_eq_true rfl) (by decide) (by decide) dX11_init_31 ?_
  have hst23 : ∀ x y : Int, ((99 : Nat) : Int) ≤ x → (S_X2 (S_X4 (S_X1 st))) x y = 0 := zs_X2 hst13 (by decide)
  rw [z_Tr_Tu (by decide)]
  rw [z_Tr_tr (by decide) (by decide)]
  refine zb_putR (ks := [(4, 1), (4, 24), (5, 0), (5, 0), (5, 0), (5, 0), (5, 0), (5, 0), (5, 0), (5, 0), (5, 0)]) (k := 0) (k2 := 89) (d := 89) (ty := .object "Latticehear$Language") hc (zb_ABle hab hab2 (by omega)) he fl_RX11_26 fc_X11 ⟨(RX11, TX11, 11), rfl, rfl, by decide +kernel⟩ (by first | exact hT _ (by omega) (by omega) | (rw [hT _ (by omega) (by omega)]; exact hk0) | exact z_Tu_s | (simp only [z_Tu, z_Tr]; first | rfl | (rw [hT _ (by omega) (by omega)]; rfl) | simp)) (by omega) rfl (by decide) rfl dX11_init_34 ?_
  show z_VB κ _ 99 b _ _ _ _ _ _
  rw [z_Tu_uu]
  refine zb_aload_n (i := 0) 0 hc dX11_init_37 rfl rfl ?_
  refine zb_new (NN := 5) (ks := [(5, 0), (5, 0), (5, 0), (5, 0), (2, 0)]) hc (fun y => hst23 _ _ (by omega)) (by (try simp only [z_Tu, z_Tr]); first | (rw [hT _ (by omega) (by omega)]; rfl) | (simp; rw [hT _ (by omega) (by omega)]; rfl) | rfl) zn_RX11_30 (fun j => rfl) (Nat.le_of_ble_eq_true rfl) (Nat.le_of_ble_eq_true rfl) dX11_init_38 ?_
  refine zb_dup hc dX11_init_41 rfl ?_
  refine zb_callN (np := 0) (k := 99) hc (zb_ABle hab hab2 (by decide)) (fun q h => hab2 q (by omega)) (by decide +kernel) hy ⟨⟨z_t1 194 rfl rfl, z_t1 7 rfl rfl, by decide +kernel, by decide⟩, z_t1 193 rfl rfl⟩ rfl rfl (fun l hl => b_X0 hl (fun j h1 h2 => by (try simp only [z_Tu, z_Tr]); (repeat rw [if_neg (by omega)]); exact hT j (by omega) (by omega)) (z_st_le hst23 (by decide))) (by decide) (Nat.le_of_ble_eq_true rfl) (by decide) (by decide) dX11_init_42 ?_
  have hst33 : ∀ x y : Int, ((134 : Nat) : Int) ≤ x → (S_X0 (S_X2 (S_X4 (S_X1 st)))) x y = 0 := zs_X0 hst23 (by decide)
  rw [z_Tr_Tu (by decide)]
  rw [z_Tr_tr (by decide) (by decide)]
  refine zb_putR (ks := [(4, 1), (4, 24), (4, 89), (5, 0), (5, 0), (5, 0), (5, 0), (5, 0), (5, 0), (5, 0), (5, 0)]) (k := 0) (k2 := 99) (d := 99) (ty := .object "Latticehear$CostTable") hc (zb_ABle hab hab2 (by omega)) he fl_RX11_33 fc_X11 ⟨(RX11, TX11, 11), rfl, rfl, by decide +kernel⟩ (by first | exact hT _ (by omega) (by omega) | (rw [hT _ (by omega) (by omega)]; exact hk0) | exact z_Tu_s | (simp only [z_Tu, z_Tr]; first | rfl | (rw [hT _ (by omega) (by omega)]; rfl) | simp)) (by omega) rfl (by decide) rfl dX11_init_45 ?_
  show z_VB κ _ 134 b _ _ _ _ _ _
  rw [z_Tu_uu]
  refine zb_aload_n (i := 0) 0 hc dX11_init_48 rfl rfl ?_
  refine zb_new (NN := 11) (ks := [(5, 0), (5, 0), (5, 0), (5, 0), (5, 0), (0, 0), (0, 0), (0, 0), (0, 0), (2, 0), (2, 0)]) hc (fun y => hst33 _ _ (by omega)) (by (try simp only [z_Tu, z_Tr]); first | (rw [hT _ (by omega) (by omega)]; rfl) | (simp; rw [hT _ (by omega) (by omega)]; rfl) | rfl) zn_RX11_37 (fun j => rfl) (Nat.le_of_ble_eq_true rfl) (Nat.le_of_ble_eq_true rfl) dX11_init_49 ?_
  refine zb_dup hc dX11_init_52 rfl ?_
  refine zb_callN (np := 0) (k := 134) hc (zb_ABle hab hab2 (by decide)) (fun q h => hab2 q (by omega)) (by decide +kernel) hy ⟨⟨z_t1 222 rfl rfl, z_t1 8 rfl rfl, by decide +kernel, by decide⟩, z_t1 221 rfl rfl⟩ rfl rfl (fun l hl => b_X5 hl (fun j h1 h2 => by (try simp only [z_Tu, z_Tr]); (repeat rw [if_neg (by omega)]); exact hT j (by omega) (by omega)) (z_st_le hst33 (by decide))) (by decide) (Nat.le_of_ble_eq_true rfl) (by decide) (by decide) dX11_init_53 ?_
  have hst43 : ∀ x y : Int, ((140 : Nat) : Int) ≤ x → (S_X5 (S_X0 (S_X2 (S_X4 (S_X1 st))))) x y = 0 := zs_X5 hst33 (by decide)
  rw [z_Tr_Tu (by decide)]
  rw [z_Tr_tr (by decide) (by decide)]
  refine zb_putR (ks := [(4, 1), (4, 24), (4, 89), (4, 99), (5, 0), (5, 0), (5, 0), (5, 0), (5, 0), (5, 0), (5, 0)]) (k := 0) (k2 := 134) (d := 134) (ty := .object "Latticehear$RowTable") hc (zb_ABle hab hab2 (by omega)) he fl_RX11_40 fc_X11 ⟨(RX11, TX11, 11), rfl, rfl, by decide +kernel⟩ (by first | exact hT _ (by omega) (by omega) | (rw [hT _ (by omega) (by omega)]; exact hk0) | exact z_Tu_s | (simp only [z_Tu, z_Tr]; first | rfl | (rw [hT _ (by omega) (by omega)]; rfl) | simp)) (by omega) rfl (by decide) rfl dX11_init_56 ?_
  show z_VB κ _ 140 b _ _ _ _ _ _
  rw [z_Tu_uu]
  refine zb_aload_n (i := 0) 0 hc dX11_init_59 rfl rfl ?_
  refine zb_new (NN := 6) (ks := [(5, 0), (5, 0), (5, 0), (0, 0), (0, 0), (1, 0)]) hc (fun y => hst43 _ _ (by omega)) (by (try simp only [z_Tu, z_Tr]); first | (rw [hT _ (by omega) (by omega)]; rfl) | (simp; rw [hT _ (by omega) (by omega)]; rfl) | rfl) zn_RX11_44 (fun j => rfl) (Nat.le_of_ble_eq_true rfl) (Nat.le_of_ble_eq_true rfl) dX11_init_60 ?_
  refine zb_dup hc dX11_init_63 rfl ?_
  refine zb_callN (np := 0) (k := 140) hc (zb_ABle hab hab2 (by decide)) (fun q h => hab2 q (by omega)) (by decide +kernel) hy ⟨⟨z_t2 24 rfl rfl, z_t1 9 rfl rfl, by decide +kernel, by decide⟩, z_t2 23 rfl rfl⟩ rfl rfl (fun l hl => b_X8 hl (fun j h1 h2 => by (try simp only [z_Tu, z_Tr]); (repeat rw [if_neg (by omega)]); exact hT j (by omega) (by omega)) (z_st_le hst43 (by decide))) (by decide) (Nat.le_of_ble_eq_true rfl) (by decide) (by decide) dX11_init_64 ?_
  have hst53 : ∀ x y : Int, ((144 : Nat) : Int) ≤ x → (S_X8 (S_X5 (S_X0 (S_X2 (S_X4 (S_X1 st)))))) x y = 0 := zs_X8 hst43 (by decide)
  rw [z_Tr_Tu (by decide)]
  rw [z_Tr_tr (by decide) (by decide)]
  refine zb_putR (ks := [(4, 1), (4, 24), (4, 89), (4, 99), (4, 134), (5, 0), (5, 0), (5, 0), (5, 0), (5, 0), (5, 0)]) (k := 0) (k2 := 140) (d := 140) (ty := .object "Latticehear$Search") hc (zb_ABle hab hab2 (by omega)) he fl_RX11_47 fc_X11 ⟨(RX11, TX11, 11), rfl, rfl, by decide +kernel⟩ (by first | exact hT _ (by omega) (by omega) | (rw [hT _ (by omega) (by omega)]; exact hk0) | exact z_Tu_s | (simp only [z_Tu, z_Tr]; first | rfl | (rw [hT _ (by omega) (by omega)]; rfl) | simp)) (by omega) rfl (by decide) rfl dX11_init_67 ?_
  show z_VB κ _ 144 b _ _ _ _ _ _
  rw [z_Tu_uu]
  refine zb_aload_n (i := 0) 0 hc dX11_init_70 rfl rfl ?_
  refine zb_new (NN := 6) (ks := [(5, 0), (5, 0), (5, 0), (0, 0), (0, 0), (2, 0)]) hc (fun y => hst53 _ _ (by omega)) (by (try simp only [z_Tu, z_Tr]); first | (rw [hT _ (by omega) (by omega)]; rfl) | (simp; rw [hT _ (by omega) (by omega)]; rfl) | rfl) zn_RX11_51 (fun j => rfl) (Nat.le_of_ble_eq_true rfl) (Nat.le_of_ble_eq_true rfl) dX11_init_71 ?_
  refine zb_dup hc dX11_init_74 rfl ?_
  refine zb_callN (np := 0) (k := 144) hc (zb_ABle hab hab2 (by decide)) (fun q h => hab2 q (by omega)) (by decide +kernel) hy ⟨⟨z_t2 54 rfl rfl, z_t1 10 rfl rfl, by decide +kernel, by decide⟩, z_t2 53 rfl rfl⟩ rfl rfl (fun l hl => b_X3 hl (fun j h1 h2 => by (try simp only [z_Tu, z_Tr]); (repeat rw [if_neg (by omega)]); exact hT j (by omega) (by omega)) (z_st_le hst53 (by decide))) (by decide) (Nat.le_of_ble_eq_true rfl) (by decide) (by decide) dX11_init_75 ?_
  have hst63 : ∀ x y : Int, ((148 : Nat) : Int) ≤ x → (S_X3 (S_X8 (S_X5 (S_X0 (S_X2 (S_X4 (S_X1 st))))))) x y = 0 := zs_X3 hst53 (by decide)
  rw [z_Tr_Tu (by decide)]
  rw [z_Tr_tr (by decide) (by decide)]
  refine zb_putR (ks := [(4, 1), (4, 24), (4, 89), (4, 99), (4, 134), (4, 140), (5, 0), (5, 0), (5, 0), (5, 0), (5, 0)]) (k := 0) (k2 := 144) (d := 144) (ty := .object "Latticehear$Lattice") hc (zb_ABle hab hab2 (by omega)) he fl_RX11_54 fc_X11 ⟨(RX11, TX11, 11), rfl, rfl, by decide +kernel⟩ (by first | exact hT _ (by omega) (by omega) | (rw [hT _ (by omega) (by omega)]; exact hk0) | exact z_Tu_s | (simp only [z_Tu, z_Tr]; first | rfl | (rw [hT _ (by omega) (by omega)]; rfl) | simp)) (by omega) rfl (by decide) rfl dX11_init_78 ?_
  show z_VB κ _ 148 b _ _ _ _ _ _
  rw [z_Tu_uu]
  refine zb_aload_n (i := 0) 0 hc dX11_init_81 rfl rfl ?_
  refine zb_new (NN := 4) (ks := [(5, 0), (5, 0), (5, 0), (2, 0)]) hc (fun y => hst63 _ _ (by omega)) (by (try simp only [z_Tu, z_Tr]); first | (rw [hT _ (by omega) (by omega)]; rfl) | (simp; rw [hT _ (by omega) (by omega)]; rfl) | rfl) zn_RX11_58 (fun j => rfl) (Nat.le_of_ble_eq_true rfl) (Nat.le_of_ble_eq_true rfl) dX11_init_82 ?_
  refine zb_dup hc dX11_init_85 rfl ?_
  refine zb_callN (np := 0) (k := 148) hc (zb_ABle hab hab2 (by decide)) (fun q h => hab2 q (by omega)) (by decide +kernel) hy ⟨⟨z_t2 80 rfl rfl, z_t1 11 rfl rfl, by decide +kernel, by decide⟩, z_t2 79 rfl rfl⟩ rfl rfl (fun l hl => b_X10 hl (fun j h1 h2 => by (try simp only [z_Tu, z_Tr]); (repeat rw [if_neg (by omega)]); exact hT j (by omega) (by omega)) (z_st_le hst63 (by decide))) (by decide) (Nat.le_of_ble_eq_true rfl) (by decide) (by decide) dX11_init_86 ?_
  have hst73 : ∀ x y : Int, ((158 : Nat) : Int) ≤ x → (S_X10 (S_X3 (S_X8 (S_X5 (S_X0 (S_X2 (S_X4 (S_X1 st)))))))) x y = 0 := zs_X10 hst63 (by decide)
  rw [z_Tr_Tu (by decide)]
  rw [z_Tr_tr (by decide) (by decide)]
  refine zb_putR (ks := [(4, 1), (4, 24), (4, 89), (4, 99), (4, 134), (4, 140), (4, 144), (5, 0), (5, 0), (5, 0), (5, 0)]) (k := 0) (k2 := 148) (d := 148) (ty := .object "Latticehear$Track") hc (zb_ABle hab hab2 (by omega)) he fl_RX11_61 fc_X11 ⟨(RX11, TX11, 11), rfl, rfl, by decide +kernel⟩ (by first | exact hT _ (by omega) (by omega) | (rw [hT _ (by omega) (by omega)]; exact hk0) | exact z_Tu_s | (simp only [z_Tu, z_Tr]; first | rfl | (rw [hT _ (by omega) (by omega)]; rfl) | simp)) (by omega) rfl (by decide) rfl dX11_init_89 ?_
  show z_VB κ _ 158 b _ _ _ _ _ _
  rw [z_Tu_uu]
  refine zb_aload_n (i := 0) 0 hc dX11_init_92 rfl rfl ?_
  refine zb_new (NN := 2) (ks := [(5, 0), (0, 0)]) hc (fun y => hst73 _ _ (by omega)) (by (try simp only [z_Tu, z_Tr]); first | (rw [hT _ (by omega) (by omega)]; rfl) | (simp; rw [hT _ (by omega) (by omega)]; rfl) | rfl) zn_RX11_65 (fun j => rfl) (Nat.le_of_ble_eq_true rfl) (Nat.le_of_ble_eq_true rfl) dX11_init_93 ?_
  refine zb_dup hc dX11_init_96 rfl ?_
  refine zb_callN (np := 0) (k := 158) hc (zb_ABle hab hab2 (by decide)) (fun q h => hab2 q (by omega)) (by decide +kernel) hy ⟨⟨z_t2 102 rfl rfl, z_t1 12 rfl rfl, by decide +kernel, by decide⟩, z_t2 101 rfl rfl⟩ rfl rfl (fun l hl => b_X6 hl (k := 158) rfl rfl (fun j h1 h2 => by obtain ⟨i, hi, rfl⟩ : ∃ i, i < 1 ∧ j = 158 + 1 + i := ⟨j - 158 - 1, by omega, by omega⟩; exact zsub_158 i hi) (fun j h1 h2 => by (try simp only [z_Tu, z_Tr]); (repeat rw [if_neg (by omega)]); exact hT j (by omega) (by omega)) (z_st_le hst73 (by decide))) (by decide) (Nat.le_of_ble_eq_true rfl) (by decide) (by decide) dX11_init_97 ?_
  have hst83 : ∀ x y : Int, ((160 : Nat) : Int) ≤ x → (S_X6 158 (S_X10 (S_X3 (S_X8 (S_X5 (S_X0 (S_X2 (S_X4 (S_X1 st))))))))) x y = 0 := zs_X6 hst73 (by decide)
  rw [z_Tr_Tu (by decide)]
  rw [z_Tr_tr (by decide) (by decide)]
  refine zb_putR (ks := [(4, 1), (4, 24), (4, 89), (4, 99), (4, 134), (4, 140), (4, 144), (4, 148), (5, 0), (5, 0), (5, 0)]) (k := 0) (k2 := 158) (d := 158) (ty := .object "Latticehear$RowWords") hc (zb_ABle hab hab2 (by omega)) he fl_RX11_68 fc_X11 ⟨(RX11, TX11, 11), rfl, rfl, by decide +kernel⟩ (by first | exact hT _ (by omega) (by omega) | (rw [hT _ (by omega) (by omega)]; exact hk0) | exact z_Tu_s | (simp only [z_Tu, z_Tr]; first | rfl | (rw [hT _ (by omega) (by omega)]; rfl) | simp)) (by omega) rfl (by decide) rfl dX11_init_100 ?_
  show z_VB κ _ 160 b _ _ _ _ _ _
  rw [z_Tu_uu]
  refine zb_aload_n (i := 0) 0 hc dX11_init_103 rfl rfl ?_
  refine zb_new (NN := 2) (ks := [(5, 0), (0, 0)]) hc (fun y => hst83 _ _ (by omega)) (by (try simp only [z_Tu, z_Tr]); first | (rw [hT _ (by omega) (by omega)]; rfl) | (simp; rw [hT _ (by omega) (by omega)]; rfl) | rfl) zn_RX11_65 (fun j => rfl) (Nat.le_of_ble_eq_true rfl) (Nat.le_of_ble_eq_true rfl) dX11_init_104 ?_
  refine zb_dup hc dX11_init_107 rfl ?_
  refine zb_callN (np := 0) (k := 160) hc (zb_ABle hab hab2 (by decide)) (fun q h => hab2 q (by omega)) (by decide +kernel) hy ⟨⟨z_t2 102 rfl rfl, z_t1 12 rfl rfl, by decide +kernel, by decide⟩, z_t2 101 rfl rfl⟩ rfl rfl (fun l hl => b_X6 hl (k := 160) rfl rfl (fun j h1 h2 => by obtain ⟨i, hi, rfl⟩ : ∃ i, i < 1 ∧ j = 160 + 1 + i := ⟨j - 160 - 1, by omega, by omega⟩; exact zsub_160 i hi) (fun j h1 h2 => by (try simp only [z_Tu, z_Tr]); (repeat rw [if_neg (by omega)]); exact hT j (by omega) (by omega)) (z_st_le hst83 (by decide))) (by decide) (Nat.le_of_ble_eq_true rfl) (by decide) (by decide) dX11_init_108 ?_
  have hst93 : ∀ x y : Int, ((162 : Nat) : Int) ≤ x → (S_X6 160 (S_X6 158 (S_X10 (S_X3 (S_X8 (S_X5 (S_X0 (S_X2 (S_X4 (S_X1 st)))))))))) x y = 0 := zs_X6 hst83 (by decide)
  rw [z_Tr_Tu (by decide)]
  rw [z_Tr_tr (by decide) (by decide)]
  refine zb_putR (ks := [(4, 1), (4, 24), (4, 89), (4, 99), (4, 134), (4, 140), (4, 144), (4, 148), (4, 158), (5, 0), (5, 0)]) (k := 0) (k2 := 160) (d := 160) (ty := .object "Latticehear$RowWords") hc (zb_ABle hab hab2 (by omega)) he fl_RX11_72 fc_X11 ⟨(RX11, TX11, 11), rfl, rfl, by decide +kernel⟩ (by first | exact hT _ (by omega) (by omega) | (rw [hT _ (by omega) (by omega)]; exact hk0) | exact z_Tu_s | (simp only [z_Tu, z_Tr]; first | rfl | (rw [hT _ (by omega) (by omega)]; rfl) | simp)) (by omega) rfl (by decide) rfl dX11_init_111 ?_
  show z_VB κ _ 162 b _ _ _ _ _ _
  rw [z_Tu_uu]
  refine zb_aload_n (i := 0) 0 hc dX11_init_114 rfl rfl ?_
  refine zb_iconst hc dX11_init_115 ?_
  refine zb_iconst hc dX11_init_116 ?_
  refine zb_mnaI (NN := 5) (KK := 5) hc hy (fun k9 y h9 => hst93 _ _ (by omega)) (by (try simp only [z_Tu, z_Tr]); first | (rw [hT _ (by omega) (by omega)]; rfl) | (simp; rw [hT _ (by omega) (by omega)]; rfl) | rfl) (fun i hi => (zrow0 (a := 162) (m := 6) (by decide) (by decide) hi (fun j h1 h2 => by (try simp only [z_Tu, z_Tr]); (repeat rw [if_neg (by omega)]); exact hT j (by omega) (by omega)) zr_162)) (z_t2 113 rfl rfl) (z_t1 56 rfl rfl) (by decide) ⟨rfl, rfl⟩ (by decide) (Nat.le_of_ble_eq_true rfl) (Nat.le_of_ble_eq_true rfl) dX11_init_117 ?_
  refine zb_putR (ks := [(4, 1), (4, 24), (4, 89), (4, 99), (4, 134), (4, 140), (4, 144), (4, 148), (4, 158), (4, 160), (5, 0)]) (k := 0) (k2 := 162) (d := 162) (ty := .array (.array .int)) hc (zb_ABle hab hab2 (by omega)) he fl_RX11_77 fc_X11 ⟨(RX11, TX11, 11), rfl, rfl, by decide +kernel⟩ (by first | exact hT _ (by omega) (by omega) | (rw [hT _ (by omega) (by omega)]; exact hk0) | exact z_Tu_s | (simp only [z_Tu, z_Tr]; first | rfl | (rw [hT _ (by omega) (by omega)]; rfl) | simp)) (by omega) rfl (by decide) rfl dX11_init_121 ?_
  show z_VB κ _ 168 b _ _ _ _ _ _
  rw [z_Tu_uu]
  refine zb_T (T2 := z_Tr T 0 (0 + 168)) (fun j hj => ?_) ?_
  · by_cases h0 : j = 0
    · subst h0
      first | (simp only [z_Tu, z_Tr]; simp; rfl) | (unfold z_Tr; rw [if_pos (by omega)]; simp only [z_Tu, z_Tr]; simp; rfl)
    · simp only [z_Tu, z_Tr, if_neg h0]
      by_cases h3 : 1 ≤ j ∧ j < 162
      · rw [if_pos h3, if_pos (by omega)]
      · rw [if_neg h3, if_pos (by omega), hT j (by omega) (by omega)]
        obtain ⟨i, hi, rfl⟩ : ∃ i, i < 6 ∧ j = 162 + i := ⟨j - 162, by omega, by omega⟩
        match i, hi with | 0, _ => rfl | 1, _ => rfl | 2, _ => rfl | 3, _ => rfl | 4, _ => rfl | 5, _ => rfl | _ + 6, h => exact absurd h (by omega)
  exact zb_ret hc he rfl rfl rfl rfl rfl dX11_init_124
