theorem dX0_init_0 : decode cX0_init 0 = .ok (.aload_n 0, 1) := by decide +kernel
theorem dX0_init_1 : decode cX0_init 1 = .ok (.invokespecial 3, 3) := by decide +kernel
theorem dX0_init_4 : decode cX0_init 4 = .ok (.aload_n 0, 1) := by decide +kernel
theorem dX0_init_5 : decode cX0_init 5 = .ok (.bipush 24, 2) := by decide +kernel
theorem dX0_init_7 : decode cX0_init 7 = .ok (.bipush 16, 2) := by decide +kernel
theorem dX0_init_9 : decode cX0_init 9 = .ok (.multianewarray 9 2, 4) := by decide +kernel
theorem dX0_init_13 : decode cX0_init 13 = .ok (.putfield 11, 3) := by decide +kernel
theorem dX0_init_16 : decode cX0_init 16 = .ok (.aload_n 0, 1) := by decide +kernel
theorem dX0_init_17 : decode cX0_init 17 = .ok (.sipush 1445, 3) := by decide +kernel
theorem dX0_init_20 : decode cX0_init 20 = .ok (.newarray .long, 2) := by decide +kernel
theorem dX0_init_22 : decode cX0_init 22 = .ok (.putfield 16, 3) := by decide +kernel
theorem dX0_init_25 : decode cX0_init 25 = .ok (.aload_n 0, 1) := by decide +kernel
theorem dX0_init_26 : decode cX0_init 26 = .ok (.bipush 6, 2) := by decide +kernel
theorem dX0_init_28 : decode cX0_init 28 = .ok (.bipush 6, 2) := by decide +kernel
theorem dX0_init_30 : decode cX0_init 30 = .ok (.multianewarray 9 2, 4) := by decide +kernel
theorem dX0_init_34 : decode cX0_init 34 = .ok (.putfield 20, 3) := by decide +kernel
theorem dX0_init_37 : decode cX0_init 37 = .ok (.aload_n 0, 1) := by decide +kernel
theorem dX0_init_38 : decode cX0_init 38 = .ok (.iconst 4, 1) := by decide +kernel
theorem dX0_init_39 : decode cX0_init 39 = .ok (.newarray .long, 2) := by decide +kernel
theorem dX0_init_41 : decode cX0_init 41 = .ok (.putfield 23, 3) := by decide +kernel
theorem dX0_init_44 : decode cX0_init 44 = .ok (.aload_n 0, 1) := by decide +kernel
theorem dX0_init_45 : decode cX0_init 45 = .ok (.iconst 0, 1) := by decide +kernel
theorem dX0_init_46 : decode cX0_init 46 = .ok (.putfield 26, 3) := by decide +kernel
theorem dX0_init_49 : decode cX0_init 49 = .ok (.return_, 1) := by decide +kernel
theorem zq_X0 : ∀ i, i < 34 → z_T0 (99 + 1 + i) = z_T (99 + 1 + i) := fun i hi => match i, hi with | 0, _ => rfl | 1, _ => rfl | 2, _ => rfl | 3, _ => rfl | 4, _ => rfl | 5, _ => rfl | 6, _ => rfl | 7, _ => rfl | 8, _ => rfl | 9, _ => rfl | 10, _ => rfl | 11, _ => rfl | 12, _ => rfl | 13, _ => rfl | 14, _ => rfl | 15, _ => rfl | 16, _ => rfl | 17, _ => rfl | 18, _ => rfl | 19, _ => rfl | 20, _ => rfl | 21, _ => rfl | 22, _ => rfl | 23, _ => rfl | 24, _ => rfl | 25, _ => rfl | 26, _ => rfl | 27, _ => rfl | 28, _ => rfl | 29, _ => rfl | 30, _ => rfl | 31, _ => rfl | 32, _ => rfl | 33, _ => rfl | _ + 34, h => absurd h (by omega)
def S_X0 (st : z_St) : z_St := z_up st 99 4 0
theorem zs_X0 {st : z_St} {M M2 : Nat} (h : ∀ x y : Int, (M : Int) ≤ x → st x y = 0) (hk : M ≤ M2 ∧ 99 < M2) : ∀ x y : Int, (M2 : Int) ≤ x → S_X0 st x y = 0 := by
  intro x y hx
  unfold S_X0
  repeat rw [z_up_n (by omega)]
  exact h x y (by omega)
set_option maxRecDepth 100000 in
set_option maxHeartbeats 4000000 in
theorem b_X0 {l : Launch} (hl : l.stackTraces = false) {T : Nat → z_Ty} {b : Nat} {st : z_St} (hT : ∀ j, 99 ≤ j → j < 99 + 35 → T j = z_T0 j) (hst : ∀ x y : Int, ((99 + 1 : Nat) : Int) ≤ x → st x y = 0) : z_MB l yX0_init cX0_init 1 8 34 1899 T 100 b [.ref (b + 99)] st (z_Tr T 99 (99 + 35)) 134 (S_X0 st) := by
  refine z_ofB hl (by decide +kernel) rfl (Nat.le_of_ble_eq_true rfl) (fun κ hc hy hab hab2 he => ?_)
  show z_VB κ T 100 b 0 0 0 [(0, .ref (b + 99))] [] st
  refine zb_aload_n (i := 0) 0 hc dX0_init_0 rfl rfl ?_
  refine zb_objInit hc (z_t1 195 rfl rfl) zo_1 zo_2 (by decide) (Nat.le_of_ble_eq_true rfl) dX0_init_1 ?_
  refine zb_aload_n (i := 0) 0 hc dX0_init_4 rfl rfl ?_
  refine zb_bipush hc dX0_init_5 rfl ?_
  refine zb_bipush hc dX0_init_7 rfl ?_
  refine zb_mnaJ (NN := 24) (KK := 16) hc hy (fun k9 y h9 => hst _ _ (by omega)) (by (try simp only [z_Tu, z_Tr]); first | (rw [hT _ (by omega) (by omega)]; rfl) | (simp; rw [hT _ (by omega) (by omega)]; rfl) | rfl) (fun i hi => (zrow0 (a := 100) (m := 25) (by decide) (by decide) hi (fun j h1 h2 => by (try simp only [z_Tu, z_Tr]); (repeat rw [if_neg (by omega)]); exact hT j (by omega) (by omega)) zr_100)) (z_t1 196 rfl rfl) (z_t1 217 rfl rfl) (by decide) ⟨rfl, rfl⟩ (by decide) (Nat.le_of_ble_eq_true rfl) (Nat.le_of_ble_eq_true rfl) dX0_init_9 ?_
  refine zb_putR (ks := [(5, 0), (5, 0), (5, 0), (5, 0), (2, 0)]) (k := 99) (k2 := 100) (d := 1) (ty := .array (.array .long)) hc (zb_ABle hab hab2 (by omega)) he fl_RX0_11 fc_X0 ⟨(RX0, TX0, 5), rfl, rfl, by decide +kernel⟩ (by first | exact hT _ (by omega) (by omega) | (rw [hT _ (by omega) (by omega)]; exact hk0) | exact z_Tu_s | (simp only [z_Tu, z_Tr]; first | rfl | (rw [hT _ (by omega) (by omega)]; rfl) | simp)) (by omega) rfl (by decide) rfl dX0_init_13 ?_
  show z_VB κ _ 125 b _ _ _ _ _ _
  refine zb_aload_n (i := 0) 0 hc dX0_init_16 rfl rfl ?_
  refine zb_sipush hc dX0_init_17 rfl ?_
  refine zb_newJ (NN := 1445) hc (fun y => hst _ _ (by omega)) (by (try simp only [z_Tu, z_Tr]); first | (rw [hT _ (by omega) (by omega)]; rfl) | (simp; rw [hT _ (by omega) (by omega)]; rfl) | rfl) (z_t1 217 rfl rfl) (by decide) rfl (by decide) (Nat.le_of_ble_eq_true rfl) (Nat.le_of_ble_eq_true rfl) dX0_init_20 ?_
  refine zb_putR (ks := [(4, 1), (5, 0), (5, 0), (5, 0), (2, 0)]) (k := 99) (k2 := 125) (d := 26) (ty := .array .long) hc (zb_ABle hab hab2 (by omega)) he fl_RX0_16 fc_X0 ⟨(RX0, TX0, 5), rfl, rfl, by decide +kernel⟩ (by first | exact hT _ (by omega) (by omega) | (rw [hT _ (by omega) (by omega)]; exact hk0) | exact z_Tu_s | (simp only [z_Tu, z_Tr]; first | rfl | (rw [hT _ (by omega) (by omega)]; rfl) | simp)) (by omega) rfl (by decide) rfl dX0_init_22 ?_
  show z_VB κ _ 126 b _ _ _ _ _ _
  rw [z_Tu_uu]
  refine zb_aload_n (i := 0) 0 hc dX0_init_25 rfl rfl ?_
  refine zb_bipush hc dX0_init_26 rfl ?_
  refine zb_bipush hc dX0_init_28 rfl ?_
  refine zb_mnaJ (NN := 6) (KK := 6) hc hy (fun k9 y h9 => hst _ _ (by omega)) (by (try simp only [z_Tu, z_Tr]); first | (rw [hT _ (by omega) (by omega)]; rfl) | (simp; rw [hT _ (by omega) (by omega)]; rfl) | rfl) (fun i hi => (zrow0 (a := 126) (m := 7) (by decide) (by decide) hi (fun j h1 h2 => by (try simp only [z_Tu, z_Tr]); (repeat rw [if_neg (by omega)]); exact hT j (by omega) (by omega)) zr_126)) (z_t1 196 rfl rfl) (z_t1 217 rfl rfl) (by decide) ⟨rfl, rfl⟩ (by decide) (Nat.le_of_ble_eq_true rfl) (Nat.le_of_ble_eq_true rfl) dX0_init_30 ?_
  refine zb_putR (ks := [(4, 1), (4, 26), (5, 0), (5, 0), (2, 0)]) (k := 99) (k2 := 126) (d := 27) (ty := .array (.array .long)) hc (zb_ABle hab hab2 (by omega)) he fl_RX0_20 fc_X0 ⟨(RX0, TX0, 5), rfl, rfl, by decide +kernel⟩ (by first | exact hT _ (by omega) (by omega) | (rw [hT _ (by omega) (by omega)]; exact hk0) | exact z_Tu_s | (simp only [z_Tu, z_Tr]; first | rfl | (rw [hT _ (by omega) (by omega)]; rfl) | simp)) (by omega) rfl (by decide) rfl dX0_init_34 ?_
  show z_VB κ _ 133 b _ _ _ _ _ _
  rw [z_Tu_uu]
  refine zb_aload_n (i := 0) 0 hc dX0_init_37 rfl rfl ?_
  refine zb_iconst hc dX0_init_38 ?_
  refine zb_newJ (NN := 4) hc (fun y => hst _ _ (by omega)) (by (try simp only [z_Tu, z_Tr]); first | (rw [hT _ (by omega) (by omega)]; rfl) | (simp; rw [hT _ (by omega) (by omega)]; rfl) | rfl) (z_t1 217 rfl rfl) (by decide) rfl (by decide) (Nat.le_of_ble_eq_true rfl) (Nat.le_of_ble_eq_true rfl) dX0_init_39 ?_
  refine zb_putR (ks := [(4, 1), (4, 26), (4, 27), (5, 0), (2, 0)]) (k := 99) (k2 := 133) (d := 34) (ty := .array .long) hc (zb_ABle hab hab2 (by omega)) he fl_RX0_23 fc_X0 ⟨(RX0, TX0, 5), rfl, rfl, by decide +kernel⟩ (by first | exact hT _ (by omega) (by omega) | (rw [hT _ (by omega) (by omega)]; exact hk0) | exact z_Tu_s | (simp only [z_Tu, z_Tr]; first | rfl | (rw [hT _ (by omega) (by omega)]; rfl) | simp)) (by omega) rfl (by decide) rfl dX0_init_41 ?_
  show z_VB κ _ 134 b _ _ _ _ _ _
  rw [z_Tu_uu]
  refine zb_aload_n (i := 0) 0 hc dX0_init_44 rfl rfl ?_
  refine zb_iconst hc dX0_init_45 ?_
  refine zb_putZ (ks := [(4, 1), (4, 26), (4, 27), (4, 34), (2, 0)]) (k := 99) (kI := 99) (jI := 4) hc (zb_ABle hab hab2 (by omega)) he fl_RX0_26 fc_X0 ⟨(RX0, TX0, 5), rfl, rfl, by decide +kernel⟩ (by first | exact hT _ (by omega) (by omega) | (rw [hT _ (by omega) (by omega)]; exact hk0) | exact z_Tu_s | (simp only [z_Tu, z_Tr]; first | rfl | (rw [hT _ (by omega) (by omega)]; rfl) | simp)) (by omega) rfl rfl rfl dX0_init_46 ?_
  have hst30 : ∀ x y : Int, ((134 : Nat) : Int) ≤ x → (z_up st 99 4 0) x y = 0 := z_st_up (z_st_le hst (by omega)) (by omega)
  refine zb_T (T2 := z_Tr T 99 (99 + 35)) (fun j hj => ?_) ?_
  · by_cases h0 : j = 99
    · subst h0
      first | (simp only [z_Tu, z_Tr]; simp; rfl) | (unfold z_Tr; rw [if_pos (by omega)]; simp only [z_Tu, z_Tr]; simp; rfl)
    · simp only [z_Tu, z_Tr, if_neg h0]
      by_cases h3 : j < 99
      · rw [if_neg (by omega)]
      · rw [if_pos (by omega), hT j (by omega) (by omega)]
        obtain ⟨i, hi, rfl⟩ : ∃ i, i < 34 ∧ j = 99 + 1 + i := ⟨j - 99 - 1, by omega, by omega⟩
        exact zq_X0 i hi
  exact zb_ret hc he rfl rfl rfl rfl rfl dX0_init_49
