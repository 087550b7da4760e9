theorem dX10_init_0 : decode cX10_init 0 = .ok (.aload_n 0, 1) := by decide +kernel
theorem dX10_init_1 : decode cX10_init 1 = .ok (.invokespecial 3, 3) := by decide +kernel
theorem dX10_init_4 : decode cX10_init 4 = .ok (.aload_n 0, 1) := by decide +kernel
theorem dX10_init_5 : decode cX10_init 5 = .ok (.bipush 6, 2) := by decide +kernel
theorem dX10_init_7 : decode cX10_init 7 = .ok (.bipush 16, 2) := by decide +kernel
theorem dX10_init_9 : decode cX10_init 9 = .ok (.multianewarray 9 2, 4) := by decide +kernel
theorem dX10_init_13 : decode cX10_init 13 = .ok (.putfield 11, 3) := by decide +kernel
theorem dX10_init_16 : decode cX10_init 16 = .ok (.aload_n 0, 1) := by decide +kernel
theorem dX10_init_17 : decode cX10_init 17 = .ok (.bipush 85, 2) := by decide +kernel
theorem dX10_init_19 : decode cX10_init 19 = .ok (.newarray .long, 2) := by decide +kernel
theorem dX10_init_21 : decode cX10_init 21 = .ok (.putfield 16, 3) := by decide +kernel
theorem dX10_init_24 : decode cX10_init 24 = .ok (.aload_n 0, 1) := by decide +kernel
theorem dX10_init_25 : decode cX10_init 25 = .ok (.bipush 85, 2) := by decide +kernel
theorem dX10_init_27 : decode cX10_init 27 = .ok (.newarray .long, 2) := by decide +kernel
theorem dX10_init_29 : decode cX10_init 29 = .ok (.putfield 20, 3) := by decide +kernel
theorem dX10_init_32 : decode cX10_init 32 = .ok (.aload_n 0, 1) := by decide +kernel
theorem dX10_init_33 : decode cX10_init 33 = .ok (.iconst 0, 1) := by decide +kernel
theorem dX10_init_34 : decode cX10_init 34 = .ok (.putfield 23, 3) := by decide +kernel
theorem dX10_init_37 : decode cX10_init 37 = .ok (.return_, 1) := by decide +kernel
theorem zq_X10 : ∀ i, i < 9 → z_T0 (148 + 1 + i) = z_T (148 + 1 + i) := fun i hi => match i, hi with | 0, _ => rfl | 1, _ => rfl | 2, _ => rfl | 3, _ => rfl | 4, _ => rfl | 5, _ => rfl | 6, _ => rfl | 7, _ => rfl | 8, _ => rfl | _ + 9, h => absurd h (by omega)
def S_X10 (st : z_St) : z_St := z_up st 148 3 0
theorem zs_X10 {st : z_St} {M M2 : Nat} (h : ∀ x y : Int, (M : Int) ≤ x → st x y = 0) (hk : M ≤ M2 ∧ 148 < M2) : ∀ x y : Int, (M2 : Int) ≤ x → S_X10 st x y = 0 := by
  intro x y hx
  unfold S_X10
  repeat rw [z_up_n (by omega)]
  exact h x y (by omega)
set_option maxRecDepth 100000 in
set_option maxHeartbeats 4000000 in
theorem b_X10 {l : Launch} (hl : l.stackTraces = false) {T : Nat → z_Ty} {b : Nat} {st : z_St} (hT : ∀ j, 148 ≤ j → j < 148 + 10 → T j = z_T0 j) (hst : ∀ x y : Int, ((148 + 1 : Nat) : Int) ≤ x → st x y = 0) : z_MB l yX10_init cX10_init 1 8 9 272 T 149 b [.ref (b + 148)] st (z_Tr T 148 (148 + 10)) 158 (S_X10 st) := by
  refine z_ofB hl (by decide +kernel) rfl (Nat.le_of_ble_eq_true rfl) (fun κ hc hy hab hab2 he => ?_)
  show z_VB κ T 149 b 0 0 0 [(0, .ref (b + 148))] [] st
  refine zb_aload_n (i := 0) 0 hc dX10_init_0 rfl rfl ?_
  refine zb_objInit hc (z_t2 81 rfl rfl) zo_1 zo_2 (by decide) (Nat.le_of_ble_eq_true rfl) dX10_init_1 ?_
  refine zb_aload_n (i := 0) 0 hc dX10_init_4 rfl rfl ?_
  refine zb_bipush hc dX10_init_5 rfl ?_
  refine zb_bipush hc dX10_init_7 rfl ?_
  refine zb_mnaI (NN := 6) (KK := 16) hc hy (fun k9 y h9 => hst _ _ (by omega)) (by (try simp only [z_Tu, z_Tr]); first | (rw [hT _ (by omega) (by omega)]; rfl) | (simp; rw [hT _ (by omega) (by omega)]; rfl) | rfl) (fun i hi => (zrow0 (a := 149) (m := 7) (by decide) (by decide) hi (fun j h1 h2 => by (try simp only [z_Tu, z_Tr]); (repeat rw [if_neg (by omega)]); exact hT j (by omega) (by omega)) zr_149)) (z_t2 82 rfl rfl) (z_t1 56 rfl rfl) (by decide) ⟨rfl, rfl⟩ (by decide) (Nat.le_of_ble_eq_true rfl) (Nat.le_of_ble_eq_true rfl) dX10_init_9 ?_
  refine zb_putR (ks := [(5, 0), (5, 0), (5, 0), (2, 0)]) (k := 148) (k2 := 149) (d := 1) (ty := .array (.array .int)) hc (zb_ABle hab hab2 (by omega)) he fl_RX10_11 fc_X10 ⟨(RX10, TX10, 4), rfl, rfl, by decide +kernel⟩ (by first | exact hT _ (by omega) (by omega) | (rw [hT _ (by omega) (by omega)]; exact hk0) | exact z_Tu_s | (simp only [z_Tu, z_Tr]; first | rfl | (rw [hT _ (by omega) (by omega)]; rfl) | simp)) (by omega) rfl (by decide) rfl dX10_init_13 ?_
  show z_VB κ _ 156 b _ _ _ _ _ _
  refine zb_aload_n (i := 0) 0 hc dX10_init_16 rfl rfl ?_
  refine zb_bipush hc dX10_init_17 rfl ?_
  refine zb_newJ (NN := 85) hc (fun y => hst _ _ (by omega)) (by (try simp only [z_Tu, z_Tr]); first | (rw [hT _ (by omega) (by omega)]; rfl) | (simp; rw [hT _ (by omega) (by omega)]; rfl) | rfl) (z_t1 217 rfl rfl) (by decide) rfl (by decide) (Nat.le_of_ble_eq_true rfl) (Nat.le_of_ble_eq_true rfl) dX10_init_19 ?_
  refine zb_putR (ks := [(4, 1), (5, 0), (5, 0), (2, 0)]) (k := 148) (k2 := 156) (d := 8) (ty := .array .long) hc (zb_ABle hab hab2 (by omega)) he fl_RX10_16 fc_X10 ⟨(RX10, TX10, 4), rfl, rfl, by decide +kernel⟩ (by first | exact hT _ (by omega) (by omega) | (rw [hT _ (by omega) (by omega)]; exact hk0) | exact z_Tu_s | (simp only [z_Tu, z_Tr]; first | rfl | (rw [hT _ (by omega) (by omega)]; rfl) | simp)) (by omega) rfl (by decide) rfl dX10_init_21 ?_
  show z_VB κ _ 157 b _ _ _ _ _ _
  rw [z_Tu_uu]
  refine zb_aload_n (i := 0) 0 hc dX10_init_24 rfl rfl ?_
  refine zb_bipush hc dX10_init_25 rfl ?_
  refine zb_newJ (NN := 85) hc (fun y => hst _ _ (by omega)) (by (try simp only [z_Tu, z_Tr]); first | (rw [hT _ (by omega) (by omega)]; rfl) | (simp; rw [hT _ (by omega) (by omega)]; rfl) | rfl) (z_t1 217 rfl rfl) (by decide) rfl (by decide) (Nat.le_of_ble_eq_true rfl) (Nat.le_of_ble_eq_true rfl) dX10_init_27 ?_
  refine zb_putR (ks := [(4, 1), (4, 8), (5, 0), (2, 0)]) (k := 148) (k2 := 157) (d := 9) (ty := .array .long) hc (zb_ABle hab hab2 (by omega)) he fl_RX10_20 fc_X10 ⟨(RX10, TX10, 4), rfl, rfl, by decide +kernel⟩ (by first | exact hT _ (by omega) (by omega) | (rw [hT _ (by omega) (by omega)]; exact hk0) | exact z_Tu_s | (simp only [z_Tu, z_Tr]; first | rfl | (rw [hT _ (by omega) (by omega)]; rfl) | simp)) (by omega) rfl (by decide) rfl dX10_init_29 ?_
  show z_VB κ _ 158 b _ _ _ _ _ _
  rw [z_Tu_uu]
  refine zb_aload_n (i := 0) 0 hc dX10_init_32 rfl rfl ?_
  refine zb_iconst hc dX10_init_33 ?_
  refine zb_putZ (ks := [(4, 1), (4, 8), (4, 9), (2, 0)]) (k := 148) (kI := 148) (jI := 3) hc (zb_ABle hab hab2 (by omega)) he fl_RX10_23 fc_X10 ⟨(RX10, TX10, 4), rfl, rfl, by decide +kernel⟩ (by first | exact hT _ (by omega) (by omega) | (rw [hT _ (by omega) (by omega)]; exact hk0) | exact z_Tu_s | (simp only [z_Tu, z_Tr]; first | rfl | (rw [hT _ (by omega) (by omega)]; rfl) | simp)) (by omega) rfl rfl rfl dX10_init_34 ?_
  have hst23 : ∀ x y : Int, ((158 : Nat) : Int) ≤ x → (z_up st 148 3 0) x y = 0 := z_st_up (z_st_le hst (by omega)) (by omega)
  refine zb_T (T2 := z_Tr T 148 (148 + 10)) (fun j hj => ?_) ?_
  · by_cases h0 : j = 148
    · subst h0
      first | (simp only [z_Tu, z_Tr]; simp; rfl) | (unfold z_Tr; rw [if_pos (by omega)]; simp only [z_Tu, z_Tr]; simp; rfl)
    · simp only [z_Tu, z_Tr, if_neg h0]
      by_cases h3 : j < 148
      · rw [if_neg (by omega)]
      · rw [if_pos (by omega), hT j (by omega) (by omega)]
        obtain ⟨i, hi, rfl⟩ : ∃ i, i < 9 ∧ j = 148 + 1 + i := ⟨j - 148 - 1, by omega, by omega⟩
        exact zq_X10 i hi
  exact zb_ret hc he rfl rfl rfl rfl rfl dX10_init_37
