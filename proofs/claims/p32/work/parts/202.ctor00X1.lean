theorem dX1_init_0 : decode cX1_init 0 = .ok (.aload_n 0, 1) := by decide +kernel
theorem dX1_init_1 : decode cX1_init 1 = .ok (.invokespecial 3, 3) := by decide +kernel
theorem dX1_init_4 : decode cX1_init 4 = .ok (.aload_n 0, 1) := by decide +kernel
theorem dX1_init_5 : decode cX1_init 5 = .ok (.bipush 16, 2) := by decide +kernel
theorem dX1_init_7 : decode cX1_init 7 = .ok (.iconst 3, 1) := by decide +kernel
theorem dX1_init_8 : decode cX1_init 8 = .ok (.multianewarray 9 2, 4) := by decide +kernel
theorem dX1_init_12 : decode cX1_init 12 = .ok (.putfield 11, 3) := by decide +kernel
theorem dX1_init_15 : decode cX1_init 15 = .ok (.aload_n 0, 1) := by decide +kernel
theorem dX1_init_16 : decode cX1_init 16 = .ok (.iconst 4, 1) := by decide +kernel
theorem dX1_init_17 : decode cX1_init 17 = .ok (.iconst 3, 1) := by decide +kernel
theorem dX1_init_18 : decode cX1_init 18 = .ok (.multianewarray 9 2, 4) := by decide +kernel
theorem dX1_init_22 : decode cX1_init 22 = .ok (.putfield 16, 3) := by decide +kernel
theorem dX1_init_25 : decode cX1_init 25 = .ok (.aload_n 0, 1) := by decide +kernel
theorem dX1_init_26 : decode cX1_init 26 = .ok (.iconst 0, 1) := by decide +kernel
theorem dX1_init_27 : decode cX1_init 27 = .ok (.putfield 19, 3) := by decide +kernel
theorem dX1_init_30 : decode cX1_init 30 = .ok (.aload_n 0, 1) := by decide +kernel
theorem dX1_init_31 : decode cX1_init 31 = .ok (.iconst 0, 1) := by decide +kernel
theorem dX1_init_32 : decode cX1_init 32 = .ok (.putfield 23, 3) := by decide +kernel
theorem dX1_init_35 : decode cX1_init 35 = .ok (.return_, 1) := by decide +kernel
theorem zq_X1 : ∀ i, i < 22 → z_T0 (1 + 1 + i) = z_T (1 + 1 + i) := fun i hi => match i, hi with | 0, _ => rfl | 1, _ => rfl | 2, _ => rfl | 3, _ => rfl | 4, _ => rfl | 5, _ => rfl | 6, _ => rfl | 7, _ => rfl | 8, _ => rfl | 9, _ => rfl | 10, _ => rfl | 11, _ => rfl | 12, _ => rfl | 13, _ => rfl | 14, _ => rfl | 15, _ => rfl | 16, _ => rfl | 17, _ => rfl | 18, _ => rfl | 19, _ => rfl | 20, _ => rfl | 21, _ => rfl | _ + 22, h => absurd h (by omega)
def S_X1 (st : z_St) : z_St := z_up (z_up st 1 2 0) 1 3 0
theorem zs_X1 {st : z_St} {M M2 : Nat} (h : ∀ x y : Int, (M : Int) ≤ x → st x y = 0) (hk : M ≤ M2 ∧ 1 < M2) : ∀ x y : Int, (M2 : Int) ≤ x → S_X1 st x y = 0 := by
  intro x y hx
  unfold S_X1
  repeat rw [z_up_n (by omega)]
  exact h x y (by omega)
set_option maxRecDepth 100000 in
set_option maxHeartbeats 4000000 in
theorem b_X1 {l : Launch} (hl : l.stackTraces = false) {T : Nat → z_Ty} {b : Nat} {st : z_St} (hT : ∀ j, 1 ≤ j → j < 1 + 23 → T j = z_T0 j) (hst : ∀ x y : Int, ((1 + 1 : Nat) : Int) ≤ x → st x y = 0) : z_MB l yX1_init cX1_init 1 8 22 80 T 2 b [.ref (b + 1)] st (z_Tr T 1 (1 + 23)) 24 (S_X1 st) := by
  refine z_ofB hl (by decide +kernel) rfl (Nat.le_of_ble_eq_true rfl) (fun κ hc hy hab hab2 he => ?_)
  show z_VB κ T 2 b 0 0 0 [(0, .ref (b + 1))] [] st
  refine zb_aload_n (i := 0) 0 hc dX1_init_0 rfl rfl ?_
  refine zb_objInit hc (z_t1 35 rfl rfl) zo_1 zo_2 (by decide) (Nat.le_of_ble_eq_true rfl) dX1_init_1 ?_
  refine zb_aload_n (i := 0) 0 hc dX1_init_4 rfl rfl ?_
  refine zb_bipush hc dX1_init_5 rfl ?_
  refine zb_iconst hc dX1_init_7 ?_
  refine zb_mnaI (NN := 16) (KK := 3) hc hy (fun k9 y h9 => hst _ _ (by omega)) (by (try simp only [z_Tu, z_Tr]); first | (rw [hT _ (by omega) (by omega)]; rfl) | (simp; rw [hT _ (by omega) (by omega)]; rfl) | rfl) (fun i hi => (zrow0 (a := 2) (m := 17) (by decide) (by decide) hi (fun j h1 h2 => by (try simp only [z_Tu, z_Tr]); (repeat rw [if_neg (by omega)]); exact hT j (by omega) (by omega)) zr_2)) (z_t1 36 rfl rfl) (z_t1 56 rfl rfl) (by decide) ⟨rfl, rfl⟩ (by decide) (Nat.le_of_ble_eq_true rfl) (Nat.le_of_ble_eq_true rfl) dX1_init_8 ?_
  refine zb_putR (ks := [(5, 0), (5, 0), (0, 0), (0, 0)]) (k := 1) (k2 := 2) (d := 1) (ty := .array (.array .int)) hc (zb_ABle hab hab2 (by omega)) he fl_RX1_11 fc_X1 ⟨(RX1, TX1, 4), rfl, rfl, by decide +kernel⟩ (by first | exact hT _ (by omega) (by omega) | (rw [hT _ (by omega) (by omega)]; exact hk0) | exact z_Tu_s | (simp only [z_Tu, z_Tr]; first | rfl | (rw [hT _ (by omega) (by omega)]; rfl) | simp)) (by omega) rfl (by decide) rfl dX1_init_12 ?_
  show z_VB κ _ 19 b _ _ _ _ _ _
  refine zb_aload_n (i := 0) 0 hc dX1_init_15 rfl rfl ?_
  refine zb_iconst hc dX1_init_16 ?_
  refine zb_iconst hc dX1_init_17 ?_
  refine zb_mnaI (NN := 4) (KK := 3) hc hy (fun k9 y h9 => hst _ _ (by omega)) (by (try simp only [z_Tu, z_Tr]); first | (rw [hT _ (by omega) (by omega)]; rfl) | (simp; rw [hT _ (by omega) (by omega)]; rfl) | rfl) (fun i hi => (zrow0 (a := 19) (m := 5) (by decide) (by decide) hi (fun j h1 h2 => by (try simp only [z_Tu, z_Tr]); (repeat rw [if_neg (by omega)]); exact hT j (by omega) (by omega)) zr_19)) (z_t1 36 rfl rfl) (z_t1 56 rfl rfl) (by decide) ⟨rfl, rfl⟩ (by decide) (Nat.le_of_ble_eq_true rfl) (Nat.le_of_ble_eq_true rfl) dX1_init_18 ?_
  refine zb_putR (ks := [(4, 1), (5, 0), (0, 0), (0, 0)]) (k := 1) (k2 := 19) (d := 18) (ty := .array (.array .int)) hc (zb_ABle hab hab2 (by omega)) he fl_RX1_16 fc_X1 ⟨(RX1, TX1, 4), rfl, rfl, by decide +kernel⟩ (by first | exact hT _ (by omega) (by omega) | (rw [hT _ (by omega) (by omega)]; exact hk0) | exact z_Tu_s | (simp only [z_Tu, z_Tr]; first | rfl | (rw [hT _ (by omega) (by omega)]; rfl) | simp)) (by omega) rfl (by decide) rfl dX1_init_22 ?_
  show z_VB κ _ 24 b _ _ _ _ _ _
  rw [z_Tu_uu]
  refine zb_aload_n (i := 0) 0 hc dX1_init_25 rfl rfl ?_
  refine zb_iconst hc dX1_init_26 ?_
  refine zb_putI (ks := [(4, 1), (4, 18), (0, 0), (0, 0)]) (k := 1) (kI := 1) (jI := 2) (x := 0) hc (zb_ABle hab hab2 (by omega)) he fl_RX1_19 fc_X1 ⟨(RX1, TX1, 4), rfl, rfl, by decide +kernel⟩ (by first | exact hT _ (by omega) (by omega) | (rw [hT _ (by omega) (by omega)]; exact hk0) | exact z_Tu_s | (simp only [z_Tu, z_Tr]; first | rfl | (rw [hT _ (by omega) (by omega)]; rfl) | simp)) (by omega) rfl rfl rfl dX1_init_27 ?_
  have hst18 : ∀ x y : Int, ((24 : Nat) : Int) ≤ x → (z_up st 1 2 0) x y = 0 := z_st_up (z_st_le hst (by omega)) (by omega)
  refine zb_aload_n (i := 0) 0 hc dX1_init_30 rfl rfl ?_
  refine zb_iconst hc dX1_init_31 ?_
  refine zb_putI (ks := [(4, 1), (4, 18), (0, 0), (0, 0)]) (k := 1) (kI := 1) (jI := 3) (x := 0) hc (zb_ABle hab hab2 (by omega)) he fl_RX1_23 fc_X1 ⟨(RX1, TX1, 4), rfl, rfl, by decide +kernel⟩ (by first | exact hT _ (by omega) (by omega) | (rw [hT _ (by omega) (by omega)]; exact hk0) | exact z_Tu_s | (simp only [z_Tu, z_Tr]; first | rfl | (rw [hT _ (by omega) (by omega)]; rfl) | simp)) (by omega) rfl rfl rfl dX1_init_32 ?_
  have hst22 : ∀ x y : Int, ((24 : Nat) : Int) ≤ x → (z_up (z_up st 1 2 0) 1 3 0) x y = 0 := z_st_up (z_st_le hst18 (by omega)) (by omega)
  refine zb_T (T2 := z_Tr T 1 (1 + 23)) (fun j hj => ?_) ?_
  · by_cases h0 : j = 1
    · subst h0
      first | (simp only [z_Tu, z_Tr]; simp; rfl) | (unfold z_Tr; rw [if_pos (by omega)]; simp only [z_Tu, z_Tr]; simp; rfl)
    · simp only [z_Tu, z_Tr, if_neg h0]
      by_cases h3 : j < 1
      · rw [if_neg (by omega)]
      · rw [if_pos (by omega), hT j (by omega) (by omega)]
        obtain ⟨i, hi, rfl⟩ : ∃ i, i < 22 ∧ j = 1 + 1 + i := ⟨j - 1 - 1, by omega, by omega⟩
        exact zq_X1 i hi
  exact zb_ret hc he rfl rfl rfl rfl rfl dX1_init_35
