theorem dX3_init_0 : decode cX3_init 0 = .ok (.aload_n 0, 1) := by decide +kernel
theorem dX3_init_1 : decode cX3_init 1 = .ok (.invokespecial 3, 3) := by decide +kernel
theorem dX3_init_4 : decode cX3_init 4 = .ok (.aload_n 0, 1) := by decide +kernel
theorem dX3_init_5 : decode cX3_init 5 = .ok (.sipush 1445, 3) := by decide +kernel
theorem dX3_init_8 : decode cX3_init 8 = .ok (.newarray .long, 2) := by decide +kernel
theorem dX3_init_10 : decode cX3_init 10 = .ok (.putfield 9, 3) := by decide +kernel
theorem dX3_init_13 : decode cX3_init 13 = .ok (.aload_n 0, 1) := by decide +kernel
theorem dX3_init_14 : decode cX3_init 14 = .ok (.sipush 340, 3) := by decide +kernel
theorem dX3_init_17 : decode cX3_init 17 = .ok (.newarray .long, 2) := by decide +kernel
theorem dX3_init_19 : decode cX3_init 19 = .ok (.putfield 15, 3) := by decide +kernel
theorem dX3_init_22 : decode cX3_init 22 = .ok (.aload_n 0, 1) := by decide +kernel
theorem dX3_init_23 : decode cX3_init 23 = .ok (.sipush 340, 3) := by decide +kernel
theorem dX3_init_26 : decode cX3_init 26 = .ok (.newarray .long, 2) := by decide +kernel
theorem dX3_init_28 : decode cX3_init 28 = .ok (.putfield 18, 3) := by decide +kernel
theorem dX3_init_31 : decode cX3_init 31 = .ok (.aload_n 0, 1) := by decide +kernel
theorem dX3_init_32 : decode cX3_init 32 = .ok (.iconst 0, 1) := by decide +kernel
theorem dX3_init_33 : decode cX3_init 33 = .ok (.putfield 21, 3) := by decide +kernel
theorem dX3_init_36 : decode cX3_init 36 = .ok (.aload_n 0, 1) := by decide +kernel
theorem dX3_init_37 : decode cX3_init 37 = .ok (.iconst 0, 1) := by decide +kernel
theorem dX3_init_38 : decode cX3_init 38 = .ok (.putfield 25, 3) := by decide +kernel
theorem dX3_init_41 : decode cX3_init 41 = .ok (.aload_n 0, 1) := by decide +kernel
theorem dX3_init_42 : decode cX3_init 42 = .ok (.iconst 0, 1) := by decide +kernel
theorem dX3_init_43 : decode cX3_init 43 = .ok (.putfield 28, 3) := by decide +kernel
theorem dX3_init_46 : decode cX3_init 46 = .ok (.return_, 1) := by decide +kernel
theorem zq_X3 : ∀ i, i < 3 → z_T0 (144 + 1 + i) = z_T (144 + 1 + i) := fun i hi => match i, hi with | 0, _ => rfl | 1, _ => rfl | 2, _ => rfl | _ + 3, h => absurd h (by omega)
def S_X3 (st : z_St) : z_St := z_up (z_up (z_up st 144 3 0) 144 4 0) 144 5 0
theorem zs_X3 {st : z_St} {M M2 : Nat} (h : ∀ x y : Int, (M : Int) ≤ x → st x y = 0) (hk : M ≤ M2 ∧ 144 < M2) : ∀ x y : Int, (M2 : Int) ≤ x → S_X3 st x y = 0 := by
  intro x y hx
  unfold S_X3
  repeat rw [z_up_n (by omega)]
  exact h x y (by omega)
set_option maxRecDepth 100000 in
set_option maxHeartbeats 4000000 in
theorem b_X3 {l : Launch} (hl : l.stackTraces = false) {T : Nat → z_Ty} {b : Nat} {st : z_St} (hT : ∀ j, 144 ≤ j → j < 144 + 4 → T j = z_T0 j) (hst : ∀ x y : Int, ((144 + 1 : Nat) : Int) ≤ x → st x y = 0) : z_MB l yX3_init cX3_init 1 8 3 2125 T 145 b [.ref (b + 144)] st (z_Tr T 144 (144 + 4)) 148 (S_X3 st) := by
  refine z_ofB hl (by decide +kernel) rfl (Nat.le_of_ble_eq_true rfl) (fun κ hc hy hab hab2 he => ?_)
  show z_VB κ T 145 b 0 0 0 [(0, .ref (b + 144))] [] st
  refine zb_aload_n (i := 0) 0 hc dX3_init_0 rfl rfl ?_
  refine zb_objInit hc (z_t2 55 rfl rfl) zo_1 zo_2 (by decide) (Nat.le_of_ble_eq_true rfl) dX3_init_1 ?_
  refine zb_aload_n (i := 0) 0 hc dX3_init_4 rfl rfl ?_
  refine zb_sipush hc dX3_init_5 rfl ?_
  refine zb_newJ (NN := 1445) hc (fun y => hst _ _ (by omega)) (by (try simp only [z_Tu, z_Tr]); first | (rw [hT _ (by omega) (by omega)]; rfl) | (simp; rw [hT _ (by omega) (by omega)]; rfl) | rfl) (z_t1 217 rfl rfl) (by decide) rfl (by decide) (Nat.le_of_ble_eq_true rfl) (Nat.le_of_ble_eq_true rfl) dX3_init_8 ?_
  refine zb_putR (ks := [(5, 0), (5, 0), (5, 0), (0, 0), (0, 0), (2, 0)]) (k := 144) (k2 := 145) (d := 1) (ty := .array .long) hc (zb_ABle hab hab2 (by omega)) he fl_RX3_9 fc_X3 ⟨(RX3, TX3, 6), rfl, rfl, by decide +kernel⟩ (by first | exact hT _ (by omega) (by omega) | (rw [hT _ (by omega) (by omega)]; exact hk0) | exact z_Tu_s | (simp only [z_Tu, z_Tr]; first | rfl | (rw [hT _ (by omega) (by omega)]; rfl) | simp)) (by omega) rfl (by decide) rfl dX3_init_10 ?_
  show z_VB κ _ 146 b _ _ _ _ _ _
  refine zb_aload_n (i := 0) 0 hc dX3_init_13 rfl rfl ?_
  refine zb_sipush hc dX3_init_14 rfl ?_
  refine zb_newJ (NN := 340) hc (fun y => hst _ _ (by omega)) (by (try simp only [z_Tu, z_Tr]); first | (rw [hT _ (by omega) (by omega)]; rfl) | (simp; rw [hT _ (by omega) (by omega)]; rfl) | rfl) (z_t1 217 rfl rfl) (by decide) rfl (by decide) (Nat.le_of_ble_eq_true rfl) (Nat.le_of_ble_eq_true rfl) dX3_init_17 ?_
  refine zb_putR (ks := [(4, 1), (5, 0), (5, 0), (0, 0), (0, 0), (2, 0)]) (k := 144) (k2 := 146) (d := 2) (ty := .array .long) hc (zb_ABle hab hab2 (by omega)) he fl_RX3_15 fc_X3 ⟨(RX3, TX3, 6), rfl, rfl, by decide +kernel⟩ (by first | exact hT _ (by omega) (by omega) | (rw [hT _ (by omega) (by omega)]; exact hk0) | exact z_Tu_s | (simp only [z_Tu, z_Tr]; first | rfl | (rw [hT _ (by omega) (by omega)]; rfl) | simp)) (by omega) rfl (by decide) rfl dX3_init_19 ?_
  show z_VB κ _ 147 b _ _ _ _ _ _
  rw [z_Tu_uu]
  refine zb_aload_n (i := 0) 0 hc dX3_init_22 rfl rfl ?_
  refine zb_sipush hc dX3_init_23 rfl ?_
  refine zb_newJ (NN := 340) hc (fun y => hst _ _ (by omega)) (by (try simp only [z_Tu, z_Tr]); first | (rw [hT _ (by omega) (by omega)]; rfl) | (simp; rw [hT _ (by omega) (by omega)]; rfl) | rfl) (z_t1 217 rfl rfl) (by decide) rfl (by decide) (Nat.le_of_ble_eq_true rfl) (Nat.le_of_ble_eq_true rfl) dX3_init_26 ?_
  refine zb_putR (ks := [(4, 1), (4, 2), (5, 0), (0, 0), (0, 0), (2, 0)]) (k := 144) (k2 := 147) (d := 3) (ty := .array .long) hc (zb_ABle hab hab2 (by omega)) he fl_RX3_18 fc_X3 ⟨(RX3, TX3, 6), rfl, rfl, by decide +kernel⟩ (by first | exact hT _ (by omega) (by omega) | (rw [hT _ (by omega) (by omega)]; exact hk0) | exact z_Tu_s | (simp only [z_Tu, z_Tr]; first | rfl | (rw [hT _ (by omega) (by omega)]; rfl) | simp)) (by omega) rfl (by decide) rfl dX3_init_28 ?_
  show z_VB κ _ 148 b _ _ _ _ _ _
  rw [z_Tu_uu]
  refine zb_aload_n (i := 0) 0 hc dX3_init_31 rfl rfl ?_
  refine zb_iconst hc dX3_init_32 ?_
  refine zb_putI (ks := [(4, 1), (4, 2), (4, 3), (0, 0), (0, 0), (2, 0)]) (k := 144) (kI := 144) (jI := 3) (x := 0) hc (zb_ABle hab hab2 (by omega)) he fl_RX3_21 fc_X3 ⟨(RX3, TX3, 6), rfl, rfl, by decide +kernel⟩ (by first | exact hT _ (by omega) (by omega) | (rw [hT _ (by omega) (by omega)]; exact hk0) | exact z_Tu_s | (simp only [z_Tu, z_Tr]; first | rfl | (rw [hT _ (by omega) (by omega)]; rfl) | simp)) (by omega) rfl rfl rfl dX3_init_33 ?_
  have hst22 : ∀ x y : Int, ((148 : Nat) : Int) ≤ x → (z_up st 144 3 0) x y = 0 := z_st_up (z_st_le hst (by omega)) (by omega)
  refine zb_aload_n (i := 0) 0 hc dX3_init_36 rfl rfl ?_
  refine zb_iconst hc dX3_init_37 ?_
  refine zb_putI (ks := [(4, 1), (4, 2), (4, 3), (0, 0), (0, 0), (2, 0)]) (k := 144) (kI := 144) (jI := 4) (x := 0) hc (zb_ABle hab hab2 (by omega)) he fl_RX3_25 fc_X3 ⟨(RX3, TX3, 6), rfl, rfl, by decide +kernel⟩ (by first | exact hT _ (by omega) (by omega) | (rw [hT _ (by omega) (by omega)]; exact hk0) | exact z_Tu_s | (simp only [z_Tu, z_Tr]; first | rfl | (rw [hT _ (by omega) (by omega)]; rfl) | simp)) (by omega) rfl rfl rfl dX3_init_38 ?_
  have hst26 : ∀ x y : Int, ((148 : Nat) : Int) ≤ x → (z_up (z_up st 144 3 0) 144 4 0) x y = 0 := z_st_up (z_st_le hst22 (by omega)) (by omega)
  refine zb_aload_n (i := 0) 0 hc dX3_init_41 rfl rfl ?_
  refine zb_iconst hc dX3_init_42 ?_
  refine zb_putZ (ks := [(4, 1), (4, 2), (4, 3), (0, 0), (0, 0), (2, 0)]) (k := 144) (kI := 144) (jI := 5) hc (zb_ABle hab hab2 (by omega)) he fl_RX3_28 fc_X3 ⟨(RX3, TX3, 6), rfl, rfl, by decide +kernel⟩ (by first | exact hT _ (by omega) (by omega) | (rw [hT _ (by omega) (by omega)]; exact hk0) | exact z_Tu_s | (simp only [z_Tu, z_Tr]; first | rfl | (rw [hT _ (by omega) (by omega)]; rfl) | simp)) (by omega) rfl rfl rfl dX3_init_43 ?_
  have hst30 : ∀ x y : Int, ((148 : Nat) : Int) ≤ x → (z_up (z_up (z_up st 144 3 0) 144 4 0) 144 5 0) x y = 0 := z_st_up (z_st_le hst26 (by omega)) (by omega)
  refine zb_T (T2 := z_Tr T 144 (144 + 4)) (fun j hj => ?_) ?_
  · by_cases h0 : j = 144
    · subst h0
      first | (simp only [z_Tu, z_Tr]; simp; rfl) | (unfold z_Tr; rw [if_pos (by omega)]; simp only [z_Tu, z_Tr]; simp; rfl)
    · simp only [z_Tu, z_Tr, if_neg h0]
      by_cases h3 : j < 144
      · rw [if_neg (by omega)]
      · rw [if_pos (by omega), hT j (by omega) (by omega)]
        obtain ⟨i, hi, rfl⟩ : ∃ i, i < 3 ∧ j = 144 + 1 + i := ⟨j - 144 - 1, by omega, by omega⟩
        exact zq_X3 i hi
  exact zb_ret hc he rfl rfl rfl rfl rfl dX3_init_46
