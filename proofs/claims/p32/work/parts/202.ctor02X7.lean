theorem dX7_init_0 : decode cX7_init 0 = .ok (.aload_n 0, 1) := by decide +kernel
theorem dX7_init_1 : decode cX7_init 1 = .ok (.invokespecial 3, 3) := by decide +kernel
theorem dX7_init_4 : decode cX7_init 4 = .ok (.aload_n 0, 1) := by decide +kernel
theorem dX7_init_5 : decode cX7_init 5 = .ok (.iconst 4, 1) := by decide +kernel
theorem dX7_init_6 : decode cX7_init 6 = .ok (.newarray .int, 2) := by decide +kernel
theorem dX7_init_8 : decode cX7_init 8 = .ok (.putfield 9, 3) := by decide +kernel
theorem dX7_init_11 : decode cX7_init 11 = .ok (.aload_n 0, 1) := by decide +kernel
theorem dX7_init_12 : decode cX7_init 12 = .ok (.iconst 4, 1) := by decide +kernel
theorem dX7_init_13 : decode cX7_init 13 = .ok (.newarray .int, 2) := by decide +kernel
theorem dX7_init_15 : decode cX7_init 15 = .ok (.putfield 15, 3) := by decide +kernel
theorem dX7_init_18 : decode cX7_init 18 = .ok (.aload_n 0, 1) := by decide +kernel
theorem dX7_init_19 : decode cX7_init 19 = .ok (.iconst 0, 1) := by decide +kernel
theorem dX7_init_20 : decode cX7_init 20 = .ok (.putfield 18, 3) := by decide +kernel
theorem dX7_init_23 : decode cX7_init 23 = .ok (.aload_n 0, 1) := by decide +kernel
theorem dX7_init_24 : decode cX7_init 24 = .ok (.iconst 0, 1) := by decide +kernel
theorem dX7_init_25 : decode cX7_init 25 = .ok (.putfield 22, 3) := by decide +kernel
theorem dX7_init_28 : decode cX7_init 28 = .ok (.return_, 1) := by decide +kernel
def S_X7 (k : Nat) (st : z_St) : z_St := z_up (z_up st (k : Int) 2 0) (k : Int) 3 0
theorem zs_X7 {st : z_St} {M M2 : Nat} {k : Nat} (h : ∀ x y : Int, (M : Int) ≤ x → st x y = 0) (hk : M ≤ M2 ∧ k < M2) : ∀ x y : Int, (M2 : Int) ≤ x → S_X7 k st x y = 0 := by
  intro x y hx
  unfold S_X7
  repeat rw [z_up_n (by omega)]
  exact h x y (by omega)
set_option maxRecDepth 100000 in
set_option maxHeartbeats 4000000 in
theorem b_X7 {l : Launch} (hl : l.stackTraces = false) {T : Nat → z_Ty} {b k : Nat} {st : z_St} (hk0 : z_T0 k = .inl (7, [(5, 0), (5, 0), (0, 0), (0, 0)])) (hk9 : z_T k = .inl (7, [(4, 1), (4, 2), (0, 0), (0, 0)])) (hkA : ∀ j, k < j → j < k + 3 → z_T0 j = .inr (0, 0, 4, 0, 0) ∧ z_T j = .inr (0, 0, 4, 0, 0)) (hT : ∀ j, k ≤ j → j < k + 3 → T j = z_T0 j) (hst : ∀ x y : Int, ((k + 1 : Nat) : Int) ≤ x → st x y = 0) : z_MB l yX7_init cX7_init 1 8 2 8 T (k + 1) b [.ref (b + k)] st (z_Tr T k (k + 3)) (k + 3) (S_X7 k st) := by
  refine z_ofB hl (by decide +kernel) rfl (Nat.le_of_ble_eq_true rfl) (fun κ hc hy hab hab2 he => ?_)
  have hkk : ∀ j, k < j → j < k + 3 → z_T0 j = z_T j := fun j h1 h2 => (hkA j h1 h2).1.trans (hkA j h1 h2).2.symm
  show z_VB κ T (k + 1) b 0 0 0 [(0, .ref (b + k))] [] st
  refine zb_aload_n (i := 0) 0 hc dX7_init_0 rfl rfl ?_
  refine zb_objInit hc (z_t1 100 rfl rfl) zo_1 zo_2 (by decide) (Nat.le_of_ble_eq_true rfl) dX7_init_1 ?_
  refine zb_aload_n (i := 0) 0 hc dX7_init_4 rfl rfl ?_
  refine zb_iconst hc dX7_init_5 ?_
  refine zb_newI (NN := 4) hc (fun y => hst _ _ (by omega)) (by (try simp only [z_Tu]); first | (rw [if_neg (by omega), hT _ (by omega) (by omega)]; exact (hkA _ (by omega) (by omega)).1) | (rw [hT _ (by omega) (by omega)]; exact (hkA _ (by omega) (by omega)).1)) (z_t1 56 rfl rfl) (by decide) rfl (by decide) (Nat.le_of_ble_eq_true rfl) (Nat.le_of_ble_eq_true rfl) dX7_init_6 ?_
  refine zb_putR (ks := [(5, 0), (5, 0), (0, 0), (0, 0)]) (k := k) (k2 := (k + 1)) (d := 1) (ty := .array .int) hc (zb_ABle hab hab2 (by omega)) he fl_RX7_9 fc_X7 ⟨(RX7, TX7, 4), rfl, rfl, by decide +kernel⟩ (by first | exact z_Tu_s | (rw [hT _ (by omega) (by omega)]; exact hk0)) (by omega) rfl (by decide) rfl dX7_init_8 ?_
  show z_VB κ _ (k + 2) b _ _ _ _ _ _
  refine zb_aload_n (i := 0) 0 hc dX7_init_11 rfl rfl ?_
  refine zb_iconst hc dX7_init_12 ?_
  refine zb_newI (NN := 4) hc (fun y => hst _ _ (by omega)) (by (try simp only [z_Tu]); first | (rw [if_neg (by omega), hT _ (by omega) (by omega)]; exact (hkA _ (by omega) (by omega)).1) | (rw [hT _ (by omega) (by omega)]; exact (hkA _ (by omega) (by omega)).1)) (z_t1 56 rfl rfl) (by decide) rfl (by decide) (Nat.le_of_ble_eq_true rfl) (Nat.le_of_ble_eq_true rfl) dX7_init_13 ?_
  refine zb_putR (ks := [(4, 1), (5, 0), (0, 0), (0, 0)]) (k := k) (k2 := (k + 2)) (d := 2) (ty := .array .int) hc (zb_ABle hab hab2 (by omega)) he fl_RX7_15 fc_X7 ⟨(RX7, TX7, 4), rfl, rfl, by decide +kernel⟩ (by first | exact z_Tu_s | (rw [hT _ (by omega) (by omega)]; exact hk0)) (by omega) rfl (by decide) rfl dX7_init_15 ?_
  show z_VB κ _ (k + 3) b _ _ _ _ _ _
  rw [z_Tu_uu]
  refine zb_aload_n (i := 0) 0 hc dX7_init_18 rfl rfl ?_
  refine zb_iconst hc dX7_init_19 ?_
  refine zb_putI (ks := [(4, 1), (4, 2), (0, 0), (0, 0)]) (k := k) (kI := (k : Int)) (jI := 2) (x := 0) hc (zb_ABle hab hab2 (by omega)) he fl_RX7_18 fc_X7 ⟨(RX7, TX7, 4), rfl, rfl, by decide +kernel⟩ (by first | exact z_Tu_s | (rw [hT _ (by omega) (by omega)]; exact hk0)) (by omega) rfl rfl rfl dX7_init_20 ?_
  have hst16 : ∀ x y : Int, ((k + 3 : Nat) : Int) ≤ x → (z_up st (k : Int) 2 0) x y = 0 := z_st_up (z_st_le hst (by omega)) (by omega)
  refine zb_aload_n (i := 0) 0 hc dX7_init_23 rfl rfl ?_
  refine zb_iconst hc dX7_init_24 ?_
  refine zb_putI (ks := [(4, 1), (4, 2), (0, 0), (0, 0)]) (k := k) (kI := (k : Int)) (jI := 3) (x := 0) hc (zb_ABle hab hab2 (by omega)) he fl_RX7_22 fc_X7 ⟨(RX7, TX7, 4), rfl, rfl, by decide +kernel⟩ (by first | exact z_Tu_s | (rw [hT _ (by omega) (by omega)]; exact hk0)) (by omega) rfl rfl rfl dX7_init_25 ?_
  have hst20 : ∀ x y : Int, ((k + 3 : Nat) : Int) ≤ x → (z_up (z_up st (k : Int) 2 0) (k : Int) 3 0) x y = 0 := z_st_up (z_st_le hst16 (by omega)) (by omega)
  refine zb_T (T2 := z_Tr T k (k + 3)) (fun j hj => ?_) ?_
  · by_cases h0 : j = k
    · subst h0
      first | (simp only [z_Tu, z_Tr]; simp; rfl) | (unfold z_Tr; rw [if_pos (by omega)]; simp only [z_Tu, z_Tr]; simp; first | exact hk9.symm | rfl)
    · simp only [z_Tu, z_Tr, if_neg h0]
      by_cases h3 : j < k
      · rw [if_neg (by omega)]
      · rw [if_pos (by omega), hT j (by omega) (by omega)]
        exact hkk j (by omega) (by omega)
  exact zb_ret hc he rfl rfl rfl rfl rfl dX7_init_28
