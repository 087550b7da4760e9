theorem dX6_init_0 : decode cX6_init 0 = .ok (.aload_n 0, 1) := by decide +kernel
theorem dX6_init_1 : decode cX6_init 1 = .ok (.invokespecial 3, 3) := by decide +kernel
theorem dX6_init_4 : decode cX6_init 4 = .ok (.aload_n 0, 1) := by decide +kernel
theorem dX6_init_5 : decode cX6_init 5 = .ok (.iconst 4, 1) := by decide +kernel
theorem dX6_init_6 : decode cX6_init 6 = .ok (.newarray .int, 2) := by decide +kernel
theorem dX6_init_8 : decode cX6_init 8 = .ok (.putfield 9, 3) := by decide +kernel
theorem dX6_init_11 : decode cX6_init 11 = .ok (.aload_n 0, 1) := by decide +kernel
theorem dX6_init_12 : decode cX6_init 12 = .ok (.iconst 0, 1) := by decide +kernel
theorem dX6_init_13 : decode cX6_init 13 = .ok (.putfield 15, 3) := by decide +kernel
theorem dX6_init_16 : decode cX6_init 16 = .ok (.return_, 1) := by decide +kernel
def S_X6 (k : Nat) (st : z_St) : z_St := z_up st (k : Int) 1 0
theorem zs_X6 {st : z_St} {M M2 : Nat} {k : Nat} (h : ∀ x y : Int, (M : Int) ≤ x → st x y = 0) (hk : M ≤ M2 ∧ k < M2) : ∀ x y : Int, (M2 : Int) ≤ x → S_X6 k st x y = 0 := by
  intro x y hx
  unfold S_X6
  repeat rw [z_up_n (by omega)]
  exact h x y (by omega)
set_option maxRecDepth 100000 in
set_option maxHeartbeats 4000000 in
theorem b_X6 {l : Launch} (hl : l.stackTraces = false) {T : Nat → z_Ty} {b k : Nat} {st : z_St} (hk0 : z_T0 k = .inl (6, [(5, 0), (0, 0)])) (hk9 : z_T k = .inl (6, [(4, 1), (0, 0)])) (hkA : ∀ j, k < j → j < k + 2 → z_T0 j = .inr (0, 0, 4, 0, 0) ∧ z_T j = .inr (0, 0, 4, 0, 0)) (hT : ∀ j, k ≤ j → j < k + 2 → T j = z_T0 j) (hst : ∀ x y : Int, ((k + 1 : Nat) : Int) ≤ x → st x y = 0) : z_MB l yX6_init cX6_init 1 8 1 4 T (k + 1) b [.ref (b + k)] st (z_Tr T k (k + 2)) (k + 2) (S_X6 k st) := by
  refine z_ofB hl (by decide +kernel) rfl (Nat.le_of_ble_eq_true rfl) (fun κ hc hy hab hab2 he => ?_)
  have hkk : ∀ j, k < j → j < k + 2 → z_T0 j = z_T j := fun j h1 h2 => (hkA j h1 h2).1.trans (hkA j h1 h2).2.symm
  show z_VB κ T (k + 1) b 0 0 0 [(0, .ref (b + k))] [] st
  refine zb_aload_n (i := 0) 0 hc dX6_init_0 rfl rfl ?_
  refine zb_objInit hc (z_t2 103 rfl rfl) zo_1 zo_2 (by decide) (Nat.le_of_ble_eq_true rfl) dX6_init_1 ?_
  refine zb_aload_n (i := 0) 0 hc dX6_init_4 rfl rfl ?_
  refine zb_iconst hc dX6_init_5 ?_
  refine zb_newI (NN := 4) hc (fun y => hst _ _ (by omega)) (by (try simp only [z_Tu]); first | (rw [if_neg (by omega), hT _ (by omega) (by omega)]; exact (hkA _ (by omega) (by omega)).1) | (rw [hT _ (by omega) (by omega)]; exact (hkA _ (by omega) (by omega)).1)) (z_t1 56 rfl rfl) (by decide) rfl (by decide) (Nat.le_of_ble_eq_true rfl) (Nat.le_of_ble_eq_true rfl) dX6_init_6 ?_
  refine zb_putR (ks := [(5, 0), (0, 0)]) (k := k) (k2 := (k + 1)) (d := 1) (ty := .array .int) hc (zb_ABle hab hab2 (by omega)) he fl_RX6_9 fc_X6 ⟨(RX6, TX6, 2), rfl, rfl, by decide +kernel⟩ (by first | exact z_Tu_s | (rw [hT _ (by omega) (by omega)]; exact hk0)) (by omega) rfl (by decide) rfl dX6_init_8 ?_
  show z_VB κ _ (k + 2) b _ _ _ _ _ _
  refine zb_aload_n (i := 0) 0 hc dX6_init_11 rfl rfl ?_
  refine zb_iconst hc dX6_init_12 ?_
  refine zb_putI (ks := [(4, 1), (0, 0)]) (k := k) (kI := (k : Int)) (jI := 1) (x := 0) hc (zb_ABle hab hab2 (by omega)) he fl_RX6_15 fc_X6 ⟨(RX6, TX6, 2), rfl, rfl, by decide +kernel⟩ (by first | exact z_Tu_s | (rw [hT _ (by omega) (by omega)]; exact hk0)) (by omega) rfl rfl rfl dX6_init_13 ?_
  have hst10 : ∀ x y : Int, ((k + 2 : Nat) : Int) ≤ x → (z_up st (k : Int) 1 0) x y = 0 := z_st_up (z_st_le hst (by omega)) (by omega)
  refine zb_T (T2 := z_Tr T k (k + 2)) (fun j hj => ?_) ?_
  · by_cases h0 : j = k
    · subst h0
      first | (simp only [z_Tu, z_Tr]; simp; rfl) | (unfold z_Tr; rw [if_pos (by omega)]; simp only [z_Tu, z_Tr]; simp; first | exact hk9.symm | rfl)
    · simp only [z_Tu, z_Tr, if_neg h0]
      by_cases h3 : j < k
      · rw [if_neg (by omega)]
      · rw [if_pos (by omega), hT j (by omega) (by omega)]
        exact hkk j (by omega) (by omega)
  exact zb_ret hc he rfl rfl rfl rfl rfl dX6_init_16
