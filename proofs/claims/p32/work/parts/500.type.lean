-- type
theorem j_8 {g st : z_St} {f : Int → Int} {i : Int} (h : q_INV g st) (_hf : ∀ j, z32 (f j)) : q_ok (JL_8 f i st) (q_out g) := by
  have ht1 := h.2.1.2.2.2.1.1
  have e24 := h.2.2.1.2.2.2.1.1
  have e168 := h.1.2 13 (by decide) (by decide)
  obtain ⟨x, hx⟩ : ∃ x, z_i2cv (f (i + 1)) = x := ⟨_, rfl⟩
  have zx : z32 x := by rw [← hx]; unfold z_i2cv; exact z32_of _
  have yx : -2147483648 ≤ x ∧ x ≤ 2147483647 := zx
  unfold JL_8
  rw [hx]
  obtain ⟨n, hn⟩ : ∃ n, g 168 13 = n := ⟨_, rfl⟩
  have bad : ∀ (s : z_St) (s0 : Int), 0 < s0 ∧ s0 < 10 → J_X12_type_33 x s0 s = some (-1, z_up s 168 0 s0) := fun s s0 hs => by
    refine q_of ?_
    simp only [J_X12_type_33, q_g, q_b, q_let, q_ite, q_some, z32, z64, true_or, or_true, true_and, and_true]
    refine q_eq (s_holds_p hs) ?_
    dsimp only
    exact ⟨by decide, fun h9 => absurd h9 (by decide), fun _ => rfl⟩
  by_cases c : 97 ≤ x ∧ x ≤ 102
  · by_cases c4 : n = 4
    · refine q_out_0 (j_I (code := 2) (val := 0) (by decide) (fun h9 => absurd h9 (by decide)) (l_nI h (by decide) ?_) (fun s hs => ?_))
      · unfold J_L_type J_X11_type
        rw [q_xs (s_range_y ⟨zx, by decide, by decide⟩ c), e24, hn, c4]
        rfl
      · have e9 := hs.1.2 13 (by decide) (by decide)
        simp only [J_X12_type, q_g, q_b, q_let, q_ite, q_some, z32, z64, true_or, or_true, true_and, and_true]
        refine ⟨by omega, q_eq (s_X12_in (by omega)) ?_⟩
        unfold q_in
        rw [if_pos c, e9, hn, c4, bad s 2 (by decide)]
        exact ⟨by decide, fun h9 => by omega, fun _ => ⟨by decide, fun _ => ⟨_, rfl, q_bad hs.1, (by dsimp only; exact z_up_at), fun h9 => absurd h9 (by decide)⟩, fun h9 => by first | exact absurd rfl h9 | exact absurd trivial h9⟩⟩
    · rw [hn] at ht1 e24 e168
      obtain ⟨hG, h20⟩ := q_GG_self h
      have hG4 := hG.2.2.2.1
      have hL : J_L_type x st = some (0, z_up (z_up (z_up st 28 n (x - 97)) 24 6 (n + 1)) 199 0 (n + 1)) := by
        have : J_X11_type x st = some (.inl (n + 1, z_up (z_up st 28 n (x - 97)) 24 6 (n + 1))) := by
          unfold J_X11_type
          rw [q_xs (s_range_y ⟨zx, by decide, by decide⟩ c), e24]
          refine q_of ?_
          simp only [q_g, q_b, q_let, q_ite, q_some, z32, z64, true_or, or_true, true_and, and_true]
          simp (disch := omega) only [q_up_row, z_up_at, e24]
          exact ⟨by omega, fun _ => ⟨by omega, trivial⟩, fun h9 => by omega⟩
        unfold J_L_type
        rw [this]
        show z_g (z32 (n + 1)) _ = _
        unfold z_g
        rw [if_pos (show z32 (n + 1) from ⟨by omega, by omega⟩)]
      have hR : J_X12_type x (z_up (z_up (z_up st 28 n (x - 97)) 24 6 (n + 1)) 199 0 (n + 1)) = some (n + 1, z_up (z_up (z_up (z_up (z_up (z_up st 28 n (x - 97)) 24 6 (n + 1)) 199 0 (n + 1)) 168 0 0) 177 n (x - 97)) 168 13 (n + 1)) := by
        have e9 : z_up (z_up (z_up st 28 n (x - 97)) 24 6 (n + 1)) 199 0 (n + 1) 168 13 = n := by simp (disch := omega) only [q_up_row, q_od_row, z_up_at, q_up_ne]; exact e168
        refine q_of ?_
        simp only [J_X12_type, q_g, q_b, q_let, q_ite, q_some, z32, z64, true_or, or_true, true_and, and_true]
        refine ⟨by omega, q_eq (s_X12_in (by omega)) ?_⟩
        unfold q_in
        rw [if_pos c, e9]
        refine ⟨by decide, fun h9 => by omega, fun _ => ⟨by omega, fun h9 => by omega, fun _ => ?_⟩⟩
        simp only [J_X12_type_33, q_g, q_b, q_let, q_ite, q_some, z32, z64, true_or, or_true, true_and, and_true]
        refine q_eq s_holds_0 ?_
        dsimp only
        simp (disch := omega) only [q_up_row, z_up_at, q_up_ne, e168]
        exact ⟨by decide, fun _ => ⟨by omega, trivial⟩, fun h9 => by first | exact absurd rfl h9 | exact absurd trivial h9⟩
      obtain ⟨s2, hs2⟩ : ∃ s2, s2 = z_up (z_up (z_up (z_up (z_up (z_up st 28 n (x - 97)) 24 6 (n + 1)) 199 0 (n + 1)) 168 0 0) 177 n (x - 97)) 168 13 (n + 1) := ⟨_, rfl⟩
      rw [← hs2] at hR
      have v199 : s2 199 0 = n + 1 := by rw [hs2]; simp (disch := omega) only [q_up_row, q_od_row, z_up_at, q_up_ne]
      have v0 : s2 168 0 = 0 := by rw [hs2]; simp (disch := omega) only [q_up_row, q_od_row, z_up_at, q_up_ne]
      have hout : q_out g s2 := by
        have hGG : q_GG s2 s2 := by
          subst hs2
          refine ⟨(k_1 hG.1 (by (first | (simp (disch := omega) only [q_up_row, q_od_row, z_up_at, q_up_ne]; done) | rfl)) (by (first | (simp (disch := omega) only [q_up_row, q_od_row, z_up_at, q_up_ne]; done) | rfl)) (by (first | (simp (disch := omega) only [q_up_row, q_od_row, z_up_at, q_up_ne]; done) | rfl)) (fun x p q => by (first | (simp (disch := omega) only [q_up_row, q_od_row, z_up_at, q_up_ne]; done) | rfl))), (k_2 hG.2.1 (by (first | (simp (disch := omega) only [q_up_row, q_od_row, z_up_at, q_up_ne]; done) | rfl)) (by (first | (simp (disch := omega) only [q_up_row, q_od_row, z_up_at, q_up_ne]; done) | rfl)) (by (first | (simp (disch := omega) only [q_up_row, q_od_row, z_up_at, q_up_ne]; done) | rfl)) (fun x p q => by (first | (simp (disch := omega) only [q_up_row, q_od_row, z_up_at, q_up_ne]; done) | rfl))), (k_3 hG.2.2.1 (by (first | (simp (disch := omega) only [q_up_row, q_od_row, z_up_at, q_up_ne]; done) | rfl)) (fun x p q => by (first | (simp (disch := omega) only [q_up_row, q_od_row, z_up_at, q_up_ne]; done) | rfl)) (by (first | (simp (disch := omega) only [q_up_row, q_od_row, z_up_at, q_up_ne]; done) | rfl)) (fun x p q => by (first | (simp (disch := omega) only [q_up_row, q_od_row, z_up_at, q_up_ne]; done) | rfl))), ?_, (k_5 hG.2.2.2.2.1 (by (first | (simp (disch := omega) only [q_up_row, q_od_row, z_up_at, q_up_ne]; done) | rfl)) (Int.le_of_eq (by (first | (simp (disch := omega) only [q_up_row, q_od_row, z_up_at, q_up_ne]; done) | rfl))) (fun x p q => by (first | (simp (disch := omega) only [q_up_row, q_od_row, z_up_at, q_up_ne]; done) | rfl)) (by (first | (simp (disch := omega) only [q_up_row, q_od_row, z_up_at, q_up_ne]; done) | rfl)) (fun x p => by (first | (simp (disch := omega) only [q_up_row, q_od_row, z_up_at, q_up_ne]; done) | rfl))), (k_6 hG.2.2.2.2.2 ⟨(by (first | (simp (disch := omega) only [q_up_row, q_od_row, z_up_at, q_up_ne]; done) | rfl)), (by (first | (simp (disch := omega) only [q_up_row, q_od_row, z_up_at, q_up_ne]; done) | rfl)), (by (first | (simp (disch := omega) only [q_up_row, q_od_row, z_up_at, q_up_ne]; done) | rfl))⟩ (by (first | (simp (disch := omega) only [q_up_row, q_od_row, z_up_at, q_up_ne]; done) | rfl)) ⟨(by (first | (simp (disch := omega) only [q_up_row, q_od_row, z_up_at, q_up_ne]; done) | rfl)), (by (first | (simp (disch := omega) only [q_up_row, q_od_row, z_up_at, q_up_ne]; done) | rfl)), (by (first | (simp (disch := omega) only [q_up_row, q_od_row, z_up_at, q_up_ne]; done) | rfl))⟩ (fun x p q => by (first | (simp (disch := omega) only [q_up_row, q_od_row, z_up_at, q_up_ne]; done) | rfl)))⟩
          obtain ⟨⟨r1, r2⟩, k1, k2⟩ := hG4
          refine ⟨⟨?_, fun k a b => ?_⟩, ?_, fun k a b => ?_⟩
          · simp (disch := omega) only [q_up_row, q_od_row, z_up_at, q_up_ne]; omega
          · have := r2 k a b
            simp (disch := omega) only [q_up_row]
            rw [q_up_at]
            simp (disch := omega) only [q_up_row]
            split <;> omega
          · simp (disch := omega) only [q_up_row, q_od_row, z_up_at, q_up_ne]
          · have := k2 k a b
            simp (disch := omega) only [q_up_row]
            rw [q_up_at, q_up_at]
            simp (disch := omega) only [q_up_row]
            by_cases e : k = n
            · rw [if_pos e, if_pos e]
            · rw [if_neg e, if_neg e]; exact this
        have hv : q_eqv g s2 := by
          refine ⟨fun y a b d => ?_, fun j a b d => ?_⟩
          · rw [← h.1.1 y a b, hs2]; (first | (simp (disch := omega) only [q_up_row, q_od_row, z_up_at, q_up_ne]; done) | rfl)
          · rw [← h.1.2 j a b, hs2]
            by_cases e : j = 0
            · omega
            · (first | (simp (disch := omega) only [q_up_row, q_od_row, z_up_at, q_up_ne]; done) | rfl)
        have e : ∀ y, 29 ≤ y → y ≤ 167 → s2 y = st y := fun y a b => by rw [hs2]; (first | (simp (disch := omega) only [q_up_row, q_od_row, z_up_at, q_up_ne]; done) | rfl)
        have c20 : s2 168 20 = st 168 20 := by rw [hs2]; simp (disch := omega) only [q_up_row, q_od_row, z_up_at, q_up_ne]
        obtain ⟨hB2, hC2⟩ := q_GG_iff.mp hGG
        obtain ⟨hS, hB, hC, hT, hRw, hLt, hP, hptr⟩ := h
        refine ⟨s2, ⟨q_same_refl s2, hB2, hC2, ?_, ?_, ?_, ?_, ?_⟩, by omega⟩
        · rcases hT with h | ⟨h1, h2⟩
          · exact Or.inl (by rw [e 99 (by decide) (by decide)]; exact h)
          · exact Or.inr ⟨by rw [e 99 (by decide) (by decide)]; exact h1, v_TC hv (q_TC_of h2 hB (fun x p q => by unfold q_isT at p; exact e x (by omega) (by omega)))⟩
        · rcases hRw with h | ⟨h1, h2, h3⟩
          · exact Or.inl (by rw [e 134 (by decide) (by decide)]; exact h)
          · refine Or.inr ⟨by rw [e 134 (by decide) (by decide)]; exact h1, v_RC hv (q_RC_of h2 (fun x p q j _ => by rw [e x (by omega) (by omega)])), ?_⟩
            rcases h3 with h3 | ⟨h3, h4⟩
            · exact Or.inl (by rw [e 134 (by decide) (by decide)]; exact h3)
            · exact Or.inr ⟨by rw [e 134 (by decide) (by decide)]; exact h3, v_ord hv (q_ord_of h4 ⟨by rw [e 134 (by decide) (by decide)], by rw [e 134 (by decide) (by decide)]⟩ ⟨e 138 (by decide) (by decide), e 139 (by decide) (by decide)⟩)⟩
        · rcases hLt with h | ⟨h1, h2⟩
          · exact Or.inl (by rw [e 144 (by decide) (by decide)]; exact h)
          · exact Or.inr ⟨by rw [e 144 (by decide) (by decide)]; exact h1, v_LC hv (q_LC_of h2 ⟨by rw [e 144 (by decide) (by decide)], by rw [e 144 (by decide) (by decide)]⟩ (e 145 (by decide) (by decide)))⟩
        · rcases hP with h | ⟨h1, h2⟩
          · exact Or.inl (by rw [e 148 (by decide) (by decide)]; exact h)
          · exact Or.inr ⟨by rw [e 148 (by decide) (by decide)]; exact h1, fun b' n' hb => v_pC hv (q_pC_of (h2 b' n' ((v_best hv).mp hb)) (fun x p q => e x (by omega) (by omega)))⟩
        · rw [e 134 (by decide) (by decide)]; exact hptr
      rw [q_b]
      refine q_eq hL ?_
      rw [q_b]
      refine q_eq hR ?_
      rw [q_b]
      refine q_eq (v := 0) (by show some (s2 168 0) = _; rw [v0]) ?_
      rw [q_g, q_g, q_some]
      dsimp only
      rw [v199]
      exact ⟨⟨⟨by decide, by decide⟩, rfl⟩, fun _ => ⟨⟨by omega, by omega⟩, ⟨by omega, by omega⟩, ⟨by omega, by omega⟩, rfl⟩, hout⟩
  · refine q_out_0 (j_I (code := 1) (val := 0) (by decide) (fun h9 => absurd h9 (by decide)) (l_nI h (by decide) ?_) (fun s hs => ?_))
    · unfold J_L_type J_X11_type
      rw [q_xe (s_range_n ⟨zx, by decide, by decide⟩ c)]
      rfl
    · simp only [J_X12_type, q_g, q_b, q_let, q_ite, q_some, z32, z64, true_or, or_true, true_and, and_true]
      refine ⟨by omega, q_eq (s_X12_in (by omega)) ?_⟩
      unfold q_in
      rw [if_neg c, bad s 1 (by decide)]
      exact ⟨by decide, fun _ => ⟨_, rfl, q_bad hs.1, (by dsimp only; exact z_up_at), fun h9 => absurd h9 (by decide)⟩, fun h9 => by first | exact absurd rfl h9 | exact absurd trivial h9⟩
