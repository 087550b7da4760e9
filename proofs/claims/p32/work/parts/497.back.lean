-- back, factor
theorem j_15 {g st : z_St} {f : Int → Int} {i : Int} (h : q_INV g st) (hf : ∀ j, z32 (f j)) : q_ok (JL_15 f i st) (q_out g) := by
  have hb1 := h.2.1.2.2.2.2.2.1.1
  have e89 := h.2.2.1.2.2.2.2.2.2.1
  have e168 := h.1.2 21 (by decide) (by decide)
  obtain ⟨x, hx⟩ : ∃ x, f (i + 1) = x := ⟨_, rfl⟩
  have zx : z32 x := hx ▸ hf (i + 1)
  have yx : -2147483648 ≤ x ∧ x ≤ 2147483647 := zx
  unfold JL_15
  rw [hx]
  have hcs : ∀ s : z_St, (0 ≤ x ∧ x ≤ 99999 → J_X12_back x s = some (s 168 21, z_up (z_up s 168 0 0) 168 21 x)) ∧ (¬ (0 ≤ x ∧ x ≤ 99999) → J_X12_back x s = some (-1, z_up s 168 0 1)) := fun s => by
    refine ⟨fun c => q_of ?_, fun c => q_of ?_⟩ <;> simp only [J_X12_back, q_g, q_b, q_let, q_ite, q_some, z32, z64, true_or, or_true, true_and, and_true] <;> refine ⟨by omega, q_eq (s_X12_in (by omega)) ?_⟩ <;> unfold q_in
    · rw [if_pos c]
      simp only [J_X12_back_19, q_g, q_b, q_let, q_ite, q_some, z32, z64, true_or, or_true, true_and, and_true]
      refine ⟨by decide, fun h9 => by omega, fun _ => q_eq s_holds_0 ?_⟩
      dsimp only
      refine ⟨by decide, fun _ => ?_, fun h9 => absurd rfl h9⟩
      simp (disch := omega) only [q_up_row, q_od_row, z_up_at, q_up_ne]
    · rw [if_neg c]
      simp only [J_X12_back_19, q_g, q_b, q_let, q_ite, q_some, z32, z64, true_or, or_true, true_and, and_true]
      refine ⟨by decide, fun _ => q_eq (s_holds_p (by decide)) ?_, fun h9 => by first | exact absurd rfl h9 | exact absurd trivial h9 | omega⟩
      dsimp only
      exact ⟨by decide, fun h9 => absurd h9 (by decide), fun _ => rfl⟩
  by_cases c : 0 ≤ x ∧ x ≤ 99999
  · obtain ⟨hG, _⟩ := q_GG_self h
    have hG6 := hG.2.2.2.2.2
    refine j_new (s1 := z_up st 89 4 x) (val := g 168 21) (s2 := z_up (z_up (z_up (q_od (z_up st 89 4 x)) 199 0 (g 168 21)) 168 0 0) 168 21 x) h ?_ ⟨by omega, by omega⟩ ?_ ?_ ?_ ⟨?_, ?_⟩ ⟨(k_1 hG.1 (by (first | (simp (disch := omega) only [q_up_row, q_od_row, z_up_at, q_up_ne]; done) | rfl)) (by (first | (simp (disch := omega) only [q_up_row, q_od_row, z_up_at, q_up_ne]; done) | rfl)) (by (first | (simp (disch := omega) only [q_up_row, q_od_row, z_up_at, q_up_ne]; done) | rfl)) (fun x p q => by (first | (simp (disch := omega) only [q_up_row, q_od_row, z_up_at, q_up_ne]; done) | rfl))), (k_2 hG.2.1 (by (first | (simp (disch := omega) only [q_up_row, q_od_row, z_up_at, q_up_ne]; done) | rfl)) (by (first | (simp (disch := omega) only [q_up_row, q_od_row, z_up_at, q_up_ne]; done) | rfl)) (by (first | (simp (disch := omega) only [q_up_row, q_od_row, z_up_at, q_up_ne]; done) | rfl)) (fun x p q => by (first | (simp (disch := omega) only [q_up_row, q_od_row, z_up_at, q_up_ne]; done) | rfl))), (k_3 hG.2.2.1 (by (first | (simp (disch := omega) only [q_up_row, q_od_row, z_up_at, q_up_ne]; done) | rfl)) (fun x p q => by (first | (simp (disch := omega) only [q_up_row, q_od_row, z_up_at, q_up_ne]; done) | rfl)) (by (first | (simp (disch := omega) only [q_up_row, q_od_row, z_up_at, q_up_ne]; done) | rfl)) (fun x p q => by (first | (simp (disch := omega) only [q_up_row, q_od_row, z_up_at, q_up_ne]; done) | rfl))), (k_4 hG.2.2.2.1 (by (first | (simp (disch := omega) only [q_up_row, q_od_row, z_up_at, q_up_ne]; done) | rfl)) (by (first | (simp (disch := omega) only [q_up_row, q_od_row, z_up_at, q_up_ne]; done) | rfl)) (by (first | (simp (disch := omega) only [q_up_row, q_od_row, z_up_at, q_up_ne]; done) | rfl)) (by (first | (simp (disch := omega) only [q_up_row, q_od_row, z_up_at, q_up_ne]; done) | rfl))), (k_5 hG.2.2.2.2.1 (by (first | (simp (disch := omega) only [q_up_row, q_od_row, z_up_at, q_up_ne]; done) | rfl)) (Int.le_of_eq (by (first | (simp (disch := omega) only [q_up_row, q_od_row, z_up_at, q_up_ne]; done) | rfl))) (fun x p q => by (first | (simp (disch := omega) only [q_up_row, q_od_row, z_up_at, q_up_ne]; done) | rfl)) (by (first | (simp (disch := omega) only [q_up_row, q_od_row, z_up_at, q_up_ne]; done) | rfl)) (fun x p => by (first | (simp (disch := omega) only [q_up_row, q_od_row, z_up_at, q_up_ne]; done) | rfl))), ?_⟩ ?_
    · have : J_X11_back x st = some (.inl (g 168 21, q_od (z_up st 89 4 x))) := by
        unfold J_X11_back
        rw [q_xs (s_range_y ⟨zx, by decide, by decide⟩ c)]
        refine q_of ?_
        simp only [q_g, q_b, q_let, q_ite, q_some, z32, z64, true_or, or_true, true_and, and_true]
        refine q_eq s_outdate ?_
        rw [e89]
      unfold J_L_back
      rw [this]
      show z_g (z32 (g 168 21)) _ = _
      unfold z_g
      rw [if_pos (show z32 (g 168 21) from ⟨by omega, by omega⟩)]
    · rw [(hcs _).1 c]
      have : z_up (q_od (z_up st 89 4 x)) 199 0 (g 168 21) 168 21 = g 168 21 := by simp (disch := omega) only [q_up_row, q_od_row, z_up_at, q_up_ne]; exact e168
      rw [this]
    · simp (disch := omega) only [q_up_row, q_od_row, z_up_at, q_up_ne]
    · intro y hy; (first | (simp (disch := omega) only [q_up_row, q_od_row, z_up_at, q_up_ne]; done) | rfl)
    · (first | (simp (disch := omega) only [q_up_row, q_od_row, z_up_at, q_up_ne]; done) | rfl)
    · (first | (simp (disch := omega) only [q_up_row, q_od_row, z_up_at, q_up_ne]; done) | rfl)
    · obtain ⟨⟨⟨r1, r2⟩, r3, r4, r5, r6⟩, c1, c2, c3, c4, c5, c6⟩ := hG6
      have w182 : z_up (z_up (z_up (q_od (z_up st 89 4 x)) 199 0 (g 168 21)) 168 0 0) 168 21 x 182 = st 182 := by (first | (simp (disch := omega) only [q_up_row, q_od_row, z_up_at, q_up_ne]; done) | rfl)
      have er : ∀ i, q_row (z_up (z_up (z_up (q_od (z_up st 89 4 x)) 199 0 (g 168 21)) 168 0 0) 168 21 x) i = q_row st i := fun i => by unfold q_row; rw [w182]
      have ec : ∀ i, q_col (z_up (z_up (z_up (q_od (z_up st 89 4 x)) 199 0 (g 168 21)) 168 0 0) 168 21 x) i = q_col st i := fun i => by unfold q_col; rw [w182]
      refine ⟨⟨⟨?_, ?_⟩, ?_, ?_, ?_, ?_⟩, ?_, ?_, ?_, ?_, ?_, ?_⟩
      · simp (disch := omega) only [q_up_row, q_od_row, z_up_at, q_up_ne]; omega
      · simp (disch := omega) only [q_up_row, q_od_row, z_up_at, q_up_ne]; omega
      · simp (disch := omega) only [q_up_row, q_od_row, z_up_at, q_up_ne]; exact r3
      · rw [w182]; exact r4
      · intro i p q
        rw [er]; simp (disch := omega) only [q_up_row, q_od_row, z_up_at, q_up_ne]; exact r5 i p q
      · intro i p q
        rw [ec]; simp (disch := omega) only [q_up_row, q_od_row, z_up_at, q_up_ne]; exact r6 i p q
      · simp (disch := omega) only [q_up_row, q_od_row, z_up_at, q_up_ne]; exact c1
      · simp (disch := omega) only [q_up_row, q_od_row, z_up_at, q_up_ne]
      · simp (disch := omega) only [q_up_row, q_od_row, z_up_at, q_up_ne]; exact c3
      · intro i j p q r s
        rw [w182]; simp (disch := omega) only [q_up_row, q_od_row, z_up_at, q_up_ne]; exact c4 i j p q r s
      · intro i p q
        rw [er]; simp (disch := omega) only [q_up_row, q_od_row, z_up_at, q_up_ne]; exact c5 i p q
      · intro i p q
        rw [ec]; simp (disch := omega) only [q_up_row, q_od_row, z_up_at, q_up_ne]; exact c6 i p q
    · simp (disch := omega) only [q_up_row, q_od_row, z_up_at, q_up_ne]; omega
  · refine q_out_0 (j_I (code := 1) (val := 0) (by decide) (fun h9 => absurd h9 (by decide)) (l_nI h (by decide) ?_) (fun s hs => ?_))
    · unfold J_L_back J_X11_back
      rw [q_xe (s_range_n ⟨zx, by decide, by decide⟩ c)]
      rfl
    · rw [(hcs _).2 c]
      exact ⟨_, rfl, q_bad hs.1, (by dsimp only; exact z_up_at), fun h9 => absurd h9 (by decide)⟩
theorem j_16 {g st : z_St} {f : Int → Int} {i : Int} (h : q_INV g st) (hf : ∀ j, z32 (f j)) : q_ok (JL_16 f i st) (q_out g) := by
  have hb1 := h.2.1.2.2.2.2.2.1.2
  have e89 := h.2.2.1.2.2.2.2.2.2.2.1
  have e168 := h.1.2 22 (by decide) (by decide)
  obtain ⟨x, hx⟩ : ∃ x, f (i + 1) = x := ⟨_, rfl⟩
  have zx : z32 x := hx ▸ hf (i + 1)
  have yx : -2147483648 ≤ x ∧ x ≤ 2147483647 := zx
  unfold JL_16
  rw [hx]
  have hcs : ∀ s : z_St, (0 ≤ x ∧ x ≤ 99 → J_X12_factor x s = some (s 168 22, z_up (z_up s 168 0 0) 168 22 x)) ∧ (¬ (0 ≤ x ∧ x ≤ 99) → J_X12_factor x s = some (-1, z_up s 168 0 1)) := fun s => by
    refine ⟨fun c => q_of ?_, fun c => q_of ?_⟩ <;> simp only [J_X12_factor, q_g, q_b, q_let, q_ite, q_some, z32, z64, true_or, or_true, true_and, and_true] <;> refine ⟨by omega, q_eq (s_X12_in (by omega)) ?_⟩ <;> unfold q_in
    · rw [if_pos c]
      simp only [J_X12_factor_19, q_g, q_b, q_let, q_ite, q_some, z32, z64, true_or, or_true, true_and, and_true]
      refine ⟨by decide, fun h9 => by omega, fun _ => q_eq s_holds_0 ?_⟩
      dsimp only
      refine ⟨by decide, fun _ => ?_, fun h9 => absurd rfl h9⟩
      simp (disch := omega) only [q_up_row, q_od_row, z_up_at, q_up_ne]
    · rw [if_neg c]
      simp only [J_X12_factor_19, q_g, q_b, q_let, q_ite, q_some, z32, z64, true_or, or_true, true_and, and_true]
      refine ⟨by decide, fun _ => q_eq (s_holds_p (by decide)) ?_, fun h9 => by first | exact absurd rfl h9 | exact absurd trivial h9 | omega⟩
      dsimp only
      exact ⟨by decide, fun h9 => absurd h9 (by decide), fun _ => rfl⟩
  by_cases c : 0 ≤ x ∧ x ≤ 99
  · obtain ⟨hG, _⟩ := q_GG_self h
    have hG6 := hG.2.2.2.2.2
    refine j_new (s1 := z_up st 89 5 x) (val := g 168 22) (s2 := z_up (z_up (z_up (q_od (z_up st 89 5 x)) 199 0 (g 168 22)) 168 0 0) 168 22 x) h ?_ ⟨by omega, by omega⟩ ?_ ?_ ?_ ⟨?_, ?_⟩ ⟨(k_1 hG.1 (by (first | (simp (disch := omega) only [q_up_row, q_od_row, z_up_at, q_up_ne]; done) | rfl)) (by (first | (simp (disch := omega) only [q_up_row, q_od_row, z_up_at, q_up_ne]; done) | rfl)) (by (first | (simp (disch := omega) only [q_up_row, q_od_row, z_up_at, q_up_ne]; done) | rfl)) (fun x p q => by (first | (simp (disch := omega) only [q_up_row, q_od_row, z_up_at, q_up_ne]; done) | rfl))), (k_2 hG.2.1 (by (first | (simp (disch := omega) only [q_up_row, q_od_row, z_up_at, q_up_ne]; done) | rfl)) (by (first | (simp (disch := omega) only [q_up_row, q_od_row, z_up_at, q_up_ne]; done) | rfl)) (by (first | (simp (disch := omega) only [q_up_row, q_od_row, z_up_at, q_up_ne]; done) | rfl)) (fun x p q => by (first | (simp (disch := omega) only [q_up_row, q_od_row, z_up_at, q_up_ne]; done) | rfl))), (k_3 hG.2.2.1 (by (first | (simp (disch := omega) only [q_up_row, q_od_row, z_up_at, q_up_ne]; done) | rfl)) (fun x p q => by (first | (simp (disch := omega) only [q_up_row, q_od_row, z_up_at, q_up_ne]; done) | rfl)) (by (first | (simp (disch := omega) only [q_up_row, q_od_row, z_up_at, q_up_ne]; done) | rfl)) (fun x p q => by (first | (simp (disch := omega) only [q_up_row, q_od_row, z_up_at, q_up_ne]; done) | rfl))), (k_4 hG.2.2.2.1 (by (first | (simp (disch := omega) only [q_up_row, q_od_row, z_up_at, q_up_ne]; done) | rfl)) (by (first | (simp (disch := omega) only [q_up_row, q_od_row, z_up_at, q_up_ne]; done) | rfl)) (by (first | (simp (disch := omega) only [q_up_row, q_od_row, z_up_at, q_up_ne]; done) | rfl)) (by (first | (simp (disch := omega) only [q_up_row, q_od_row, z_up_at, q_up_ne]; done) | rfl))), (k_5 hG.2.2.2.2.1 (by (first | (simp (disch := omega) only [q_up_row, q_od_row, z_up_at, q_up_ne]; done) | rfl)) (Int.le_of_eq (by (first | (simp (disch := omega) only [q_up_row, q_od_row, z_up_at, q_up_ne]; done) | rfl))) (fun x p q => by (first | (simp (disch := omega) only [q_up_row, q_od_row, z_up_at, q_up_ne]; done) | rfl)) (by (first | (simp (disch := omega) only [q_up_row, q_od_row, z_up_at, q_up_ne]; done) | rfl)) (fun x p => by (first | (simp (disch := omega) only [q_up_row, q_od_row, z_up_at, q_up_ne]; done) | rfl))), ?_⟩ ?_
    · have : J_X11_factor x st = some (.inl (g 168 22, q_od (z_up st 89 5 x))) := by
        unfold J_X11_factor
        rw [q_xs (s_range_y ⟨zx, by decide, by decide⟩ c)]
        refine q_of ?_
        simp only [q_g, q_b, q_let, q_ite, q_some, z32, z64, true_or, or_true, true_and, and_true]
        refine q_eq s_outdate ?_
        rw [e89]
      unfold J_L_factor
      rw [this]
      show z_g (z32 (g 168 22)) _ = _
      unfold z_g
      rw [if_pos (show z32 (g 168 22) from ⟨by omega, by omega⟩)]
    · rw [(hcs _).1 c]
      have : z_up (q_od (z_up st 89 5 x)) 199 0 (g 168 22) 168 22 = g 168 22 := by simp (disch := omega) only [q_up_row, q_od_row, z_up_at, q_up_ne]; exact e168
      rw [this]
    · simp (disch := omega) only [q_up_row, q_od_row, z_up_at, q_up_ne]
    · intro y hy; (first | (simp (disch := omega) only [q_up_row, q_od_row, z_up_at, q_up_ne]; done) | rfl)
    · (first | (simp (disch := omega) only [q_up_row, q_od_row, z_up_at, q_up_ne]; done) | rfl)
    · (first | (simp (disch := omega) only [q_up_row, q_od_row, z_up_at, q_up_ne]; done) | rfl)
    · obtain ⟨⟨⟨r1, r2⟩, r3, r4, r5, r6⟩, c1, c2, c3, c4, c5, c6⟩ := hG6
      have w182 : z_up (z_up (z_up (q_od (z_up st 89 5 x)) 199 0 (g 168 22)) 168 0 0) 168 22 x 182 = st 182 := by (first | (simp (disch := omega) only [q_up_row, q_od_row, z_up_at, q_up_ne]; done) | rfl)
      have er : ∀ i, q_row (z_up (z_up (z_up (q_od (z_up st 89 5 x)) 199 0 (g 168 22)) 168 0 0) 168 22 x) i = q_row st i := fun i => by unfold q_row; rw [w182]
      have ec : ∀ i, q_col (z_up (z_up (z_up (q_od (z_up st 89 5 x)) 199 0 (g 168 22)) 168 0 0) 168 22 x) i = q_col st i := fun i => by unfold q_col; rw [w182]
      refine ⟨⟨⟨?_, ?_⟩, ?_, ?_, ?_, ?_⟩, ?_, ?_, ?_, ?_, ?_, ?_⟩
      · simp (disch := omega) only [q_up_row, q_od_row, z_up_at, q_up_ne]; omega
      · simp (disch := omega) only [q_up_row, q_od_row, z_up_at, q_up_ne]; omega
      · simp (disch := omega) only [q_up_row, q_od_row, z_up_at, q_up_ne]; exact r3
      · rw [w182]; exact r4
      · intro i p q
        rw [er]; simp (disch := omega) only [q_up_row, q_od_row, z_up_at, q_up_ne]; exact r5 i p q
      · intro i p q
        rw [ec]; simp (disch := omega) only [q_up_row, q_od_row, z_up_at, q_up_ne]; exact r6 i p q
      · simp (disch := omega) only [q_up_row, q_od_row, z_up_at, q_up_ne]; exact c1
      · simp (disch := omega) only [q_up_row, q_od_row, z_up_at, q_up_ne]; exact c2
      · simp (disch := omega) only [q_up_row, q_od_row, z_up_at, q_up_ne]
      · intro i j p q r s
        rw [w182]; simp (disch := omega) only [q_up_row, q_od_row, z_up_at, q_up_ne]; exact c4 i j p q r s
      · intro i p q
        rw [er]; simp (disch := omega) only [q_up_row, q_od_row, z_up_at, q_up_ne]; exact c5 i p q
      · intro i p q
        rw [ec]; simp (disch := omega) only [q_up_row, q_od_row, z_up_at, q_up_ne]; exact c6 i p q
    · simp (disch := omega) only [q_up_row, q_od_row, z_up_at, q_up_ne]; omega
  · refine q_out_0 (j_I (code := 1) (val := 0) (by decide) (fun h9 => absurd h9 (by decide)) (l_nI h (by decide) ?_) (fun s hs => ?_))
    · unfold J_L_factor J_X11_factor
      rw [q_xe (s_range_n ⟨zx, by decide, by decide⟩ c)]
      rfl
    · rw [(hcs _).2 c]
      exact ⟨_, rfl, q_bad hs.1, (by dsimp only; exact z_up_at), fun h9 => absurd h9 (by decide)⟩
