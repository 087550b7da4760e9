-- question
theorem j_7 {g st : z_St} {f : Int → Int} {i : Int} (h : q_INV g st) (hf : ∀ j, z32 (f j)) : q_ok (JL_7 f i st) (q_out g) := by
  have hn1 := h.2.1.2.2.1.1
  have e24 := h.2.2.1.2.2.1.1
  have e168 := h.1.2 11 (by decide) (by decide)
  have e173 := h.1.1 173 (by decide) (by decide)
  obtain ⟨x1, hx1⟩ : ∃ x1, f (i + 1) = x1 := ⟨_, rfl⟩
  obtain ⟨x2, hx2⟩ : ∃ x2, f (i + 2) = x2 := ⟨_, rfl⟩
  obtain ⟨x3, hx3⟩ : ∃ x3, f (i + 3) = x3 := ⟨_, rfl⟩
  obtain ⟨x4, hx4⟩ : ∃ x4, f (i + 4) = x4 := ⟨_, rfl⟩
  have z1 : z32 x1 := hx1 ▸ hf (i + 1)
  have z2 : z32 x2 := hx2 ▸ hf (i + 2)
  have z3 : z32 x3 := hx3 ▸ hf (i + 3)
  have z4 : z32 x4 := hx4 ▸ hf (i + 4)
  have y1 : -2147483648 ≤ x1 ∧ x1 ≤ 2147483647 := z1
  have y2 : -2147483648 ≤ x2 ∧ x2 ≤ 2147483647 := z2
  have y3 : -2147483648 ≤ x3 ∧ x3 ≤ 2147483647 := z3
  have y4 : -2147483648 ≤ x4 ∧ x4 ≤ 2147483647 := z4
  unfold JL_7
  rw [hx1, hx2, hx3, hx4]
  have zn : z32 x1 ∧ z32 (st 24 1) := ⟨z1, by rw [e24]; exact ⟨by omega, by omega⟩⟩
  have bad : ∀ (s : z_St) (s0 : Int), 0 < s0 ∧ s0 < 10 → J_X12_question_84 x1 x2 x3 x4 s0 s = some (-1, z_up s 168 0 s0) := fun s s0 hs => by
    refine q_of ?_
    simp only [J_X12_question_84, q_g, q_b, q_let, q_ite, q_some, z32, z64, true_or, or_true, true_and, and_true]
    refine q_eq (s_holds_p hs) ?_
    dsimp only
    exact ⟨by decide, fun h9 => absurd h9 (by decide), fun _ => rfl⟩
  -- the reference as far as its three checks
  have hR1 : ∀ s : z_St, J_X12_question x1 x2 x3 x4 s = J_X12_question_45 x1 x2 x3 x4 (if (0 ≤ x2 ∧ x2 ≤ 1) ∧ (0 ≤ x3 ∧ x3 ≤ 63) ∧ (-3000 ≤ x4 ∧ x4 ≤ 3000) then 1 else 0) s := fun s => by
    have o : ∀ a b c : Int, (-2147483648 ≤ a ∧ a ≤ 2147483647) → (-9223372036854775808 ≤ b ∧ b ≤ 9223372036854775807) → (-9223372036854775808 ≤ c ∧ c ≤ 9223372036854775807) → J_X12_in a b c s = some (q_in a b c) := fun a b c p q r => s_X12_in (by omega)
    have zq : ∀ a b c, z32 (q_in a b c) := fun a b c => by unfold q_in; split <;> decide
    unfold J_X12_question J_X12_question_44
    rw [o x2 0 1 y2 (by decide) (by decide), o x3 0 63 y3 (by decide) (by decide), o x4 (-3000) 3000 y4 (by decide) (by decide)]
    unfold z_g z_b
    dsimp only
    rw [if_pos z2, if_pos (zq _ _ _)]
    by_cases c2 : 0 ≤ x2 ∧ x2 ≤ 1
    · rw [if_neg (show ¬ q_in x2 0 1 = 0 from fun h9 => q_in_0' h9 c2), if_pos z3, if_pos (zq _ _ _)]
      by_cases c3 : 0 ≤ x3 ∧ x3 ≤ 63
      · rw [if_neg (show ¬ q_in x3 0 63 = 0 from fun h9 => q_in_0' h9 c3), if_pos z4, if_pos (zq _ _ _)]
        by_cases c4 : -3000 ≤ x4 ∧ x4 ≤ 3000
        · rw [if_neg (show ¬ q_in x4 (-3000) 3000 = 0 from fun h9 => q_in_0' h9 c4), if_pos ⟨c2, c3, c4⟩]
        · rw [if_pos (show q_in x4 (-3000) 3000 = 0 by unfold q_in; rw [if_neg c4]), if_neg (fun h9 => c4 h9.2.2)]
      · rw [if_pos (show q_in x3 0 63 = 0 by unfold q_in; rw [if_neg c3]), if_neg (fun h9 => c3 h9.2.1)]
    · rw [if_pos (show q_in x2 0 1 = 0 by unfold q_in; rw [if_neg c2]), if_neg (fun h9 => c2 h9.1)]
  by_cases c1 : 0 ≤ x1 ∧ x1 < g 168 11
  · have hq3 := h.2.1.2.2.1.2.2.2.1 x1 (by omega) (by omega)
    have eq5 := (h.2.2.1.2.2.1.2.1 x1 (by omega) (by omega)).1
    obtain ⟨n, hn⟩ : ∃ n, g 173 x1 = n := ⟨_, rfl⟩
    by_cases c2 : (0 ≤ x2 ∧ x2 ≤ 1) ∧ (0 ≤ x3 ∧ x3 ≤ 63) ∧ (-3000 ≤ x4 ∧ x4 ≤ 3000)
    · by_cases c3 : n = 3
      · refine q_out_0 (j_I (code := 3) (val := 0) (by decide) (fun h9 => absurd h9 (by decide)) (l_nI h (by decide) ?_) (fun s hs => ?_))
        · unfold J_L_question J_X11_question
          rw [q_xs (s_index_y zn (by omega)), q_xs (s_range_y ⟨z2, by decide, by decide⟩ c2.1), q_xs (s_range_y ⟨z3, by decide, by decide⟩ c2.2.1), q_xs (s_range_y ⟨z4, by decide, by decide⟩ c2.2.2), eq5, hn, c3]
          unfold z_g
          rw [if_pos (show 0 ≤ x1 ∧ x1 < 6 by omega)]
          rfl
        · rw [hR1, if_pos c2]
          have e9 := hs.1.2 11 (by decide) (by decide)
          have e8 := hs.1.1 173 (by decide) (by decide)
          simp only [J_X12_question_45, q_g, q_b, q_let, q_ite, q_some, z32, z64, true_or, or_true, true_and, and_true]
          refine q_eq (s_X12_isSound (by omega)) ?_
          unfold q_in
          rw [if_pos (by omega), e8, hn, c3, bad s 3 (by decide)]
          exact ⟨by decide, fun h9 => by omega, fun _ => ⟨by decide, fun h9 => by omega, fun _ => ⟨by omega, by decide, fun _ => ⟨_, rfl, q_bad hs.1, (by dsimp only; exact z_up_at), fun h9 => absurd h9 (by decide)⟩, fun h9 => by first | exact absurd rfl h9 | exact absurd trivial h9⟩⟩⟩
      · obtain ⟨hG, _⟩ := q_GG_self h
        have hG3 := hG.2.2.1
        rw [hn] at hq3 eq5
        obtain ⟨s1, hs1⟩ : ∃ s1, s1 = z_up (z_up (z_up (z_up st (29 + 5 * x1 + 2) n x2) (29 + 5 * x1 + 3) n x3) (29 + 5 * x1 + 4) n x4) (29 + 5 * x1) 5 (n + 1) := ⟨_, rfl⟩
        have hX : J_X11_question x1 x2 x3 x4 st = some (.inl (n + 1, q_od s1)) := by
          unfold J_X11_question
          rw [q_xs (s_index_y zn (by omega)), q_xs (s_range_y ⟨z2, by decide, by decide⟩ c2.1), q_xs (s_range_y ⟨z3, by decide, by decide⟩ c2.2.1), q_xs (s_range_y ⟨z4, by decide, by decide⟩ c2.2.2), eq5]
          refine q_of ?_
          simp only [J_X9_ask, q_g, q_b, q_let, q_ite, q_some, z32, z64, true_or, or_true, true_and, and_true]
          simp (disch := omega) only [q_up_row, q_od_row, z_up_at, q_up_ne, eq5]
          rw [← hs1]
          refine ⟨by omega, by omega, fun _ => ⟨by omega, by omega, by omega, q_eq s_outdate ?_⟩, fun h9 => by omega⟩
          have : q_od s1 (29 + 5 * x1) 5 = n + 1 := by rw [hs1]; simp (disch := omega) only [q_up_row, q_od_row, z_up_at, q_up_ne]
          rw [this]
        refine j_new (s1 := s1) (val := n + 1) (s2 := z_up (z_up (z_up (z_up (z_up (z_up (q_od s1) 199 0 (n + 1)) 168 0 0) 174 (3 * x1 + n) x2) 175 (3 * x1 + n) x3) 176 (3 * x1 + n) x4) 173 x1 (n + 1)) h ?_ ⟨by omega, by omega⟩ ?_ ?_ ?_ ⟨?_, ?_⟩ ?_ ?_
        · unfold J_L_question
          rw [hX]
          show z_g (z32 (n + 1)) _ = _
          unfold z_g
          rw [if_pos (show z32 (n + 1) from ⟨by omega, by omega⟩)]
        · have e9 : z_up (q_od s1) 199 0 (n + 1) 168 11 = g 168 11 := by rw [hs1]; simp (disch := omega) only [q_up_row, q_od_row, z_up_at, q_up_ne]; exact e168
          have e8 : z_up (q_od s1) 199 0 (n + 1) 173 x1 = n := by rw [hs1]; simp (disch := omega) only [q_up_row, q_od_row, z_up_at, q_up_ne]; rw [e173]; exact hn
          have e7 : q_od s1 173 x1 = n := by rw [← e8]; simp (disch := omega) only [q_up_row, q_od_row, z_up_at, q_up_ne]
          rw [hR1, if_pos c2]
          refine q_of ?_
          simp only [J_X12_question_45, q_g, q_b, q_let, q_ite, q_some, z32, z64, true_or, or_true, true_and, and_true]
          refine q_eq (s_X12_isSound (by omega)) ?_
          unfold q_in
          rw [if_pos (by omega), e8]
          refine ⟨by decide, fun h9 => by omega, fun _ => ⟨by decide, fun h9 => by omega, fun _ => ⟨by omega, by omega, fun h9 => by omega, fun _ => ?_⟩⟩⟩
          simp only [J_X12_question_84, q_g, q_b, q_let, q_ite, q_some, z32, z64, true_or, or_true, true_and, and_true]
          refine q_eq s_holds_0 ?_
          dsimp only
          simp (disch := omega) only [q_up_row, z_up_at, q_up_ne, e7]
          exact ⟨by decide, fun _ => ⟨by omega, by omega, by omega, by omega, by omega, by omega, by omega, trivial⟩, fun h9 => by first | exact absurd rfl h9 | exact absurd trivial h9⟩
        · simp (disch := omega) only [q_up_row, q_od_row, z_up_at, q_up_ne]
        · intro y hy; (first | (simp (disch := omega) only [q_up_row, q_od_row, z_up_at, q_up_ne]; done) | rfl)
        · rw [hs1]; (first | (simp (disch := omega) only [q_up_row, q_od_row, z_up_at, q_up_ne]; done) | rfl)
        · rw [hs1]; (first | (simp (disch := omega) only [q_up_row, q_od_row, z_up_at, q_up_ne]; done) | rfl)
        · subst hs1
          refine ⟨(k_1 hG.1 (by (first | (simp (disch := omega) only [q_up_row, q_od_row, z_up_at, q_up_ne]; done) | rfl)) (by (first | (simp (disch := omega) only [q_up_row, q_od_row, z_up_at, q_up_ne]; done) | rfl)) (by (first | (simp (disch := omega) only [q_up_row, q_od_row, z_up_at, q_up_ne]; done) | rfl)) (fun x p q => by (first | (simp (disch := omega) only [q_up_row, q_od_row, z_up_at, q_up_ne]; done) | rfl))), (k_2 hG.2.1 (by (first | (simp (disch := omega) only [q_up_row, q_od_row, z_up_at, q_up_ne]; done) | rfl)) (by (first | (simp (disch := omega) only [q_up_row, q_od_row, z_up_at, q_up_ne]; done) | rfl)) (by (first | (simp (disch := omega) only [q_up_row, q_od_row, z_up_at, q_up_ne]; done) | rfl)) (fun x p q => by (first | (simp (disch := omega) only [q_up_row, q_od_row, z_up_at, q_up_ne]; done) | rfl))), ?_, (k_4 hG.2.2.2.1 (by (first | (simp (disch := omega) only [q_up_row, q_od_row, z_up_at, q_up_ne]; done) | rfl)) (by (first | (simp (disch := omega) only [q_up_row, q_od_row, z_up_at, q_up_ne]; done) | rfl)) (by (first | (simp (disch := omega) only [q_up_row, q_od_row, z_up_at, q_up_ne]; done) | rfl)) (by (first | (simp (disch := omega) only [q_up_row, q_od_row, z_up_at, q_up_ne]; done) | rfl))), (k_5 hG.2.2.2.2.1 (by (first | (simp (disch := omega) only [q_up_row, q_od_row, z_up_at, q_up_ne]; done) | rfl)) (Int.le_of_eq (by (first | (simp (disch := omega) only [q_up_row, q_od_row, z_up_at, q_up_ne]; done) | rfl))) (fun x p q => by (first | (simp (disch := omega) only [q_up_row, q_od_row, z_up_at, q_up_ne]; done) | rfl)) (by (first | (simp (disch := omega) only [q_up_row, q_od_row, z_up_at, q_up_ne]; done) | rfl)) (fun x p => by (first | (simp (disch := omega) only [q_up_row, q_od_row, z_up_at, q_up_ne]; done) | rfl))), (k_6 hG.2.2.2.2.2 ⟨(by (first | (simp (disch := omega) only [q_up_row, q_od_row, z_up_at, q_up_ne]; done) | rfl)), (by (first | (simp (disch := omega) only [q_up_row, q_od_row, z_up_at, q_up_ne]; done) | rfl)), (by (first | (simp (disch := omega) only [q_up_row, q_od_row, z_up_at, q_up_ne]; done) | rfl))⟩ (by (first | (simp (disch := omega) only [q_up_row, q_od_row, z_up_at, q_up_ne]; done) | rfl)) ⟨(by (first | (simp (disch := omega) only [q_up_row, q_od_row, z_up_at, q_up_ne]; done) | rfl)), (by (first | (simp (disch := omega) only [q_up_row, q_od_row, z_up_at, q_up_ne]; done) | rfl)), (by (first | (simp (disch := omega) only [q_up_row, q_od_row, z_up_at, q_up_ne]; done) | rfl))⟩ (fun x p q => by (first | (simp (disch := omega) only [q_up_row, q_od_row, z_up_at, q_up_ne]; done) | rfl)))⟩
          obtain ⟨⟨r1, r2, r3, r4, r5⟩, k1, k2, k3⟩ := hG3
          have mv : ∀ s : Int, 0 ≤ s → s < 6 → ∀ w : Int, 0 ≤ w → w < 3 → (3 * s + w = 3 * x1 + n ↔ s = x1 ∧ w = n) := fun s a b w c d => by omega
          refine ⟨⟨?_, fun k a b => ?_, fun s a b => ?_, fun s a b => ?_, fun k a b => ?_⟩, ?_, fun s a b => ⟨?_, fun w c d => ⟨?_, ?_, ?_, ?_⟩⟩, fun s a b d => ?_⟩
          · simp (disch := omega) only [q_up_row, q_od_row, z_up_at, q_up_ne]; exact r1
          · simp (disch := omega) only [q_up_row, q_od_row, z_up_at, q_up_ne]; exact r2 k a b
          · simp (disch := omega) only [q_up_row, q_od_row, z_up_at, q_up_ne]; exact r3 s a (by simp (disch := omega) only [q_up_row, q_od_row, q_up_ne] at b; exact b)
          · have := r4 s a b
            rw [q_up_at]
            simp (disch := omega) only [q_up_row, q_od_row]
            split <;> omega
          · have := r5 k a b
            simp (disch := omega) only [q_up_row, q_od_row]
            rw [q_up_at, q_up_at, q_up_at]
            simp (disch := omega) only [q_up_row, q_od_row]
            (repeat' split) <;> omega
          · simp (disch := omega) only [q_up_row, q_od_row, z_up_at, q_up_ne]; exact k1
          · have := (k2 s a b).1
            rw [q_up_at (i := 173)]
            simp (disch := omega) only [q_up_row, q_od_row]
            by_cases e : s = x1
            · subst e; rw [if_pos rfl]; simp (disch := omega) only [q_up_row, q_od_row, z_up_at, q_up_ne]
            · rw [if_neg e]; simp (disch := omega) only [q_up_row, q_od_row, z_up_at, q_up_ne]; exact this
          · have := ((k2 s a b).2 w c d).1
            simp (disch := omega) only [q_up_row, q_od_row, z_up_at, q_up_ne]; exact this
          · have := ((k2 s a b).2 w c d).2.1
            have m := mv s a b w c d
            simp (disch := omega) only [q_up_row, q_od_row]
            rw [q_up_at (i := 174)]
            simp (disch := omega) only [q_up_row, q_od_row]
            by_cases e : s = x1
            · subst e
              (try simp (disch := omega) only [q_up_row, q_od_row, z_up_at, q_up_ne])
              rw [q_up_at]
              by_cases e2 : w = n
              · rw [if_pos e2, if_pos (by omega)]
              · rw [if_neg e2, if_neg (by omega)]; (try simp (disch := omega) only [q_up_row]); exact this
            · rw [if_neg (by omega)]; simp (disch := omega) only [q_up_row, q_od_row, z_up_at, q_up_ne]; exact this
          · have := ((k2 s a b).2 w c d).2.2.1
            have m := mv s a b w c d
            simp (disch := omega) only [q_up_row, q_od_row]
            rw [q_up_at (i := 175)]
            simp (disch := omega) only [q_up_row, q_od_row]
            by_cases e : s = x1
            · subst e
              (try simp (disch := omega) only [q_up_row, q_od_row, z_up_at, q_up_ne])
              rw [q_up_at]
              by_cases e2 : w = n
              · rw [if_pos e2, if_pos (by omega)]
              · rw [if_neg e2, if_neg (by omega)]; (try simp (disch := omega) only [q_up_row]); exact this
            · rw [if_neg (by omega)]; simp (disch := omega) only [q_up_row, q_od_row, z_up_at, q_up_ne]; exact this
          · have := ((k2 s a b).2 w c d).2.2.2
            have m := mv s a b w c d
            simp (disch := omega) only [q_up_row, q_od_row]
            rw [q_up_at (i := 176)]
            simp (disch := omega) only [q_up_row, q_od_row]
            by_cases e : s = x1
            · subst e
              (try simp (disch := omega) only [q_up_row, q_od_row, z_up_at, q_up_ne])
              rw [q_up_at]
              by_cases e2 : w = n
              · rw [if_pos e2, if_pos (by omega)]
              · rw [if_neg e2, if_neg (by omega)]; (try simp (disch := omega) only [q_up_row]); exact this
            · rw [if_neg (by omega)]; simp (disch := omega) only [q_up_row, q_od_row, z_up_at, q_up_ne]; exact this
          · simp (disch := omega) only [q_up_row, q_od_row, q_up_ne] at d
            have := k3 s a b d
            by_cases e : s = x1
            · subst e; simp (disch := omega) only [q_up_row, q_od_row, z_up_at, q_up_ne]; exact this
            · simp (disch := omega) only [q_up_row, q_od_row, z_up_at, q_up_ne]; exact this
        · subst hs1; simp (disch := omega) only [q_up_row, q_od_row, z_up_at, q_up_ne]; omega
    · refine q_out_0 (j_I (code := 2) (val := 0) (by decide) (fun h9 => absurd h9 (by decide)) (l_nI h (by decide) ?_) (fun s hs => ?_))
      · unfold J_L_question J_X11_question
        rw [q_xs (s_index_y zn (by omega))]
        by_cases k2 : 0 ≤ x2 ∧ x2 ≤ 1
        · rw [q_xs (s_range_y ⟨z2, by decide, by decide⟩ k2)]
          by_cases k3 : 0 ≤ x3 ∧ x3 ≤ 63
          · rw [q_xs (s_range_y ⟨z3, by decide, by decide⟩ k3), q_xe (s_range_n ⟨z4, by decide, by decide⟩ (fun h9 => c2 ⟨k2, k3, h9⟩))]
            rfl
          · rw [q_xe (s_range_n ⟨z3, by decide, by decide⟩ k3)]
            rfl
        · rw [q_xe (s_range_n ⟨z2, by decide, by decide⟩ k2)]
          rfl
      · rw [hR1, if_neg c2]
        have e9 := hs.1.2 11 (by decide) (by decide)
        simp only [J_X12_question_45, q_g, q_b, q_let, q_ite, q_some, z32, z64, true_or, or_true, true_and, and_true]
        refine q_eq (s_X12_isSound (by omega)) ?_
        unfold q_in
        rw [if_pos (by omega), bad s 2 (by decide)]
        exact ⟨by decide, fun h9 => by omega, fun _ => ⟨by decide, fun _ => ⟨_, rfl, q_bad hs.1, (by dsimp only; exact z_up_at), fun h9 => absurd h9 (by decide)⟩, fun h9 => by first | exact absurd rfl h9 | exact absurd trivial h9⟩⟩
  · refine q_out_0 (j_I (code := 1) (val := 0) (by decide) (fun h9 => absurd h9 (by decide)) (l_nI h (by decide) ?_) (fun s hs => ?_))
    · unfold J_L_question J_X11_question
      rw [q_xe (s_index_n zn (by omega))]
      rfl
    · rw [hR1]
      have e9 := hs.1.2 11 (by decide) (by decide)
      simp only [J_X12_question_45, q_g, q_b, q_let, q_ite, q_some, z32, z64, true_or, or_true, true_and, and_true]
      refine q_eq (s_X12_isSound (by omega)) ?_
      unfold q_in
      rw [if_neg (by omega), bad s 1 (by decide)]
      exact ⟨by decide, fun _ => ⟨_, rfl, q_bad hs.1, (by dsimp only; exact z_up_at), fun h9 => absurd h9 (by decide)⟩, fun h9 => by first | exact absurd rfl h9 | exact absurd trivial h9⟩
