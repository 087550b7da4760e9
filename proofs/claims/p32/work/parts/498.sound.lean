-- sound
theorem j_6 {g st : z_St} {f : Int → Int} {i : Int} (h : q_INV g st) (hf : ∀ j, z32 (f j)) : q_ok (JL_6 f i st) (q_out g) := by
  have hn1 := h.2.1.2.2.1.1
  have e24 := h.2.2.1.2.2.1.1
  have e168 := h.1.2 11 (by decide) (by decide)
  obtain ⟨x1, hx1⟩ : ∃ x1, f (i + 1) = x1 := ⟨_, rfl⟩
  obtain ⟨x2, hx2⟩ : ∃ x2, f (i + 2) = x2 := ⟨_, rfl⟩
  obtain ⟨x3, hx3⟩ : ∃ x3, f (i + 3) = x3 := ⟨_, rfl⟩
  obtain ⟨x4, hx4⟩ : ∃ x4, f (i + 4) = x4 := ⟨_, rfl⟩
  have z1 : z32 x1 := hx1 ▸ hf (i + 1)
  have z2 : z32 x2 := hx2 ▸ hf (i + 2)
  have z3 : z32 x3 := hx3 ▸ hf (i + 3)
  have z4 : z32 x4 := hx4 ▸ hf (i + 4)
  have y1 : -2147483648 ≤ x1 ∧ x1 ≤ 2147483647 := z1
  have y2 : -2147483648 ≤ x2 ∧ x2 ≤ 2147483647 := z2
  have y3 : -2147483648 ≤ x3 ∧ x3 ≤ 2147483647 := z3
  have y4 : -2147483648 ≤ x4 ∧ x4 ≤ 2147483647 := z4
  unfold JL_6
  rw [hx1, hx2, hx3, hx4]
  obtain ⟨n, hn⟩ : ∃ n, g 168 11 = n := ⟨_, rfl⟩
  have bad : ∀ (s : z_St) (s0 : Int), 0 < s0 ∧ s0 < 10 → J_X12_sound_43 x1 x2 x3 x4 s0 s = some (-1, z_up s 168 0 s0) := fun s s0 hs => by
    refine q_of ?_
    simp only [J_X12_sound_43, q_g, q_b, q_let, q_ite, q_some, z32, z64, true_or, or_true, true_and, and_true]
    refine q_eq (s_holds_p hs) ?_
    dsimp only
    exact ⟨by decide, fun h9 => absurd h9 (by decide), fun _ => rfl⟩
  by_cases c : (-30000 ≤ x1 ∧ x1 ≤ 30000) ∧ (-30000 ≤ x2 ∧ x2 ≤ 30000) ∧ (-30000 ≤ x3 ∧ x3 ≤ 30000)
  · by_cases c4 : 1 ≤ x4 ∧ x4 ≤ 99
    · by_cases c6 : n = 6
      · refine q_out_0 (j_I (code := 2) (val := 0) (by decide) (fun h9 => absurd h9 (by decide)) (l_nI h (by decide) ?_) (fun s hs => ?_))
        · unfold J_L_sound J_X11_sound
          rw [q_xs (s_triple_y c), q_xs (s_range_y ⟨z4, by decide, by decide⟩ c4), e24, hn, c6]
          rfl
        · have e9 := hs.1.2 11 (by decide) (by decide)
          simp only [J_X12_sound, J_X12_sound_25, q_g, q_b, q_let, q_ite, q_some, z32, z64, true_or, or_true, true_and, and_true]
          refine q_eq (s_X12_areNumbers (by omega)) ?_
          rw [if_pos c]
          refine ⟨by decide, fun h9 => by omega, fun _ => ⟨by omega, q_eq (s_X12_in (by omega)) ?_⟩⟩
          unfold q_in
          rw [if_pos c4, e9, hn, c6, bad s 2 (by decide)]
          exact ⟨by decide, fun h9 => by omega, fun _ => ⟨by decide, fun _ => ⟨_, rfl, q_bad hs.1, (by dsimp only; exact z_up_at), fun h9 => absurd h9 (by decide)⟩, fun h9 => by first | exact absurd rfl h9 | exact absurd trivial h9⟩⟩
      · obtain ⟨hG, _⟩ := q_GG_self h
        have hG3 := hG.2.2.1
        rw [hn] at e24 e168 hn1
        obtain ⟨s1, hs1⟩ : ∃ s1, s1 = z_up (z_up (z_up (z_up (z_up st (29 + 5 * n + 1) 0 x1) (29 + 5 * n + 1) 1 x2) (29 + 5 * n + 1) 2 x3) (29 + 5 * n) 1 x4) 24 1 (n + 1) := ⟨_, rfl⟩
        have hX : J_X11_sound x1 x2 x3 x4 st = some (.inl (n, q_od s1)) := by
          unfold J_X11_sound
          rw [q_xs (s_triple_y c), q_xs (s_range_y ⟨z4, by decide, by decide⟩ c4), e24]
          refine q_of ?_
          simp only [J_X11_setTriple, q_g, q_b, q_let, q_ite, q_some, z32, z64, true_or, or_true, true_and, and_true]
          simp (disch := omega) only [q_up_row, q_od_row, z_up_at, q_up_ne, e24]
          rw [← hs1]
          refine ⟨by omega, fun _ => ⟨by omega, by decide, by decide, by decide, q_eq s_outdate ?_⟩, fun h9 => by omega⟩
          have : q_od s1 24 1 = n + 1 := by rw [hs1]; simp (disch := omega) only [q_up_row, q_od_row, z_up_at, q_up_ne]
          rw [this, show n + 1 - 1 = n by omega]
        refine j_new (s1 := s1) (val := n) (s2 := z_up (z_up (z_up (z_up (z_up (z_up (z_up (q_od s1) 199 0 n) 168 0 0) 171 (3 * n) x1) 171 (3 * n + 1) x2) 171 (3 * n + 2) x3) 172 n x4) 168 11 (n + 1)) h ?_ ⟨by omega, by omega⟩ ?_ ?_ ?_ ⟨?_, ?_⟩ ?_ ?_
        · unfold J_L_sound
          rw [hX]
          show z_g (z32 n) _ = _
          unfold z_g
          rw [if_pos (show z32 n from ⟨by omega, by omega⟩)]
        · have e9 : z_up (q_od s1) 199 0 n 168 11 = n := by rw [hs1]; simp (disch := omega) only [q_up_row, q_od_row, z_up_at, q_up_ne]; exact e168
          refine q_of ?_
          simp only [J_X12_sound, q_g, q_b, q_let, q_ite, q_some, z32, z64, true_or, or_true, true_and, and_true]
          refine q_eq (s_X12_areNumbers (by omega)) ?_
          rw [if_pos c]
          refine ⟨by decide, fun h9 => by omega, fun _ => ⟨by omega, q_eq (s_X12_in (by omega)) ?_⟩⟩
          unfold q_in
          rw [if_pos c4, e9]
          refine ⟨by decide, fun h9 => by omega, fun _ => ⟨by omega, fun h9 => by omega, fun _ => ?_⟩⟩
          simp only [J_X12_sound_43, q_g, q_b, q_let, q_ite, q_some, z32, z64, true_or, or_true, true_and, and_true]
          refine q_eq s_holds_0 ?_
          dsimp only
          have e10 : z_up (z_up (q_od s1) 199 0 n) 168 0 0 168 11 = n := by rw [q_up_ne (by decide)]; exact e9
          have e11 : q_od s1 168 11 = n := by rw [← e9]; simp (disch := omega) only [q_up_row, q_od_row, z_up_at, q_up_ne]
          simp (disch := omega) only [q_up_row, z_up_at, q_up_ne, e11]
          refine ⟨by decide, fun _ => ⟨by omega, by omega, by omega, by omega, ?_⟩, fun h9 => by first | exact absurd rfl h9 | exact absurd trivial h9⟩
          rw [show n + 1 - 1 = n by omega]
        · simp (disch := omega) only [q_up_row, q_od_row, z_up_at, q_up_ne]
        · intro y hy; (first | (simp (disch := omega) only [q_up_row, q_od_row, z_up_at, q_up_ne]; done) | rfl)
        · rw [hs1]; (first | (simp (disch := omega) only [q_up_row, q_od_row, z_up_at, q_up_ne]; done) | rfl)
        · rw [hs1]; (first | (simp (disch := omega) only [q_up_row, q_od_row, z_up_at, q_up_ne]; done) | rfl)
        · subst hs1
          refine ⟨(k_1 hG.1 (by (first | (simp (disch := omega) only [q_up_row, q_od_row, z_up_at, q_up_ne]; done) | rfl)) (by (first | (simp (disch := omega) only [q_up_row, q_od_row, z_up_at, q_up_ne]; done) | rfl)) (by (first | (simp (disch := omega) only [q_up_row, q_od_row, z_up_at, q_up_ne]; done) | rfl)) (fun x p q => by (first | (simp (disch := omega) only [q_up_row, q_od_row, z_up_at, q_up_ne]; done) | rfl))), (k_2 hG.2.1 (by (first | (simp (disch := omega) only [q_up_row, q_od_row, z_up_at, q_up_ne]; done) | rfl)) (by (first | (simp (disch := omega) only [q_up_row, q_od_row, z_up_at, q_up_ne]; done) | rfl)) (by (first | (simp (disch := omega) only [q_up_row, q_od_row, z_up_at, q_up_ne]; done) | rfl)) (fun x p q => by (first | (simp (disch := omega) only [q_up_row, q_od_row, z_up_at, q_up_ne]; done) | rfl))), ?_, (k_4 hG.2.2.2.1 (by (first | (simp (disch := omega) only [q_up_row, q_od_row, z_up_at, q_up_ne]; done) | rfl)) (by (first | (simp (disch := omega) only [q_up_row, q_od_row, z_up_at, q_up_ne]; done) | rfl)) (by (first | (simp (disch := omega) only [q_up_row, q_od_row, z_up_at, q_up_ne]; done) | rfl)) (by (first | (simp (disch := omega) only [q_up_row, q_od_row, z_up_at, q_up_ne]; done) | rfl))), k_5 hG.2.2.2.2.1 (by (first | (simp (disch := omega) only [q_up_row, q_od_row, z_up_at, q_up_ne]; done) | rfl)) ?_ (fun x p q => by (first | (simp (disch := omega) only [q_up_row, q_od_row, z_up_at, q_up_ne]; done) | rfl)) (by (first | (simp (disch := omega) only [q_up_row, q_od_row, z_up_at, q_up_ne]; done) | rfl)) (fun x p => by (first | (simp (disch := omega) only [q_up_row, q_od_row, z_up_at, q_up_ne]; done) | rfl)), (k_6 hG.2.2.2.2.2 ⟨(by (first | (simp (disch := omega) only [q_up_row, q_od_row, z_up_at, q_up_ne]; done) | rfl)), (by (first | (simp (disch := omega) only [q_up_row, q_od_row, z_up_at, q_up_ne]; done) | rfl)), (by (first | (simp (disch := omega) only [q_up_row, q_od_row, z_up_at, q_up_ne]; done) | rfl))⟩ (by (first | (simp (disch := omega) only [q_up_row, q_od_row, z_up_at, q_up_ne]; done) | rfl)) ⟨(by (first | (simp (disch := omega) only [q_up_row, q_od_row, z_up_at, q_up_ne]; done) | rfl)), (by (first | (simp (disch := omega) only [q_up_row, q_od_row, z_up_at, q_up_ne]; done) | rfl)), (by (first | (simp (disch := omega) only [q_up_row, q_od_row, z_up_at, q_up_ne]; done) | rfl))⟩ (fun x p q => by (first | (simp (disch := omega) only [q_up_row, q_od_row, z_up_at, q_up_ne]; done) | rfl)))⟩
          · obtain ⟨⟨r1, r2, r3, r4, r5⟩, c1, c2, c3⟩ := hG3
            rw [e168] at r3 c3
            refine ⟨⟨?_, fun k a b => ?_, fun s a b => ?_, fun s a b => ?_, fun k a b => ?_⟩, ?_, fun s a b => ⟨?_, fun w c d => ⟨?_, ?_, ?_, ?_⟩⟩, fun s a b d => ?_⟩
            · simp (disch := omega) only [q_up_row, q_od_row, z_up_at, q_up_ne]; omega
            · have := r2 k a b
              simp (disch := omega) only [q_up_row, q_od_row]
              rw [q_up_at, q_up_at, q_up_at]
              simp (disch := omega) only [q_up_row, q_od_row]
              (repeat' split) <;> omega
            · simp (disch := omega) only [q_up_row, q_od_row, z_up_at] at b ⊢
              rw [q_up_at]
              simp (disch := omega) only [q_up_row, q_od_row]
              by_cases e : s = n
              · rw [if_pos e]; exact c4
              · rw [if_neg e]; exact r3 s a (by omega)
            · simp (disch := omega) only [q_up_row, q_od_row, z_up_at, q_up_ne]; exact r4 s a b
            · simp (disch := omega) only [q_up_row, q_od_row, z_up_at, q_up_ne]; exact r5 k a b
            · simp (disch := omega) only [q_up_row, q_od_row, z_up_at, q_up_ne]
            · have := (c2 s a b).1
              by_cases e : s = n
              · subst e; simp (disch := omega) only [q_up_row, q_od_row, z_up_at, q_up_ne]; exact this
              · simp (disch := omega) only [q_up_row, q_od_row, z_up_at, q_up_ne]; exact this
            · have := ((c2 s a b).2 w c d).1
              by_cases e : s = n
              · subst e
                have hw : w = 0 ∨ w = 1 ∨ w = 2 := by omega
                rcases hw with rfl | rfl | rfl
                · rw [Int.add_zero]; simp (disch := omega) only [q_up_row, q_od_row, z_up_at, q_up_ne]
                · simp (disch := omega) only [q_up_row, q_od_row, z_up_at, q_up_ne]
                · simp (disch := omega) only [q_up_row, q_od_row, z_up_at, q_up_ne]
              · simp (disch := omega) only [q_up_row, q_od_row, z_up_at, q_up_ne]; exact this
            · have := ((c2 s a b).2 w c d).2.1
              simp (disch := omega) only [q_up_row, q_od_row, z_up_at, q_up_ne]; exact this
            · have := ((c2 s a b).2 w c d).2.2.1
              simp (disch := omega) only [q_up_row, q_od_row, z_up_at, q_up_ne]; exact this
            · have := ((c2 s a b).2 w c d).2.2.2
              simp (disch := omega) only [q_up_row, q_od_row, z_up_at, q_up_ne]; exact this
            · simp (disch := omega) only [q_up_row, q_od_row, z_up_at] at d
              by_cases e : s = n
              · subst e; simp (disch := omega) only [q_up_row, q_od_row, z_up_at, q_up_ne]
              · have := c3 s a b (by omega)
                simp (disch := omega) only [q_up_row, q_od_row, z_up_at, q_up_ne]; exact this
          · simp (disch := omega) only [q_up_row, q_od_row, z_up_at, q_up_ne]; omega
        · subst hs1; simp (disch := omega) only [q_up_row, q_od_row, z_up_at, q_up_ne]; omega
    · refine q_out_0 (j_I (code := 1) (val := 0) (by decide) (fun h9 => absurd h9 (by decide)) (l_nI h (by decide) ?_) (fun s hs => ?_))
      · unfold J_L_sound J_X11_sound
        rw [q_xs (s_triple_y c), q_xe (s_range_n ⟨z4, by decide, by decide⟩ c4)]
        rfl
      · simp only [J_X12_sound, J_X12_sound_25, q_g, q_b, q_let, q_ite, q_some, z32, z64, true_or, or_true, true_and, and_true]
        refine q_eq (s_X12_areNumbers (by omega)) ?_
        rw [if_pos c]
        refine ⟨by decide, fun h9 => by omega, fun _ => ⟨by omega, q_eq (s_X12_in (by omega)) ?_⟩⟩
        unfold q_in
        rw [if_neg c4, bad s 1 (by decide)]
        exact ⟨by decide, fun _ => ⟨_, rfl, q_bad hs.1, (by dsimp only; exact z_up_at), fun h9 => absurd h9 (by decide)⟩, fun h9 => by first | exact absurd rfl h9 | exact absurd trivial h9⟩
  · refine q_out_0 (j_I (code := 1) (val := 0) (by decide) (fun h9 => absurd h9 (by decide)) (l_nI h (by decide) ?_) (fun s hs => ?_))
    · unfold J_L_sound J_X11_sound
      rw [q_xe (s_triple_n z1 z2 z3 c)]
      rfl
    · simp only [J_X12_sound, J_X12_sound_25, q_g, q_b, q_let, q_ite, q_some, z32, z64, true_or, or_true, true_and, and_true]
      refine q_eq (s_X12_areNumbers (by omega)) ?_
      rw [if_neg c, bad s 1 (by decide)]
      exact ⟨by decide, fun _ => ⟨_, rfl, q_bad hs.1, (by dsimp only; exact z_up_at), fun h9 => absurd h9 (by decide)⟩, fun h9 => by omega⟩
