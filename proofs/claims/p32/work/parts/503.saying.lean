-- saying
theorem j_10 {g st : z_St} {f : Int → Int} {i : Int} (h : q_INV g st) (hf : ∀ j, z32 (f j)) : q_ok (JL_10 f i st) (q_out g) := by
  have hB := h.2.1
  have hC := h.2.2.1
  have ht1 := hB.2.2.2.1.1
  have hw1 := hB.2.2.2.2.1.1
  have e246 := hC.2.2.2.1.1
  have e244 := hC.2.2.2.2.1.1
  obtain ⟨w, hx1⟩ : ∃ w, f (i + 1) = w := ⟨_, rfl⟩
  obtain ⟨x, hx⟩ : ∃ x, f (i + 2) = x := ⟨_, rfl⟩
  have zw : z32 w := hx1 ▸ hf (i + 1)
  have yw : -2147483648 ≤ w ∧ w ≤ 2147483647 := zw
  have zx : z32 x := hx ▸ hf (i + 2)
  have yx : -2147483648 ≤ x ∧ x ≤ 2147483647 := zx
  unfold JL_10
  rw [hx1, hx]
  obtain ⟨m, hm⟩ : ∃ m, g 168 18 = m := ⟨_, rfl⟩
  obtain ⟨n, hn⟩ : ∃ n, g 168 13 = n := ⟨_, rfl⟩
  rw [hm] at e244 hw1
  rw [hn] at e246 ht1
  have z4 : z32 w ∧ z32 (st 24 4) := ⟨zw, by rw [e244]; exact ⟨by omega, by omega⟩⟩
  have bad : ∀ (s : z_St) (s0 : Int), 0 < s0 ∧ s0 < 10 → J_X12_saying_52 w x s0 s = some (-1, z_up s 168 0 s0) := fun s s0 hs => by
    refine q_of ?_
    simp only [J_X12_saying_52, q_g, q_b, q_let, q_ite, q_some, z32, z64, true_or, or_true, true_and, and_true]
    refine q_eq (s_holds_p hs) ?_
    dsimp only
    exact ⟨by decide, fun h9 => absurd h9 (by decide), fun _ => rfl⟩
  have fin : ∀ (s : z_St) (s0 : Int), q_INV g s → 0 < s0 ∧ s0 < 10 → q_ok (some ((-1 : Int), z_up s 168 0 s0)) (fun q => q_K g s q.2 ∧ q.2 168 0 = s0 ∧ (s0 = 0 → q.1 = 0)) := fun s s0 hs h0 => ⟨_, rfl, q_bad hs.1, (by dsimp only; exact z_up_at), fun h9 => by omega⟩
  by_cases c1 : 0 ≤ w ∧ w < m
  · have hk := hB.2.2.2.2.1.2.1 w (by omega) (by omega)
    have hk27 := hC.2.2.2.2.1.2.1 w (by omega) (by omega)
    obtain ⟨k, hk9⟩ : ∃ k, g 178 w = k := ⟨_, rfl⟩
    rw [hk9] at hk hk27
    by_cases c : 0 ≤ x ∧ x ≤ 9999
    · by_cases c2 : q_can g ∧ k < 2
      · obtain ⟨hG, h20⟩ := q_GG_self h
        have hs18 : st 168 18 = m := by rw [← hm]; exact h.1.2 18 (by decide) (by decide)
        have hs13 : st 168 13 = n := by rw [← hn]; exact h.1.2 13 (by decide) (by decide)
        have hs178 : st 178 w = k := by rw [h.1.1 178 (by decide) (by decide)]; exact hk9
        have hcan : q_can st := (q_can_c (h.1.2 13 (by decide) (by decide)) (h.1.1 177 (by decide) (by decide)) (h.1.2 11 (by decide) (by decide))).mpr c2.1
        obtain ⟨a1, a2, a3, a4, a5⟩ := q_ays_spec (st := st) (w := w) (x := x) (n := n) (k := k) (by omega) (by omega)
        obtain ⟨s1, hs1⟩ : ∃ s1, s1 = q_ays st w x n k := ⟨_, rfl⟩
        have hL : J_L_saying w x st = some (0, z_up (q_od s1) 199 0 n) := by
          have : J_X11_saying w x st = some (.inl (n, q_od s1)) := by
            unfold J_X11_saying
            rw [q_xs (s_index_y z4 (by rw [e244]; exact c1)), q_xs (s_range_y ⟨zx, by decide, by decide⟩ c)]
            refine q_of ?_
            simp only [q_g, q_b, q_let, q_ite, q_some, z32, z64, true_or, or_true, true_and, and_true]
            refine q_mono (s_X4_textCanBeSaid hC hB) ?_
            intro r hr
            rcases hr with ⟨_, hr⟩ | ⟨rfl, _⟩
            · exact absurd c2.1 hr
            rw [hk27]
            refine ⟨by decide, fun h9 => by omega, fun _ => ⟨by omega, by omega, fun _ => ?_, fun h9 => by omega⟩⟩
            refine q_eq (s_X4_addSaying (n := n) (k := k) (by omega) hk27 (by omega) e246 (by omega)) ?_
            show q_ok (z_b (J_X11_outdate (q_ays st w x n k)) _) _
            rw [← hs1, q_b]
            refine q_eq s_outdate ?_
            rw [q_some, e246]
          unfold J_L_saying
          rw [this]
          show z_g (z32 n) _ = _
          unfold z_g
          rw [if_pos (show z32 n from ⟨by omega, by omega⟩)]
        have hb : ∀ y, 168 ≤ y → y ≠ 199 → z_up (q_od s1) 199 0 n y = st y := fun y p q => by
          rw [q_up_row q, q_od_row (by omega), hs1, a1 y (by omega) (by omega) (by omega)]
        obtain ⟨b0, hb0⟩ : ∃ b0, b0 = z_up (q_od s1) 199 0 n := ⟨_, rfl⟩
        rw [← hb0] at hb
        obtain ⟨t0, ht0⟩ : ∃ t0, t0 = z_up b0 168 0 0 := ⟨_, rfl⟩
        have ht : ∀ y, 169 ≤ y → y ≤ 182 → t0 y = st y := fun y p q => by rw [ht0, q_up_row (by omega)]; exact hb y (by omega) (by omega)
        have ht9 : ∀ j, 1 ≤ j → t0 168 j = st 168 j := fun j p => by rw [ht0, q_up_ne (by omega), hb 168 (by decide) (by decide)]
        obtain ⟨r, hr1, hr2, hr3⟩ := s_X12_says (st := t0) (w := w) (x := x) (n := n) (k := k) (by omega) (by rw [ht 178 (by decide) (by decide)]; exact hs178) (by omega) (by rw [ht9 13 (by decide)]; exact hs13) (by omega)
        have hR : J_X12_saying w x b0 = some (n, r.2) := by
          have hSb : q_same g b0 := ⟨fun y p q => (hb y (by omega) (by omega)).trans (h.1.1 y p q), fun j p q => by rw [hb 168 (by decide) (by decide)]; exact h.1.2 j p q⟩
          have e18 := hSb.2 18 (by decide) (by decide)
          refine q_of ?_
          simp only [J_X12_saying, q_g, q_b, q_let, q_ite, q_some, z32, z64, true_or, or_true, true_and, and_true]
          refine q_eq (s_X12_isWord (by omega)) ?_
          rw [e18, hm]
          unfold q_in
          rw [if_pos (by omega)]
          refine ⟨by decide, fun h9 => by omega, fun _ => ⟨by omega, q_eq (s_X12_in (by omega)) ?_⟩⟩
          unfold q_in
          rw [if_pos c]
          refine ⟨by decide, fun h9 => by omega, fun _ => ?_⟩
          refine q_mono (s_X12_isSaid hSb hB) ?_
          intro r9 hr9
          rcases hr9 with ⟨_, hr9⟩ | ⟨rfl, _⟩
          · exact absurd c2.1 hr9
          rw [hb 178 (by decide) (by decide), hs178]
          refine ⟨by decide, fun h9 => by omega, fun _ => ⟨by omega, by omega, fun h9 => by omega, fun _ => ?_⟩⟩
          simp only [J_X12_saying_52, q_g, q_b, q_let, q_ite, q_some, z32, z64, true_or, or_true, true_and, and_true]
          refine q_eq s_holds_0 ?_
          dsimp only
          rw [← ht0]
          refine ⟨by decide, fun _ => q_eq hr1 ?_, fun h9 => by first | exact absurd rfl h9 | exact absurd trivial h9⟩
          rw [hr2]
        rw [hb0] at hR
        refine j_new h hL ⟨by omega, by omega⟩ hR ?_ ?_ ⟨?_, ?_⟩ (q_GG_says (W := m) (val := 0) hG (by omega) c hs13 hs178 (by omega) hcan (Or.inl ⟨hs18.symm, c1.2⟩) ?_ ?_ ?_ ht (fun j p _ _ => ht9 j p) (by rw [ht9 18 (by decide)]; exact hs18) hr3 rfl) ?_
        · rw [hr3.2.1 0 (by decide), ht0, z_up_at]
        · intro y hy
          rw [hr3.1 y (by omega) (by omega) (by omega) (by omega) (by omega), ht0, q_up_row (by omega), hb0]
        · rw [hs1, a1 134 (by decide) (by decide) (by decide)]
        · rw [hs1, a1 134 (by decide) (by decide) (by decide)]
        · intro y hy; rw [hs1]
        · intro j hj; rw [hs1]
        · rw [hs1, a2 4 (by decide)]; exact e244
        · rw [hr3.2.1 20 (by decide), ht9 20 (by decide)]; omega
      · refine q_out_0 (j_I (code := 3) (val := 0) (by decide) (fun h9 => absurd h9 (by decide)) (l_n (X := J_X11_saying w x st) (e := 2) (by decide) ?_ (fun q he hq => by unfold J_L_saying; rw [hq]; simp only [he]; rfl)) (fun s hs => ?_))
        · unfold J_X11_saying
          refine q_xl (s_index_y z4 (by rw [e244]; exact c1)) ?_
          refine q_xl (s_range_y ⟨zx, by decide, by decide⟩ c) ?_
          simp only [J_X11_saying_42, q_g, q_b, q_let, q_ite, q_some, z32, z64, true_or, or_true, true_and, and_true]
          refine q_mono (s_X4_textCanBeSaid hC hB) ?_
          intro r hr
          rw [hk27]
          rcases hr with ⟨rfl, hr⟩ | ⟨rfl, hr⟩
          · exact ⟨by decide, fun _ => ⟨_, rfl, h, rfl⟩, fun h9 => by first | exact absurd rfl h9 | exact absurd trivial h9⟩
          · exact ⟨by decide, fun h9 => by omega, fun _ => ⟨by omega, by omega, fun h9 => absurd ⟨hr, h9⟩ c2, fun _ => ⟨_, rfl, h, rfl⟩⟩⟩
        · have e18 := hs.1.2 18 (by decide) (by decide)
          have e178 := hs.1.1 178 (by decide) (by decide)
          simp only [J_X12_saying, J_X12_saying_47, q_g, q_b, q_let, q_ite, q_some, z32, z64, true_or, or_true, true_and, and_true]
          refine q_eq (s_X12_isWord (by omega)) ?_
          rw [e18, hm]
          unfold q_in
          rw [if_pos (by omega)]
          refine ⟨by decide, fun h9 => by omega, fun _ => ⟨by omega, q_eq (s_X12_in (by omega)) ?_⟩⟩
          unfold q_in
          rw [if_pos c]
          refine ⟨by decide, fun h9 => by omega, fun _ => ?_⟩
          refine q_mono (s_X12_isSaid hs.1 hB) ?_
          intro r hr
          rw [e178, hk9, bad s 3 (by decide)]
          have fin3 := fin s 3 hs (by decide)
          rcases hr with ⟨rfl, hr⟩ | ⟨rfl, hr⟩
          · exact ⟨by decide, fun _ => fin3, fun h9 => by first | exact absurd rfl h9 | exact absurd trivial h9⟩
          · exact ⟨by decide, fun h9 => by omega, fun _ => ⟨by omega, by omega, fun _ => fin3, fun h9 => absurd ⟨hr, by omega⟩ c2⟩⟩
    · refine q_out_0 (j_I (code := 2) (val := 0) (by decide) (fun h9 => absurd h9 (by decide)) (l_nI h (by decide) ?_) (fun s hs => ?_))
      · unfold J_L_saying J_X11_saying
        rw [q_xs (s_index_y z4 (by rw [e244]; exact c1)), q_xe (s_range_n ⟨zx, by decide, by decide⟩ c)]
        rfl
      · have e18 := hs.1.2 18 (by decide) (by decide)
        simp only [J_X12_saying, q_g, q_b, q_let, q_ite, q_some, z32, z64, true_or, or_true, true_and, and_true]
        refine q_eq (s_X12_isWord (by omega)) ?_
        rw [e18, hm]
        unfold q_in
        rw [if_pos (by omega)]
        refine ⟨by decide, fun h9 => by omega, fun _ => ⟨by omega, q_eq (s_X12_in (by omega)) ?_⟩⟩
        unfold q_in
        rw [if_neg c, bad s 2 (by decide)]
        exact ⟨by decide, fun _ => fin s 2 hs (by decide), fun h9 => by first | exact absurd rfl h9 | exact absurd trivial h9⟩
  · refine q_out_0 (j_I (code := 1) (val := 0) (by decide) (fun h9 => absurd h9 (by decide)) (l_nI h (by decide) ?_) (fun s hs => ?_))
    · unfold J_L_saying J_X11_saying
      rw [q_xe (s_index_n z4 (by rw [e244]; exact c1))]
      rfl
    · have e18 := hs.1.2 18 (by decide) (by decide)
      simp only [J_X12_saying, q_g, q_b, q_let, q_ite, q_some, z32, z64, true_or, or_true, true_and, and_true]
      refine q_eq (s_X12_isWord (by omega)) ?_
      rw [e18, hm]
      unfold q_in
      rw [if_neg (by omega), bad s 1 (by decide)]
      exact ⟨by decide, fun _ => fin s 1 hs (by decide), fun h9 => by first | exact absurd rfl h9 | exact absurd trivial h9⟩
