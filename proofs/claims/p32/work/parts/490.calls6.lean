-- THE CALLS: cost, over, price, sum
theorem s_X12_cost {g st0 : z_St} (hS : q_same g st0) (hB : q_RB g) {x1 x2 x3 : Int} (h1 : z32 x1) (h2 : z32 x2) (h3 : z32 x3) : q_ok (J_X12_cost x1 x2 x3 st0) (fun r => q_K g st0 r.2 ∧ (¬ ((0 ≤ x1 ∧ x1 < g 168 2) ∧ 0 ≤ x2 ∧ x2 < g 168 11) → r.2 168 0 = 1) ∧ ((0 ≤ x1 ∧ x1 < g 168 2) ∧ 0 ≤ x2 ∧ x2 < g 168 11 → (¬ (0 ≤ x3 ∧ x3 ≤ g 173 x2) → r.2 168 0 = 2) ∧ (0 ≤ x3 ∧ x3 ≤ g 173 x2 → r.2 168 0 = 0 ∧ r.1 = q_cost g x1 x2 x3))) := by
  have hf1 := hB.1.1
  have hn1 := hB.2.2.1.1
  have a1 : -2147483648 ≤ x1 ∧ x1 ≤ 2147483647 := h1
  have a2 : -2147483648 ≤ x2 ∧ x2 ≤ 2147483647 := h2
  have a3 : -2147483648 ≤ x3 ∧ x3 ≤ 2147483647 := h3
  have e2 := hS.2 2 (by decide) (by decide)
  have e11 := hS.2 11 (by decide) (by decide)
  have bad : ¬ ((0 ≤ x1 ∧ x1 < g 168 2) ∧ 0 ≤ x2 ∧ x2 < g 168 11) → q_ok (J_X12_cost_64 x1 x2 x3 1 st0) (fun r => q_K g st0 r.2 ∧ (¬ ((0 ≤ x1 ∧ x1 < g 168 2) ∧ 0 ≤ x2 ∧ x2 < g 168 11) → r.2 168 0 = 1) ∧ ((0 ≤ x1 ∧ x1 < g 168 2) ∧ 0 ≤ x2 ∧ x2 < g 168 11 → (¬ (0 ≤ x3 ∧ x3 ≤ g 173 x2) → r.2 168 0 = 2) ∧ (0 ≤ x3 ∧ x3 ≤ g 173 x2 → r.2 168 0 = 0 ∧ r.1 = q_cost g x1 x2 x3))) := fun hno => by
    simp only [J_X12_cost_64, q_g, q_b, q_let, q_ite, q_some, z32, z64, true_or, or_true, true_and, and_true]
    refine q_eq (s_holds_p (by decide)) ?_
    dsimp only
    exact ⟨by decide, fun h9 => absurd h9 (by decide), fun _ => ⟨q_bad hS, fun _ => z_up_at, fun h9 => absurd h9 hno⟩⟩
  simp only [J_X12_cost, J_X12_cost_29, J_X12_cost_30, q_g, q_b, q_let, q_ite, q_some, z32, z64, true_or, or_true, true_and, and_true]
  rw [e2]
  refine ⟨h1, by omega, ?_⟩
  refine q_eq (s_X12_in (by omega)) ?_
  refine ⟨by unfold q_in; split <;> decide, fun h => ⟨by decide, fun _ => bad (fun h9 => by have := q_in_0' h; have := h9.1; omega), fun h9 => by first | exact absurd rfl h9 | exact absurd trivial h9⟩, fun h => ?_⟩
  have k := q_in_n0 h
  refine q_eq (s_X12_isSound (by omega)) ?_
  rw [e11]
  refine ⟨by unfold q_in; split <;> decide, fun hh => ⟨by decide, fun _ => bad (fun h9 => by have := q_in_0' hh; have := h9.2; omega), fun h9 => by first | exact absurd rfl h9 | exact absurd trivial h9⟩, fun hh => ⟨by decide, fun h9 => absurd h9 (by decide), fun _ => ⟨h3, by have := q_in_n0 hh; omega, ?_⟩⟩⟩
  have k2 := q_in_n0 hh
  have ha := hB.2.2.1.2.2.2.1 x2 (by omega) (by omega)
  rw [hS.1 173 (by decide) (by decide)]
  refine ⟨by omega, ?_⟩
  have hgood : (0 ≤ x1 ∧ x1 < g 168 2) ∧ 0 ≤ x2 ∧ x2 < g 168 11 := by omega
  refine q_eq (s_X12_in (by omega)) ?_
  refine ⟨by unfold q_in; split <;> decide, fun h4 => ?_, fun h4 => ?_⟩
  · have k3 := q_in_0' h4
    simp only [J_X12_cost_64, q_g, q_b, q_let, q_ite, q_some, z32, z64, true_or, or_true, true_and, and_true]
    refine q_eq (s_holds_p (by decide)) ?_
    dsimp only
    exact ⟨by decide, fun h9 => absurd h9 (by decide), fun _ => ⟨q_bad hS, fun h9 => absurd hgood h9, fun _ => ⟨fun _ => z_up_at, fun h9 => absurd h9 k3⟩⟩⟩
  · have k3 := q_in_n0 h4
    simp only [J_X12_cost_64, q_g, q_b, q_let, q_ite, q_some, z32, z64, true_or, or_true, true_and, and_true]
    refine q_eq s_holds_0 ?_
    dsimp only
    refine ⟨by decide, fun _ => ?_, fun h9 => absurd rfl h9⟩
    exact q_eq (s_X12_costOf (q_up_0 hS) hB.1 hB.2.1 hB.2.2.1 (by omega)) ⟨q_bad hS, fun h9 => absurd hgood h9, fun _ => ⟨fun h9 => absurd k3 h9, fun _ => ⟨z_up_at, rfl⟩⟩⟩
theorem j_12 {g st : z_St} {f : Int → Int} {i : Int} (h : q_INV g st) (hf : ∀ j, z32 (f j)) : q_ok (JL_12 f i st) (fun st' => q_INV g st') := by
  have hB := h.2.1
  have hC := h.2.2.1
  have hf1 := hB.1.1
  have hn1 := hB.2.2.1.1
  have hR := fun s (hs : q_same g s) => s_X12_cost hs hB (hf (i + 1)) (hf (i + 2)) (hf (i + 3))
  obtain ⟨x1, hx1⟩ : ∃ x1, f (i + 1) = x1 := ⟨_, rfl⟩
  obtain ⟨x2, hx2⟩ : ∃ x2, f (i + 2) = x2 := ⟨_, rfl⟩
  obtain ⟨x3, hx3⟩ : ∃ x3, f (i + 3) = x3 := ⟨_, rfl⟩
  have z1 : z32 x1 := hx1 ▸ hf (i + 1)
  have z2 : z32 x2 := hx2 ▸ hf (i + 2)
  have z3 : z32 x3 := hx3 ▸ hf (i + 3)
  rw [hx1, hx2, hx3] at hR
  unfold JL_12
  rw [hx1, hx2, hx3]
  have n1 : z32 (st 1 2) := by rw [hC.1.1]; exact ⟨by omega, by omega⟩
  have n2 : z32 (st 24 1) := by rw [hC.2.2.1.1]; exact ⟨by omega, by omega⟩
  by_cases c1 : 0 ≤ x1 ∧ x1 < g 168 2
  · have i1 := s_index_y (x := x1) (st := st) ⟨z1, n1⟩ (by rw [hC.1.1]; exact c1)
    by_cases c2 : 0 ≤ x2 ∧ x2 < g 168 11
    · have i2 := s_index_y (x := x2) (st := st) ⟨z2, n2⟩ (by rw [hC.2.2.1.1]; exact c2)
      have ha := hB.2.2.1.2.2.2.1 x2 (by omega) (by omega)
      have e5 := (hC.2.2.1.2.1 x2 (by omega) (by omega)).1
      have n3 : z32 (st (29 + 5 * x2) 5) := by rw [e5]; exact ⟨by omega, by omega⟩
      by_cases c3 : 0 ≤ x3 ∧ x3 ≤ g 173 x2
      · have hcb := q_cost_bd hB.1 hB.2.1 hB.2.2.1 (f := x1) (s := x2) (form := x3) (by omega)
        refine j_J (code := 0) (val := q_cost g x1 x2 x3) (by decide) (fun _ => ⟨by omega, by omega⟩) (l_yI h ?_) (fun s hs => q_mono (hR s hs.1) (fun q hq => ⟨hq.1, ((hq.2.2 ⟨c1, c2⟩).2 c3).1, fun _ => ((hq.2.2 ⟨c1, c2⟩).2 c3).2⟩))
        have e : J_X11_cost x1 x2 x3 st = some (.inl (q_cost g x1 x2 x3)) := by
          unfold J_X11_cost
          rw [q_xs i1, q_xs i2]
          unfold z_g
          rw [if_pos (by omega), q_xs (s_range_y ⟨z3, by decide, n3⟩ (by rw [e5]; exact c3)), if_pos (by omega), s_X1_costBy hC hB (by omega)]
          rfl
        unfold J_L_cost
        rw [e]
      · refine j_J (code := 2) (val := 0) (by decide) (fun h9 => absurd h9 (by decide)) (l_nI h (by decide) ?_) (fun s hs => q_mono (hR s hs.1) (fun q hq => ⟨hq.1, (hq.2.2 ⟨c1, c2⟩).1 c3, fun h9 => absurd h9 (by decide)⟩))
        have e : J_X11_cost x1 x2 x3 st = some (.inr (1, st)) := by
          unfold J_X11_cost
          rw [q_xs i1, q_xs i2]
          unfold z_g
          rw [if_pos (by omega), q_xe (s_range_n ⟨z3, by decide, n3⟩ (by rw [e5]; exact c3))]
        unfold J_L_cost
        rw [e]; rfl
    · refine j_J (code := 1) (val := 0) (by decide) (fun h9 => absurd h9 (by decide)) (l_nI h (by decide) ?_) (fun s hs => q_mono (hR s hs.1) (fun q hq => ⟨hq.1, hq.2.1 (fun h9 => c2 h9.2), fun h9 => absurd h9 (by decide)⟩))
      have e : J_X11_cost x1 x2 x3 st = some (.inr (3, st)) := by
        unfold J_X11_cost
        rw [q_xs i1, q_xe (s_index_n ⟨z2, n2⟩ (by rw [hC.2.2.1.1]; exact c2))]
      unfold J_L_cost
      rw [e]; rfl
  · refine j_J (code := 1) (val := 0) (by decide) (fun h9 => absurd h9 (by decide)) (l_nI h (by decide) ?_) (fun s hs => q_mono (hR s hs.1) (fun q hq => ⟨hq.1, hq.2.1 (fun h9 => c1 h9.1), fun h9 => absurd h9 (by decide)⟩))
    have e : J_X11_cost x1 x2 x3 st = some (.inr (3, st)) := by
      unfold J_X11_cost
      rw [q_xe (s_index_n ⟨z1, n1⟩ (by rw [hC.1.1]; exact c1))]
    unfold J_L_cost
    rw [e]; rfl
theorem s_X12_over {g st0 : z_St} (hS : q_same g st0) (hB : q_RB g) {x1 x2 x3 : Int} (h1 : z32 x1) (h2 : z32 x2) (h3 : z32 x3) : q_ok (J_X12_over x1 x2 x3 st0) (fun r => q_K g st0 r.2 ∧ (¬ (0 ≤ x1 ∧ x1 < g 168 18) → r.2 168 0 = 1) ∧ (0 ≤ x1 ∧ x1 < g 168 18 → (¬ (0 ≤ x2 ∧ x2 < x3 ∧ x3 ≤ g 168 2) → r.2 168 0 = 2) ∧ (0 ≤ x2 ∧ x2 < x3 ∧ x3 ≤ g 168 2 → r.2 168 0 = 0 ∧ r.1 = e_I (-1) (q_tab g x1 x2 x3)))) := by
  have hf1 := hB.1.1
  have hw1 := hB.2.2.2.2.1.1
  have a1 : -2147483648 ≤ x1 ∧ x1 ≤ 2147483647 := h1
  have a2 : -2147483648 ≤ x2 ∧ x2 ≤ 2147483647 := h2
  have a3 : -2147483648 ≤ x3 ∧ x3 ≤ 2147483647 := h3
  have e2 := hS.2 2 (by decide) (by decide)
  have e18 := hS.2 18 (by decide) (by decide)
  have bad : ∀ s0 : Int, 0 < s0 ∧ s0 < 10 → q_ok (J_X12_over_53 x1 x2 x3 s0 st0) (fun r => q_K g st0 r.2 ∧ r.2 168 0 = s0) := fun s0 hs => by
    simp only [J_X12_over_53, q_g, q_b, q_let, q_ite, q_some, z32, z64, true_or, or_true, true_and, and_true]
    refine q_eq (s_holds_p hs) ?_
    dsimp only
    exact ⟨by decide, fun h9 => absurd h9 (by decide), fun _ => ⟨q_bad hS, z_up_at⟩⟩
  simp only [J_X12_over, J_X12_over_52, q_g, q_b, q_let, q_ite, q_some, z32, z64, true_or, or_true, true_and, and_true]
  refine q_eq (s_X12_isWord (by omega)) ?_
  rw [e18, e2]
  refine ⟨by unfold q_in; split <;> decide, fun h => q_mono (bad 1 (by decide)) ?_, fun h => ⟨h2, by omega, ?_⟩⟩
  · rintro r ⟨b1, b2⟩
    have k := q_in_0' h
    exact ⟨b1, fun _ => b2, fun h9 => by omega⟩
  have k := q_in_n0 h
  refine q_eq (s_X12_in (by omega)) ?_
  refine ⟨by unfold q_in; split <;> decide, fun hh => q_mono (bad 2 (by decide)) ?_, fun hh => ⟨h3, h2, by omega, ?_⟩⟩
  · rintro r ⟨b1, b2⟩
    have k2 := q_in_0' hh
    exact ⟨b1, fun h9 => by omega, fun _ => ⟨fun _ => b2, fun h9 => by omega⟩⟩
  have k2 := q_in_n0 hh
  refine q_eq (s_X12_in (by omega)) ?_
  refine ⟨by unfold q_in; split <;> decide, fun h4 => q_mono (bad 2 (by decide)) ?_, fun h4 => ?_⟩
  · rintro r ⟨b1, b2⟩
    have k3 := q_in_0' h4
    exact ⟨b1, fun h9 => by omega, fun _ => ⟨fun _ => b2, fun h9 => by omega⟩⟩
  · have k3 := q_in_n0 h4
    simp only [J_X12_over_53, q_g, q_b, q_let, q_ite, q_some, z32, z64, true_or, or_true, true_and, and_true]
    refine q_eq s_holds_0 ?_
    dsimp only
    refine ⟨by decide, fun _ => ?_, fun h9 => absurd rfl h9⟩
    refine q_mono (s_X12_laysTable (q_up_0 hS) hB) ?_
    rintro st2 ⟨d1, d2⟩
    have htb : e_bd 600000010000 (q_tab g x1 x2 x3) := q_tab_bd hB (by omega)
    have htI := e_I_le (K := 1000000000000000000) htb (by decide) (by decide)
    refine q_eq (s_X12_tableOf (by omega)) ?_
    rw [(d2 x1 x2 x3 (by omega) (by omega) (by omega) (by omega) (by omega) trivial).1]
    refine q_eq (s_X12_told (x1 := e_I 1000000000000000000 (q_tab g x1 x2 x3)) (by omega)) ?_
    exact ⟨q_K_of hS (fun x hx => by rw [d1 x (by omega) (by omega) (by omega), q_up_row (by omega)]) (fun j p q => by rw [d1 168 (by decide) (by decide) (by decide), z_up_n (by omega)]), fun h9 => by omega, fun _ => ⟨fun h9 => by omega, fun _ => ⟨by rw [d1 168 (by decide) (by decide) (by decide), z_up_at], e_told htb (by decide)⟩⟩⟩
theorem j_13 {g st : z_St} {f : Int → Int} {i : Int} (h : q_INV g st) (hf : ∀ j, z32 (f j)) : q_ok (JL_13 f i st) (fun st' => q_INV g st') := by
  have hB := h.2.1
  have hC := h.2.2.1
  have hf1 := hB.1.1
  have hw1 := hB.2.2.2.2.1.1
  have hR := fun s (hs : q_same g s) => s_X12_over hs hB (hf (i + 1)) (hf (i + 2)) (hf (i + 3))
  obtain ⟨x1, hx1⟩ : ∃ x1, f (i + 1) = x1 := ⟨_, rfl⟩
  obtain ⟨x2, hx2⟩ : ∃ x2, f (i + 2) = x2 := ⟨_, rfl⟩
  obtain ⟨x3, hx3⟩ : ∃ x3, f (i + 3) = x3 := ⟨_, rfl⟩
  have z1 : z32 x1 := hx1 ▸ hf (i + 1)
  have z2 : z32 x2 := hx2 ▸ hf (i + 2)
  have z3 : z32 x3 := hx3 ▸ hf (i + 3)
  have y2 : -2147483648 ≤ x2 ∧ x2 ≤ 2147483647 := z2
  rw [hx1, hx2, hx3] at hR
  unfold JL_13
  rw [hx1, hx2, hx3]
  have e24 := hC.2.2.2.2.1.1
  have e12 := hC.1.1
  by_cases c1 : 0 ≤ x1 ∧ x1 < g 168 18
  · have i1 := s_index_y (x := x1) (n := st 24 4) (st := st) ⟨z1, by rw [e24]; exact ⟨by omega, by omega⟩⟩ (by rw [e24]; exact c1)
    by_cases c2 : 0 ≤ x2 ∧ x2 < x3 ∧ x3 ≤ g 168 2
    · have htb : e_bd 600000010000 (q_tab g x1 x2 x3) := q_tab_bd hB (by omega)
      refine j_J (code := 0) (val := e_I (-1) (q_tab g x1 x2 x3)) (by decide) (fun _ => e_I_64 htb (by decide)) (l_y (X := J_X11_over x1 x2 x3 st) ?_ (fun q _ hq => by unfold J_L_over; rw [hq])) (fun s hs => q_mono (hR s hs.1) (fun q hq => ⟨hq.1, ((hq.2.2 c1).2 c2).1, fun _ => ((hq.2.2 c1).2 c2).2⟩))
      unfold J_X11_over
      refine q_xl i1 ?_
      refine q_xl (s_range_y ⟨z2, by decide, by rw [e12]; exact ⟨by omega, by omega⟩⟩ (by rw [e12]; omega)) ?_
      refine q_xl (s_range_y ⟨z3, ⟨by omega, by omega⟩, by rw [e12]; exact ⟨by omega, by omega⟩⟩ (by rw [e12]; omega)) ?_
      simp only [q_g, q_b, q_let, q_ite, q_some, z32, z64, true_or, or_true, true_and, and_true]
      refine q_mono (s_readyTable h) ?_
      rintro st1 ⟨a1, a2, a3, a4, a5⟩
      refine q_eq (s_X0_span (by omega)) ?_
      rw [a2.2.2.1 x1 x2 x3 (by omega) (by omega) (by omega) (by omega) (by omega)]
      exact q_eq (s_orNone htb (by decide)) ⟨_, rfl, a1, rfl⟩
    · refine j_J (code := 2) (val := 0) (by decide) (fun h9 => absurd h9 (by decide)) (l_n (X := J_X11_over x1 x2 x3 st) (e := 1) (by decide) ?_ (fun q he hq => by unfold J_L_over; rw [hq]; simp only [he]; rfl)) (fun s hs => q_mono (hR s hs.1) (fun q hq => ⟨hq.1, (hq.2.2 c1).1 c2, fun h9 => absurd h9 (by decide)⟩))
      unfold J_X11_over
      refine q_xl i1 ?_
      by_cases c3 : 0 ≤ x2 ∧ x2 ≤ g 168 2 - 1
      · refine q_xl (s_range_y ⟨z2, by decide, by rw [e12]; exact ⟨by omega, by omega⟩⟩ (by rw [e12]; omega)) ?_
        exact q_xr (s_range_n ⟨z3, ⟨by omega, by omega⟩, by rw [e12]; exact ⟨by omega, by omega⟩⟩ (by rw [e12]; omega)) ⟨_, rfl, h, rfl⟩
      · exact q_xr (s_range_n ⟨z2, by decide, by rw [e12]; exact ⟨by omega, by omega⟩⟩ (by rw [e12]; omega)) ⟨_, rfl, h, rfl⟩
  · refine j_J (code := 1) (val := 0) (by decide) (fun h9 => absurd h9 (by decide)) (l_n (X := J_X11_over x1 x2 x3 st) (e := 3) (by decide) ?_ (fun q he hq => by unfold J_L_over; rw [hq]; simp only [he]; rfl)) (fun s hs => q_mono (hR s hs.1) (fun q hq => ⟨hq.1, hq.2.1 c1, fun h9 => absurd h9 (by decide)⟩))
    unfold J_X11_over
    exact q_xr (s_index_n ⟨z1, by rw [e24]; exact ⟨by omega, by omega⟩⟩ (by rw [e24]; exact c1)) ⟨_, rfl, h, rfl⟩
