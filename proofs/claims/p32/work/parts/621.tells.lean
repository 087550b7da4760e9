-- WHAT IS TOLD: sum, shiftOf, price, cost, form, over: always, out of g alone
theorem a_sum {g st : z_St} (h : q_INV g st) {x b c d : Int} (z1 : z32 x) (hc : 0 ≤ x ∧ x ≤ 8) : q_ok (J_L_does 27 x b c d st) (q_ans g (q_sum g x)) := by
  have hB := h.2.1
  have hC := h.2.2.1
  have hv := q_sum_bd hB (x := x)
  have y1 : -2147483648 ≤ x ∧ x ≤ 2147483647 := z1
  show q_ok (z_xd (J_X11_sum x st) fun r => z_g (z32 r.1) <| J_L_does_472 r.1 r.2) _
  refine xd_y ?_ (fun q a b => fin_g a b ⟨by omega, by omega⟩)
  unfold J_X11_sum
  refine q_xl (s_range_y ⟨z1, by decide, by decide⟩ hc) ?_
  simp only [q_g, q_b, q_let, q_ite, q_some, z32, z64, true_or, or_true, true_and, and_true]
  refine ⟨by omega, fun h0 => ?_, fun h0 => ⟨fun h1 => ?_, fun h1 => ⟨fun h2 => ?_, fun h2 => ⟨fun h3 => ?_, fun h3 => ⟨fun h4 => ?_, fun h4 => ⟨fun h5 => ?_, fun h5 => ⟨fun h6 => ?_, fun h6 => ⟨fun h7 => ?_, fun h7 => ?_⟩⟩⟩⟩⟩⟩⟩⟩
  · exact ⟨_, rfl, h, by unfold q_sum; rw [if_neg (by omega), if_pos h0]; exact hC.1.1⟩
  · exact ⟨_, rfl, h, by unfold q_sum; rw [if_neg (by omega), if_neg h0, if_pos h1]; exact hC.2.2.1.1⟩
  · exact ⟨_, rfl, h, by unfold q_sum; rw [if_neg (by omega), if_neg h0, if_neg h1, if_pos h2]; exact hC.2.2.2.2.1.1⟩
  · exact ⟨_, rfl, h, by unfold q_sum; rw [if_neg (by omega), if_neg h0, if_neg h1, if_neg h2, if_pos h3]; exact hC.2.2.2.2.2.1⟩
  · exact ⟨_, rfl, h, by unfold q_sum; rw [if_neg (by omega), if_neg h0, if_neg h1, if_neg h2, if_neg h3, if_pos h4]; exact hC.2.2.2.1.1⟩
  · exact ⟨_, rfl, h, by unfold q_sum; rw [if_neg (by omega), if_neg h0, if_neg h1, if_neg h2, if_neg h3, if_neg h4, if_pos h5]; exact hC.2.1.1⟩
  · exact ⟨_, rfl, h, by unfold q_sum; rw [if_neg (by omega), if_neg h0, if_neg h1, if_neg h2, if_neg h3, if_neg h4, if_neg h5, if_pos h6]; exact hC.2.2.2.2.2.2.1⟩
  · exact ⟨_, rfl, h, by unfold q_sum; rw [if_neg (by omega), if_neg h0, if_neg h1, if_neg h2, if_neg h3, if_neg h4, if_neg h5, if_neg h6]; exact hC.2.2.2.2.2.2.2.1⟩
  · refine q_mono (s_readyRows h) ?_
    rintro st1 ⟨a1, a2, a3, a4, a5, a6⟩
    exact ⟨_, rfl, a1, by unfold q_sum; rw [if_pos (by omega)]; exact a3.2.2.1⟩
theorem a_shiftOf {g st : z_St} (h : q_INV g st) {x y c d : Int} (hx : z32 x) (hy : z32 y) (h1 : 0 ≤ x ∧ x ≤ 3) (h2 : 0 ≤ y ∧ y ≤ 2) : q_ok (J_L_does 26 x y c d st) (q_ans g (g 170 (3 * x + y))) := by
  have hB := h.2.1
  have hv := hB.2.1.2 (3 * x + y) (by omega) (by omega)
  have i1 := s_index_y (x := x) (n := 4) (st := st) ⟨hx, by decide⟩ (by omega)
  have e : J_X11_shiftOf x y st = some (.inl (g 170 (3 * x + y))) := by
    unfold J_X11_shiftOf
    rw [q_xs i1, q_xs (s_range_y ⟨hy, by decide, by decide⟩ h2), h.2.2.1.2.1.2 _ _ h1.1 (by omega) h2.1 (by omega)]
    refine q_of ?_
    simp only [q_g, q_b, q_let, q_ite, q_some, z32, z64, true_or, or_true, true_and, and_true]
    omega
  show q_ok (z_xd (J_X11_shiftOf x y st) fun r => z_g (z32 r) <| J_L_does_472 r st) _
  refine xd_v e ?_
  rw [q_g]
  exact ⟨⟨by omega, by omega⟩, _, rfl, h, rfl⟩
def tv_price (g : z_St) (x y : Int) : Int := if (-1 ≤ x ∧ x < g 168 18) ∧ -1 ≤ y ∧ y < g 168 18 then q_price g (q_ix (x + 1)) (q_ix (y + 1)) else -1002
theorem a_price {g st : z_St} (h : q_INV g st) {x1 x2 c d : Int} (z1 : z32 x1) (z2 : z32 x2) : q_ok (J_L_does 14 x1 x2 c d st) (q_ans g (tv_price g x1 x2)) := by
  have hB := h.2.1
  have hC := h.2.2.1
  have hw1 := hB.2.2.2.2.1.1
  have e24 := hC.2.2.2.2.1.1
  have z4 : z32 (st 24 4) := by rw [e24]; exact ⟨by omega, by omega⟩
  show q_ok (z_xd (J_X11_price x1 x2 st) fun r => J_L_does_472 r st) _
  unfold tv_price
  by_cases c : (-1 ≤ x1 ∧ x1 < g 168 18) ∧ -1 ≤ x2 ∧ x2 < g 168 18
  · rw [if_pos c]
    refine xd_v (V := q_price g (q_ix (x1 + 1)) (q_ix (x2 + 1))) ?_ ⟨_, rfl, h, rfl⟩
    unfold J_X11_price
    rw [q_xs (s_wordOr_y ⟨z1, z4⟩ (by rw [e24]; exact c.1)), q_xs (s_wordOr_y ⟨z2, z4⟩ (by rw [e24]; exact c.2)), s_X2_priceOf hC hB (by omega)]
    rfl
  · rw [if_neg c]
    refine xd_e (e := 3) (s := st) (by decide) ?_ h
    unfold J_X11_price
    by_cases c1 : -1 ≤ x1 ∧ x1 < g 168 18
    · rw [q_xs (s_wordOr_y ⟨z1, z4⟩ (by rw [e24]; exact c1)), q_xe (s_wordOr_n ⟨z2, z4⟩ (by rw [e24]; omega) (by omega))]
    · rw [q_xe (s_wordOr_n ⟨z1, z4⟩ (by rw [e24]; exact c1) (by omega))]
def tv_cost (g : z_St) (x1 x2 x3 : Int) : Int := if (0 ≤ x1 ∧ x1 < g 168 2) ∧ 0 ≤ x2 ∧ x2 < g 168 11 then (if 0 ≤ x3 ∧ x3 ≤ g 173 x2 then q_cost g x1 x2 x3 else -1003) else -1002
theorem a_cost {g st : z_St} (h : q_INV g st) {x1 x2 x3 d : Int} (z1 : z32 x1) (z2 : z32 x2) (z3 : z32 x3) : q_ok (J_L_does 9 x1 x2 x3 d st) (q_ans g (tv_cost g x1 x2 x3)) := by
  have hB := h.2.1
  have hC := h.2.2.1
  have hf1 := hB.1.1
  have hn1 := hB.2.2.1.1
  have n1 : z32 (st 1 2) := by rw [hC.1.1]; exact ⟨by omega, by omega⟩
  have n2 : z32 (st 24 1) := by rw [hC.2.2.1.1]; exact ⟨by omega, by omega⟩
  show q_ok (z_xd (J_X11_cost x1 x2 x3 st) fun r => J_L_does_472 r st) _
  unfold tv_cost
  by_cases c1 : 0 ≤ x1 ∧ x1 < g 168 2
  · have i1 := s_index_y (x := x1) (st := st) ⟨z1, n1⟩ (by rw [hC.1.1]; exact c1)
    by_cases c2 : 0 ≤ x2 ∧ x2 < g 168 11
    · rw [if_pos ⟨c1, c2⟩]
      have i2 := s_index_y (x := x2) (st := st) ⟨z2, n2⟩ (by rw [hC.2.2.1.1]; exact c2)
      have ha := hB.2.2.1.2.2.2.1 x2 (by omega) (by omega)
      have e5 := (hC.2.2.1.2.1 x2 (by omega) (by omega)).1
      have n3 : z32 (st (29 + 5 * x2) 5) := by rw [e5]; exact ⟨by omega, by omega⟩
      by_cases c3 : 0 ≤ x3 ∧ x3 ≤ g 173 x2
      · rw [if_pos c3]
        refine xd_v (V := q_cost g x1 x2 x3) ?_ ⟨_, rfl, h, rfl⟩
        unfold J_X11_cost
        rw [q_xs i1, q_xs i2]
        unfold z_g
        rw [if_pos (by omega), q_xs (s_range_y ⟨z3, by decide, n3⟩ (by rw [e5]; exact c3)), if_pos (by omega), s_X1_costBy hC hB (by omega)]
        rfl
      · rw [if_neg c3]
        refine xd_e (e := 1) (s := st) (by decide) ?_ h
        unfold J_X11_cost
        rw [q_xs i1, q_xs i2]
        unfold z_g
        rw [if_pos (by omega), q_xe (s_range_n ⟨z3, by decide, n3⟩ (by rw [e5]; exact c3))]
    · rw [if_neg (fun h9 => c2 h9.2)]
      refine xd_e (e := 3) (s := st) (by decide) ?_ h
      unfold J_X11_cost
      rw [q_xs i1, q_xe (s_index_n ⟨z2, n2⟩ (by rw [hC.2.2.1.1]; exact c2))]
  · rw [if_neg (fun h9 => c1 h9.1)]
    refine xd_e (e := 3) (s := st) (by decide) ?_ h
    unfold J_X11_cost
    rw [q_xe (s_index_n ⟨z1, n1⟩ (by rw [hC.1.1]; exact c1))]
noncomputable def tv_form (g : z_St) (x1 x2 x3 : Int) : Int := @ite _ (q_fc9 g x1 x2 x3) (Classical.propDecidable _) (q_form g (2 * x1 + x2) x3) (-1002)
theorem a_form {g st : z_St} (h : q_INV g st) {x1 x2 x3 d : Int} (z1 : z32 x1) (z2 : z32 x2) (z3 : z32 x3) : q_ok (J_L_does 8 x1 x2 x3 d st) (q_ans g (tv_form g x1 x2 x3)) := by
  have hB := h.2.1
  have hC := h.2.2.1
  have hw0 := hB.2.2.2.2.1
  have hw1 := hw0.1
  have e24 := hC.2.2.2.2.1.1
  have bad : ¬ q_fc9 g x1 x2 x3 → J_X11_form x1 x2 x3 st = some (.inr (3, st)) := fun hno => by
    unfold J_X11_form
    by_cases k1 : 0 ≤ x1 ∧ x1 < g 168 18
    · have hw2 := hw0.2.1 x1 (by omega) (by omega)
      rw [q_xs (s_index_y ⟨z1, by rw [e24]; exact ⟨by omega, by omega⟩⟩ (by rw [e24]; exact k1))]
      unfold z_g
      rw [if_pos (by omega)]
      by_cases k2 : 0 ≤ x2 ∧ x2 < g 178 x1
      · have hl := (hw0.2.2.2.2.1 (2 * x1 + x2) (by omega) (by omega)).1
        have el := (hC.2.2.2.2.1.2.2 (2 * x1 + x2) (by omega) (by omega)).1
        rw [q_xs (s_index_y ⟨z2, by rw [hC.2.2.2.2.1.2.1 x1 k1.1 (by omega)]; exact ⟨by omega, by omega⟩⟩ (by rw [hC.2.2.2.2.1.2.1 x1 k1.1 (by omega)]; exact k2)), s_X4_sayingOf (by omega)]
        unfold z_b
        dsimp only
        rw [if_pos (by unfold z_isSaying; omega)]
        refine q_xe (s_index_n ⟨z3, by rw [el]; exact ⟨by omega, by omega⟩⟩ (by rw [el]; exact fun h9 => hno ⟨k1, k2, h9⟩))
      · exact q_xe (s_index_n ⟨z2, by rw [hC.2.2.2.2.1.2.1 x1 k1.1 (by omega)]; exact ⟨by omega, by omega⟩⟩ (by rw [hC.2.2.2.2.1.2.1 x1 k1.1 (by omega)]; exact k2))
    · exact q_xe (s_index_n ⟨z1, by rw [e24]; exact ⟨by omega, by omega⟩⟩ (by rw [e24]; exact k1))
  show q_ok (z_xd (J_X11_form x1 x2 x3 st) fun r => z_g (z32 r) <| J_L_does_472 r st) _
  unfold tv_form
  by_cases hc : q_fc9 g x1 x2 x3
  · rw [if_pos hc]
    obtain ⟨k1, k2, k3⟩ := hc
    have hw2 := hw0.2.1 x1 (by omega) (by omega)
    have hl := (hw0.2.2.2.2.1 (2 * x1 + x2) (by omega) (by omega)).1
    have el := (hC.2.2.2.2.1.2.2 (2 * x1 + x2) (by omega) (by omega)).1
    have hsa := q_said_of hw0 (w := x1) (k := x2) (by omega)
    have hkb := q_kind_bd hB hsa (p := x3) k3
    refine xd_v (V := q_form g (2 * x1 + x2) x3) ?_ ?_
    · unfold J_X11_form
      rw [q_xs (s_index_y ⟨z1, by rw [e24]; exact ⟨by omega, by omega⟩⟩ (by rw [e24]; exact k1))]
      unfold z_g
      rw [if_pos (by omega), q_xs (s_index_y ⟨z2, by rw [hC.2.2.2.2.1.2.1 x1 k1.1 (by omega)]; exact ⟨by omega, by omega⟩⟩ (by rw [hC.2.2.2.2.1.2.1 x1 k1.1 (by omega)]; exact k2)), s_X4_sayingOf (by omega)]
      unfold z_b
      dsimp only
      rw [if_pos (by unfold z_isSaying; omega), q_xs (s_index_y ⟨z3, by rw [el]; exact ⟨by omega, by omega⟩⟩ (by rw [el]; exact k3)), s_X4_formAt hC hB hsa k3]
    · rw [q_g]
      exact ⟨⟨by omega, by omega⟩, _, rfl, h, rfl⟩
  · rw [if_neg hc]
    exact xd_e (e := 3) (s := st) (by decide) (bad hc) h
def tv_over (g : z_St) (x1 x2 x3 : Int) : Int := if 0 ≤ x1 ∧ x1 < g 168 18 then (if 0 ≤ x2 ∧ x2 < x3 ∧ x3 ≤ g 168 2 then e_I (-1) (q_tab g x1 x2 x3) else -1003) else -1002
theorem a_over {g st : z_St} (h : q_INV g st) {x1 x2 x3 d : Int} (z1 : z32 x1) (z2 : z32 x2) (z3 : z32 x3) (y2 : x2 < 2147483647) : q_ok (J_L_does 10 x1 x2 x3 d st) (q_ans g (tv_over g x1 x2 x3)) := by
  have hB := h.2.1
  have hC := h.2.2.1
  have hf1 := hB.1.1
  have hw1 := hB.2.2.2.2.1.1
  have e24 := hC.2.2.2.2.1.1
  have e12 := hC.1.1
  have y2 : -2147483648 ≤ x2 ∧ x2 ≤ 2147483647 := z2
  show q_ok (z_xd (J_X11_over x1 x2 x3 st) fun r => J_L_does_472 r.1 r.2) _
  unfold tv_over
  by_cases c1 : 0 ≤ x1 ∧ x1 < g 168 18
  · rw [if_pos c1]
    have i1 := s_index_y (x := x1) (n := st 24 4) (st := st) ⟨z1, by rw [e24]; exact ⟨by omega, by omega⟩⟩ (by rw [e24]; exact c1)
    by_cases c2 : 0 ≤ x2 ∧ x2 < x3 ∧ x3 ≤ g 168 2
    · rw [if_pos c2]
      have htb : e_bd 600000010000 (q_tab g x1 x2 x3) := q_tab_bd hB (by omega)
      refine xd_y ?_ (fun q a b => fin_y a b)
      unfold J_X11_over
      refine q_xl i1 ?_
      refine q_xl (s_range_y ⟨z2, by decide, by rw [e12]; exact ⟨by omega, by omega⟩⟩ (by rw [e12]; omega)) ?_
      refine q_xl (s_range_y ⟨z3, ⟨by omega, by omega⟩, by rw [e12]; exact ⟨by omega, by omega⟩⟩ (by rw [e12]; omega)) ?_
      simp only [q_g, q_b, q_let, q_ite, q_some, z32, z64, true_or, or_true, true_and, and_true]
      refine q_mono (s_readyTable h) ?_
      rintro st1 ⟨a1, a2, a3, a4, a5⟩
      refine q_eq (s_X0_span (by omega)) ?_
      rw [a2.2.2.1 x1 x2 x3 (by omega) (by omega) (by omega) (by omega) (by omega)]
      exact q_eq (s_orNone htb (by decide)) ⟨_, rfl, a1, rfl⟩
    · rw [if_neg c2]
      refine xd_n (e := 1) (by decide) ?_
      unfold J_X11_over
      refine q_xl i1 ?_
      by_cases c3 : 0 ≤ x2 ∧ x2 ≤ g 168 2 - 1
      · refine q_xl (s_range_y ⟨z2, by decide, by rw [e12]; exact ⟨by omega, by omega⟩⟩ (by rw [e12]; omega)) ?_
        exact q_xr (s_range_n ⟨z3, ⟨by omega, by omega⟩, by rw [e12]; exact ⟨by omega, by omega⟩⟩ (by rw [e12]; omega)) ⟨_, rfl, h, rfl⟩
      · exact q_xr (s_range_n ⟨z2, by decide, by rw [e12]; exact ⟨by omega, by omega⟩⟩ (by rw [e12]; omega)) ⟨_, rfl, h, rfl⟩
  · rw [if_neg c1]
    refine xd_n (e := 3) (by decide) ?_
    unfold J_X11_over
    exact q_xr (s_index_n ⟨z1, by rw [e24]; exact ⟨by omega, by omega⟩⟩ (by rw [e24]; exact c1)) ⟨_, rfl, h, rfl⟩
