-- THE CALLS: price, sum
theorem s_wordOr_y {x : Int} {st : z_St} (h : z32 x ∧ z32 (st 24 4)) (k : -1 ≤ x ∧ x < st 24 4) : J_X11_checkWordOrNone x st = some (.inl ()) := by
  have a : -2147483648 ≤ x ∧ x ≤ 2147483647 := h.1
  refine q_of ?_
  simp only [J_X11_checkWordOrNone, J_X11_checkWordOrNone_16, q_g, q_b, q_let, q_ite, q_some, z32, z64, true_or, or_true, true_and, and_true]
  refine ⟨⟨by omega, by decide, by decide⟩, fun _ => trivial, fun hn => ?_⟩
  exact q_xl (s_index_y h (by omega)) (q_some.mpr rfl)
theorem s_wordOr_n {x : Int} {st : z_St} (h : z32 x ∧ z32 (st 24 4)) (k : ¬ (-1 ≤ x ∧ x < st 24 4)) (h0 : 0 ≤ st 24 4) : J_X11_checkWordOrNone x st = some (.inr (3, st)) := by
  have a : -2147483648 ≤ x ∧ x ≤ 2147483647 := h.1
  refine q_of ?_
  simp only [J_X11_checkWordOrNone, J_X11_checkWordOrNone_16, q_g, q_b, q_let, q_ite, q_some, z32, z64, true_or, or_true, true_and, and_true]
  refine ⟨⟨by omega, by decide, by decide⟩, fun _ => by omega, fun hn => ?_⟩
  exact q_xr (s_index_n h (by omega)) rfl
theorem q_ix_bd {i : Int} (h : 0 ≤ i ∧ i < 6) : 0 ≤ q_ix i ∧ q_ix i < 6 := by unfold q_ix; split <;> omega
theorem s_X12_price {g st0 : z_St} (hS : q_same g st0) (hB : q_RB g) {x1 x2 : Int} (h1 : z32 x1) (h2 : z32 x2) : q_ok (J_X12_price x1 x2 st0) (fun r => q_K g st0 r.2 ∧ ((-1 ≤ x1 ∧ x1 < g 168 18) ∧ -1 ≤ x2 ∧ x2 < g 168 18 → r.2 168 0 = 0 ∧ r.1 = q_price g (q_ix (x1 + 1)) (q_ix (x2 + 1))) ∧ (¬ ((-1 ≤ x1 ∧ x1 < g 168 18) ∧ -1 ≤ x2 ∧ x2 < g 168 18) → r.2 168 0 = 1)) := by
  have hw1 := hB.2.2.2.2.1.1
  have a1 : -2147483648 ≤ x1 ∧ x1 ≤ 2147483647 := h1
  have a2 : -2147483648 ≤ x2 ∧ x2 ≤ 2147483647 := h2
  have e18 := hS.2 18 (by decide) (by decide)
  have bad : ¬ ((-1 ≤ x1 ∧ x1 < g 168 18) ∧ -1 ≤ x2 ∧ x2 < g 168 18) → q_ok (J_X12_price_22 x1 x2 1 st0) (fun r => q_K g st0 r.2 ∧ ((-1 ≤ x1 ∧ x1 < g 168 18) ∧ -1 ≤ x2 ∧ x2 < g 168 18 → r.2 168 0 = 0 ∧ r.1 = q_price g (q_ix (x1 + 1)) (q_ix (x2 + 1))) ∧ (¬ ((-1 ≤ x1 ∧ x1 < g 168 18) ∧ -1 ≤ x2 ∧ x2 < g 168 18) → r.2 168 0 = 1)) := fun hn => by
    simp only [J_X12_price_22, q_g, q_b, q_let, q_ite, q_some, z32, z64, true_or, or_true, true_and, and_true]
    refine q_eq (s_holds_p (by decide)) ?_
    dsimp only
    exact ⟨by decide, fun h9 => absurd h9 (by decide), fun _ => ⟨q_bad hS, fun h9 => absurd h9 hn, fun _ => z_up_at⟩⟩
  simp only [J_X12_price, J_X12_price_21, q_g, q_b, q_let, q_ite, q_some, z32, z64, true_or, or_true, true_and, and_true]
  refine q_eq (s_X12_isEither (by omega)) ?_
  rw [e18]
  refine ⟨by unfold q_in; split <;> decide, fun h => bad (fun hh => q_in_0' h ⟨hh.1.1, by omega⟩), fun h => ?_⟩
  have k1 := q_in_n0 h
  refine q_eq (s_X12_isEither (by omega)) ?_
  rw [e18]
  refine ⟨by unfold q_in; split <;> decide, fun h => bad (fun hh => q_in_0' h ⟨hh.2.1, by omega⟩), fun h => ?_⟩
  have k2 := q_in_n0 h
  have p5 : ∀ a b : Int, (0 ≤ a ∧ a < 6 ∧ 0 ≤ b ∧ b < 6) → a = q_ix (x1 + 1) → b = q_ix (x2 + 1) → J_X12_priceOf a b (z_up st0 168 0 0) = some (q_price g (q_ix (x1 + 1)) (q_ix (x2 + 1))) := fun a b hh e1 e2 => by
    rw [s_X12_priceOf (q_up_0 hS) hB.2.2.2.2.2.2 hB.2.2.2.2.2.1 hh, e1, e2]
  simp only [J_X12_price_22, J_X12_price_42, J_X12_price_51, q_g, q_b, q_let, q_ite, q_some, z32, z64, true_or, or_true, true_and, and_true]
  refine q_eq s_holds_0 ?_
  dsimp only
  have fin : q_K g st0 (z_up st0 168 0 0) ∧ ((-1 ≤ x1 ∧ x1 < g 168 18) ∧ -1 ≤ x2 ∧ x2 < g 168 18 → z_up st0 168 0 0 168 0 = 0 ∧ q_price g (q_ix (x1 + 1)) (q_ix (x2 + 1)) = q_price g (q_ix (x1 + 1)) (q_ix (x2 + 1))) ∧ (¬ ((-1 ≤ x1 ∧ x1 < g 168 18) ∧ -1 ≤ x2 ∧ x2 < g 168 18) → z_up st0 168 0 0 168 0 = 1) := ⟨q_bad hS, fun _ => ⟨z_up_at, rfl⟩, fun h9 => by omega⟩
  refine ⟨by decide, fun _ => ⟨h1, fun n1 => ⟨h2, fun n2 => ?_, fun n2 => ?_⟩, fun n1 => ⟨h2, fun n2 => ?_, fun n2 => ?_⟩⟩, fun h9 => absurd rfl h9⟩
  · exact q_eq (p5 5 5 (by omega) (by unfold q_ix; omega) (by unfold q_ix; omega)) fin
  · exact q_eq (p5 5 x2 (by omega) (by unfold q_ix; omega) (by unfold q_ix; omega)) fin
  · exact q_eq (p5 x1 5 (by omega) (by unfold q_ix; omega) (by unfold q_ix; omega)) fin
  · exact q_eq (p5 x1 x2 (by omega) (by unfold q_ix; omega) (by unfold q_ix; omega)) fin
theorem j_17 {g st : z_St} {f : Int → Int} {i : Int} (h : q_INV g st) (hf : ∀ j, z32 (f j)) : q_ok (JL_17 f i st) (fun st' => q_INV g st') := by
  have hB := h.2.1
  have hC := h.2.2.1
  have hw1 := hB.2.2.2.2.1.1
  have e24 := hC.2.2.2.2.1.1
  have hR := fun s (hs : q_same g s) => s_X12_price hs hB (hf (i + 1)) (hf (i + 2))
  obtain ⟨x1, hx1⟩ : ∃ x1, f (i + 1) = x1 := ⟨_, rfl⟩
  obtain ⟨x2, hx2⟩ : ∃ x2, f (i + 2) = x2 := ⟨_, rfl⟩
  have z1 : z32 x1 := hx1 ▸ hf (i + 1)
  have z2 : z32 x2 := hx2 ▸ hf (i + 2)
  rw [hx1, hx2] at hR
  unfold JL_17
  rw [hx1, hx2]
  have z4 : z32 (st 24 4) := by rw [e24]; exact ⟨by omega, by omega⟩
  by_cases c : (-1 ≤ x1 ∧ x1 < g 168 18) ∧ -1 ≤ x2 ∧ x2 < g 168 18
  · have hp := q_price_bd hB.2.2.2.2.2.2 hB.2.2.2.2.2.1 (a := q_ix (x1 + 1)) (b := q_ix (x2 + 1)) (by have h1 := q_ix_bd (i := x1 + 1) (by omega); have h2 := q_ix_bd (i := x2 + 1) (by omega); omega)
    refine j_J (code := 0) (val := q_price g (q_ix (x1 + 1)) (q_ix (x2 + 1))) (by decide) (fun _ => ⟨by omega, by omega⟩) (l_yI h ?_) (fun s hs => q_mono (hR s hs.1) (fun q hq => ⟨hq.1, (hq.2.1 c).1, fun _ => (hq.2.1 c).2⟩))
    unfold J_L_price J_X11_price
    rw [q_xs (s_wordOr_y ⟨z1, z4⟩ (by rw [e24]; exact c.1)), q_xs (s_wordOr_y ⟨z2, z4⟩ (by rw [e24]; exact c.2)), s_X2_priceOf hC hB (by omega)]
    rfl
  · refine j_J (code := 1) (val := 0) (by decide) (fun h9 => absurd h9 (by decide)) (l_nI h (by decide) ?_) (fun s hs => q_mono (hR s hs.1) (fun q hq => ⟨hq.1, hq.2.2 c, fun h9 => absurd h9 (by decide)⟩))
    unfold J_L_price J_X11_price
    by_cases c1 : -1 ≤ x1 ∧ x1 < g 168 18
    · rw [q_xs (s_wordOr_y ⟨z1, z4⟩ (by rw [e24]; exact c1)), q_xe (s_wordOr_n ⟨z2, z4⟩ (by rw [e24]; omega) (by omega))]
      rfl
    · rw [q_xe (s_wordOr_n ⟨z1, z4⟩ (by rw [e24]; exact c1) (by omega))]
      rfl
-- sum
def q_sum (g : z_St) (x : Int) : Int := if x = 8 then (e_cnt (fun k => (q_wl g k).isSome) (q_len g) : Int) else if x = 0 then g 168 2 else if x = 1 then g 168 11 else if x = 2 then g 168 18 else if x = 3 then g 168 20 else if x = 4 then g 168 13 else if x = 5 then g 168 4 else if x = 6 then g 168 21 else g 168 22
theorem q_sum_bd {g : z_St} (hB : q_RB g) {x : Int} : 0 ≤ q_sum g x ∧ q_sum g x ≤ 99999 := by
  have hl := q_len_le hB
  have hc := e_cnt_le (f := fun k => (q_wl g k).isSome) (q_len g)
  have h1 := hB.1.1
  have h2 := hB.2.1.1
  have h3 := hB.2.2.1.1
  have h4 := hB.2.2.2.1.1
  have h5 := hB.2.2.2.2.1.1
  have h6 := hB.2.2.2.2.2.1
  have h7 := hB.2.2.2.2.2.2.1
  have h61 := h6.1
  have h62 := h6.2
  unfold q_sum
  (repeat' split) <;> omega
theorem s_X12_sum {g st0 : z_St} (hS : q_same g st0) (hB : q_RB g) {x : Int} (hx : z32 x) : q_ok (J_X12_sum x st0) (fun r => q_K g st0 r.2 ∧ (0 ≤ x ∧ x ≤ 8 → r.2 168 0 = 0 ∧ r.1 = q_sum g x) ∧ (¬ (0 ≤ x ∧ x ≤ 8) → r.2 168 0 = 1)) := by
  have a1 : -2147483648 ≤ x ∧ x ≤ 2147483647 := hx
  simp only [J_X12_sum, q_g, q_b, q_let, q_ite, q_some, z32, z64, true_or, or_true, true_and, and_true]
  refine ⟨hx, ?_⟩
  refine q_eq (s_X12_in (by omega)) ?_
  refine ⟨by unfold q_in; split <;> decide, fun h => ?_, fun h => ?_⟩
  · have k := q_in_0' h
    simp only [J_X12_sum_19, q_g, q_b, q_let, q_ite, q_some, z32, z64, true_or, or_true, true_and, and_true]
    refine q_eq (s_holds_p (by decide)) ?_
    dsimp only
    exact ⟨by decide, fun h9 => absurd h9 (by decide), fun _ => ⟨q_bad hS, fun h9 => absurd h9 k, fun _ => z_up_at⟩⟩
  · have k := q_in_n0 h
    simp only [J_X12_sum_19, J_X12_sum_167, q_g, q_b, q_let, q_ite, q_some, z32, z64, true_or, or_true, true_and, and_true]
    refine q_eq s_holds_0 ?_
    dsimp only
    have hS1 := q_up_0 (v := 0) hS
    have e : ∀ j, 1 ≤ j → j ≤ 22 → z_up st0 168 0 0 168 j = g 168 j := hS1.2
    have fin : ∀ j, 1 ≤ j → j ≤ 22 → q_sum g x = g 168 j → q_K g st0 (z_up st0 168 0 0) ∧ (0 ≤ x ∧ x ≤ 8 → z_up st0 168 0 0 168 0 = 0 ∧ z_up st0 168 0 0 168 j = q_sum g x) ∧ (¬ (0 ≤ x ∧ x ≤ 8) → z_up st0 168 0 0 168 0 = 1) := fun j p q hj => ⟨q_bad hS, fun _ => ⟨z_up_at, by rw [e j p q, hj]⟩, fun h9 => absurd k h9⟩
    refine ⟨by decide, fun _ => ⟨by omega, fun h8 => ?_, fun h8 => ⟨by omega, fun h0 => ?_, fun h0 => ⟨by omega, fun h1 => ?_, fun h1 => ⟨by omega, fun h2 => ?_, fun h2 => ⟨by omega, fun h3 => ?_, fun h3 => ⟨by omega, fun h4 => ?_, fun h4 => ⟨by omega, fun h5 => ?_, fun h5 => ⟨by omega, fun h6 => ?_, fun h6 => ?_⟩⟩⟩⟩⟩⟩⟩⟩, fun h9 => absurd rfl h9⟩
    · refine q_mono (s_X12_laysRows (q_up_0 hS) hB) ?_
      rintro ⟨b, st⟩ ⟨c1, c2, c3, c4, c5⟩
      dsimp only at c1 c2 c3 c4 c5 ⊢
      have hR : q_rowsOK g (q_rows g) st := c4
      refine q_mono (s_X12_sum8 hB hR) ?_
      rintro r rfl
      refine ⟨q_K_of hS (fun y a => by rw [c1 y (by omega), q_up_row (by omega)]) (fun j a b => by rw [c2 j (by omega), z_up_n (by omega)]), fun _ => ⟨by rw [c2 0 (by decide), z_up_at], ?_⟩, fun h9 => absurd k h9⟩
      unfold q_sum; rw [if_pos h8]
    · exact fin 2 (by decide) (by decide) (by unfold q_sum; rw [if_neg h8, if_pos h0])
    · exact fin 11 (by decide) (by decide) (by unfold q_sum; rw [if_neg h8, if_neg h0, if_pos h1])
    · exact fin 18 (by decide) (by decide) (by unfold q_sum; rw [if_neg h8, if_neg h0, if_neg h1, if_pos h2])
    · exact fin 20 (by decide) (by decide) (by unfold q_sum; rw [if_neg h8, if_neg h0, if_neg h1, if_neg h2, if_pos h3])
    · exact fin 13 (by decide) (by decide) (by unfold q_sum; rw [if_neg h8, if_neg h0, if_neg h1, if_neg h2, if_neg h3, if_pos h4])
    · exact fin 4 (by decide) (by decide) (by unfold q_sum; rw [if_neg h8, if_neg h0, if_neg h1, if_neg h2, if_neg h3, if_neg h4, if_pos h5])
    · exact fin 21 (by decide) (by decide) (by unfold q_sum; rw [if_neg h8, if_neg h0, if_neg h1, if_neg h2, if_neg h3, if_neg h4, if_neg h5, if_pos h6])
    · exact fin 22 (by decide) (by decide) (by unfold q_sum; rw [if_neg h8, if_neg h0, if_neg h1, if_neg h2, if_neg h3, if_neg h4, if_neg h5, if_neg h6])
theorem j_28 {g st : z_St} {f : Int → Int} {i : Int} (h : q_INV g st) (hf : ∀ j, z32 (f j)) : q_ok (JL_28 f i st) (fun st' => q_INV g st') := by
  have hB := h.2.1
  have hC := h.2.2.1
  have hR := fun s (hs : q_same g s) => s_X12_sum hs hB (hf (i + 1))
  obtain ⟨x1, hx1⟩ : ∃ x1, f (i + 1) = x1 := ⟨_, rfl⟩
  have z1 : z32 x1 := hx1 ▸ hf (i + 1)
  have y1 : -2147483648 ≤ x1 ∧ x1 ≤ 2147483647 := z1
  rw [hx1] at hR
  unfold JL_28
  rw [hx1]
  by_cases c : 0 ≤ x1 ∧ x1 ≤ 8
  · have hv := q_sum_bd hB (x := x1)
    refine j_I (code := 0) (val := q_sum g x1) (by decide) (fun _ => ⟨by omega, by omega⟩) (l_y (X := J_X11_sum x1 st) ?_ (fun q h9 hq => by unfold J_L_sum; rw [hq]; show z_g (z32 q.1) _ = _; unfold z_g; rw [if_pos (show z32 q.1 from by rw [h9]; exact ⟨by omega, by omega⟩)])) (fun s hs => q_mono (hR s hs.1) (fun q hq => ⟨hq.1, (hq.2.1 c).1, fun _ => (hq.2.1 c).2⟩))
    unfold J_X11_sum
    refine q_xl (s_range_y ⟨z1, by decide, by decide⟩ c) ?_
    simp only [q_g, q_b, q_let, q_ite, q_some, z32, z64, true_or, or_true, true_and, and_true]
    refine ⟨by omega, fun h0 => ?_, fun h0 => ⟨fun h1 => ?_, fun h1 => ⟨fun h2 => ?_, fun h2 => ⟨fun h3 => ?_, fun h3 => ⟨fun h4 => ?_, fun h4 => ⟨fun h5 => ?_, fun h5 => ⟨fun h6 => ?_, fun h6 => ⟨fun h7 => ?_, fun h7 => ?_⟩⟩⟩⟩⟩⟩⟩⟩
    · exact ⟨_, rfl, h, by unfold q_sum; rw [if_neg (by omega), if_pos h0]; exact hC.1.1⟩
    · exact ⟨_, rfl, h, by unfold q_sum; rw [if_neg (by omega), if_neg h0, if_pos h1]; exact hC.2.2.1.1⟩
    · exact ⟨_, rfl, h, by unfold q_sum; rw [if_neg (by omega), if_neg h0, if_neg h1, if_pos h2]; exact hC.2.2.2.2.1.1⟩
    · exact ⟨_, rfl, h, by unfold q_sum; rw [if_neg (by omega), if_neg h0, if_neg h1, if_neg h2, if_pos h3]; exact hC.2.2.2.2.2.1⟩
    · exact ⟨_, rfl, h, by unfold q_sum; rw [if_neg (by omega), if_neg h0, if_neg h1, if_neg h2, if_neg h3, if_pos h4]; exact hC.2.2.2.1.1⟩
    · exact ⟨_, rfl, h, by unfold q_sum; rw [if_neg (by omega), if_neg h0, if_neg h1, if_neg h2, if_neg h3, if_neg h4, if_pos h5]; exact hC.2.1.1⟩
    · exact ⟨_, rfl, h, by unfold q_sum; rw [if_neg (by omega), if_neg h0, if_neg h1, if_neg h2, if_neg h3, if_neg h4, if_neg h5, if_pos h6]; exact hC.2.2.2.2.2.2.1⟩
    · exact ⟨_, rfl, h, by unfold q_sum; rw [if_neg (by omega), if_neg h0, if_neg h1, if_neg h2, if_neg h3, if_neg h4, if_neg h5, if_neg h6]; exact hC.2.2.2.2.2.2.2.1⟩
    · refine q_mono (s_readyRows h) ?_
      rintro st1 ⟨a1, a2, a3, a4, a5, a6⟩
      exact ⟨_, rfl, a1, by unfold q_sum; rw [if_pos (by omega)]; exact a3.2.2.1⟩
  · refine j_I (code := 1) (val := 0) (by decide) (fun h9 => absurd h9 (by decide)) (l_n (X := J_X11_sum x1 st) (e := 1) (by decide) ?_ (fun q he hq => by unfold J_L_sum; rw [hq]; simp only [he]; rfl)) (fun s hs => q_mono (hR s hs.1) (fun q hq => ⟨hq.1, hq.2.2 c, fun h9 => absurd h9 (by decide)⟩))
    unfold J_X11_sum
    exact q_xr (s_range_n ⟨z1, by decide, by decide⟩ c) ⟨_, rfl, h, rfl⟩
