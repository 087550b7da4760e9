-- THE CALLS: shiftOf, form, cost, price, over, sum
theorem l_yI {g st : z_St} {L : Option (Int × z_St)} {val : Int} (hI : q_INV g st) (hL : L = some (0, z_up st 199 0 val)) : q_ok L (fun r => q_INV g r.2 ∧ r.1 = 0 ∧ ((0 : Int) = 0 → r.2 199 0 = val)) := ⟨_, hL, q_INV_199 hI, rfl, fun _ => by show z_up st 199 0 val 199 0 = val; rw [z_up_at]⟩
theorem l_nI {g st : z_St} {L : Option (Int × z_St)} {code val : Int} (hI : q_INV g st) (hcode : ¬ code = 0) (hL : L = some (code, st)) : q_ok L (fun r => q_INV g r.2 ∧ r.1 = code ∧ (code = 0 → r.2 199 0 = val)) := ⟨_, hL, hI, rfl, fun h9 => absurd h9 hcode⟩
/-- the reference says at once what is wrong -/
theorem q_bad {g st0 : z_St} (hS : q_same g st0) {s0 : Int} : q_K g st0 (z_up st0 168 0 s0) := q_K_of hS (fun x a => q_up_row (by omega)) (fun j a b => z_up_n (by omega))
theorem q_xs {α β : Type} {x : Option (z_R α)} {v : α} {f : α → Option (z_R β)} (h : x = some (.inl v)) : z_x x f = f v := by unfold z_x; rw [h]
theorem q_xe {α β : Type} {x : Option (z_R α)} {q : Nat × z_St} {f : α → Option (z_R β)} (h : x = some (.inr q)) : z_x x f = some (.inr q) := by unfold z_x; rw [h]
theorem q_inv {α : Type} {x : Option α} {v : α} (h : q_ok x (fun w => w = v)) : x = some v := q_of h
theorem s_X12_shiftOf {g st0 : z_St} (hS : q_same g st0) (hB : q_RB g) {x1 x2 : Int} (h1 : z32 x1) (h2 : z32 x2) : q_ok (J_X12_shiftOf x1 x2 st0) (fun r => q_K g st0 r.2 ∧ r.2 168 0 = (if 0 ≤ x1 ∧ x1 ≤ 3 then if 0 ≤ x2 ∧ x2 ≤ 2 then 0 else 2 else 1) ∧ ((0 ≤ x1 ∧ x1 ≤ 3) ∧ 0 ≤ x2 ∧ x2 ≤ 2 → r.1 = g 170 (3 * x1 + x2))) := by
  have a1 : -2147483648 ≤ x1 ∧ x1 ≤ 2147483647 := h1
  have a2 : -2147483648 ≤ x2 ∧ x2 ≤ 2147483647 := h2
  simp only [J_X12_shiftOf, J_X12_shiftOf_36, q_g, q_b, q_let, q_ite, q_some, z32, z64, true_or, or_true, true_and, and_true]
  refine ⟨h1, ?_⟩
  refine q_eq (s_X12_in (by omega)) ?_
  refine ⟨by unfold q_in; split <;> decide, fun h => ?_, fun h => ⟨h2, ?_⟩⟩
  · have k := q_in_0' h
    refine q_eq (s_holds_p (by decide)) ?_
    dsimp only
    exact ⟨by decide, fun h9 => absurd h9 (by decide), fun _ => ⟨q_bad hS, by rw [z_up_at, if_neg k], fun h9 => absurd h9.1 k⟩⟩
  · have k := q_in_n0 h
    refine q_eq (s_X12_in (by omega)) ?_
    refine ⟨by unfold q_in; split <;> decide, fun hh => ?_, fun hh => ?_⟩
    · have k2 := q_in_0' hh
      refine q_eq (s_holds_p (by decide)) ?_
      dsimp only
      exact ⟨by decide, fun h9 => absurd h9 (by decide), fun _ => ⟨q_bad hS, by rw [z_up_at, if_pos k, if_neg k2], fun h9 => absurd h9.2 k2⟩⟩
    · have k2 := q_in_n0 hh
      refine q_eq s_holds_0 ?_
      dsimp only
      exact ⟨by decide, fun _ => ⟨by omega, q_bad hS, by rw [z_up_at, if_pos k, if_pos k2], fun _ => by rw [q_up_row (by decide), hS.1 170 (by decide) (by decide)]⟩, fun h9 => absurd rfl h9⟩
theorem j_4 {g st : z_St} {f : Int → Int} {i : Int} (h : q_INV g st) (hf : ∀ j, z32 (f j)) : q_ok (JL_4 f i st) (fun st' => q_INV g st') := by
  have hB := h.2.1
  have hR := fun s (hs : q_same g s) => s_X12_shiftOf hs hB (hf (i + 1)) (hf (i + 2))
  by_cases h1 : 0 ≤ f (i + 1) ∧ f (i + 1) ≤ 3
  · have i1 := s_index_y (x := f (i + 1)) (n := 4) (st := st) ⟨hf (i + 1), by decide⟩ (by omega)
    by_cases h2 : 0 ≤ f (i + 2) ∧ f (i + 2) ≤ 2
    · have hv := hB.2.1.2 (3 * f (i + 1) + f (i + 2)) (by omega) (by omega)
      refine j_I (code := 0) (val := g 170 (3 * f (i + 1) + f (i + 2))) (by decide) (fun _ => ⟨by omega, by omega⟩) (l_yI h ?_) (fun s hs => q_mono (hR s hs.1) (fun q hq => ⟨hq.1, by rw [hq.2.1, if_pos h1, if_pos h2], fun _ => hq.2.2 ⟨h1, h2⟩⟩))
      have e : J_X11_shiftOf (f (i + 1)) (f (i + 2)) st = some (.inl (g 170 (3 * f (i + 1) + f (i + 2)))) := by
        unfold J_X11_shiftOf
        rw [q_xs i1, q_xs (s_range_y ⟨hf (i + 2), by decide, by decide⟩ h2), h.2.2.1.2.1.2 _ _ h1.1 (by omega) h2.1 (by omega)]
        refine q_of ?_
        simp only [q_g, q_b, q_let, q_ite, q_some, z32, z64, true_or, or_true, true_and, and_true]
        omega
      unfold J_L_shiftOf
      rw [e]
      show z_g (z32 (g 170 (3 * f (i + 1) + f (i + 2)))) _ = _
      unfold z_g
      rw [if_pos (show z32 (g 170 (3 * f (i + 1) + f (i + 2))) from ⟨by omega, by omega⟩)]
    · refine j_I (code := 2) (val := 0) (by decide) (fun h9 => absurd h9 (by decide)) (l_nI h (by decide) ?_) (fun s hs => q_mono (hR s hs.1) (fun q hq => ⟨hq.1, by rw [hq.2.1, if_pos h1, if_neg h2], fun h9 => absurd h9 (by decide)⟩))
      have e : J_X11_shiftOf (f (i + 1)) (f (i + 2)) st = some (.inr (1, st)) := by
        unfold J_X11_shiftOf
        rw [q_xs i1, q_xe (s_range_n ⟨hf (i + 2), by decide, by decide⟩ h2)]
      unfold J_L_shiftOf
      rw [e]; rfl
  · refine j_I (code := 1) (val := 0) (by decide) (fun h9 => absurd h9 (by decide)) (l_nI h (by decide) ?_) (fun s hs => q_mono (hR s hs.1) (fun q hq => ⟨hq.1, by rw [hq.2.1, if_neg h1], fun h9 => absurd h9 (by decide)⟩))
    have e : J_X11_shiftOf (f (i + 1)) (f (i + 2)) st = some (.inr (3, st)) := by
      unfold J_X11_shiftOf
      rw [q_xe (s_index_n (n := 4) ⟨hf (i + 1), by decide⟩ (by omega))]
    unfold J_L_shiftOf
    rw [e]; rfl
/-- is there such a SOUND in the SAYING? -/
def q_fc9 (g : z_St) (x1 x2 x3 : Int) : Prop := (0 ≤ x1 ∧ x1 < g 168 18) ∧ (0 ≤ x2 ∧ x2 < g 178 x1) ∧ 0 ≤ x3 ∧ x3 < g 179 (2 * x1 + x2)
theorem s_X12_form {g st0 : z_St} (hS : q_same g st0) (hB : q_RB g) {x1 x2 x3 : Int} (h1 : z32 x1) (h2 : z32 x2) (h3 : z32 x3) : q_ok (J_X12_form x1 x2 x3 st0) (fun r => q_K g st0 r.2 ∧ (q_fc9 g x1 x2 x3 → r.2 168 0 = 0 ∧ r.1 = q_form g (2 * x1 + x2) x3) ∧ (¬ q_fc9 g x1 x2 x3 → r.2 168 0 = 1)) := by
  have hw0 := hB.2.2.2.2.1
  have hw1 := hw0.1
  have a1 : -2147483648 ≤ x1 ∧ x1 ≤ 2147483647 := h1
  have a2 : -2147483648 ≤ x2 ∧ x2 ≤ 2147483647 := h2
  have a3 : -2147483648 ≤ x3 ∧ x3 ≤ 2147483647 := h3
  have e18 := hS.2 18 (by decide) (by decide)
  have bad : ¬ q_fc9 g x1 x2 x3 → q_ok (J_X12_form_68 x1 x2 x3 1 st0) (fun r => q_K g st0 r.2 ∧ (q_fc9 g x1 x2 x3 → r.2 168 0 = 0 ∧ r.1 = q_form g (2 * x1 + x2) x3) ∧ (¬ q_fc9 g x1 x2 x3 → r.2 168 0 = 1)) := fun hno => by
    simp only [J_X12_form_68, q_g, q_b, q_let, q_ite, q_some, z32, z64, true_or, or_true, true_and, and_true]
    refine q_eq (s_holds_p (by decide)) ?_
    dsimp only
    exact ⟨by decide, fun h9 => absurd h9 (by decide), fun _ => ⟨q_bad hS, fun h9 => absurd h9 hno, fun _ => z_up_at⟩⟩
  simp only [J_X12_form, J_X12_form_54, J_X12_form_55, q_g, q_b, q_let, q_ite, q_some, z32, z64, true_or, or_true, true_and, and_true]
  refine q_eq (s_X12_isWord (by omega)) ?_
  rw [e18, hS.1 178 (by decide) (by decide), hS.1 179 (by decide) (by decide)]
  refine ⟨by unfold q_in; split <;> decide, fun h => ⟨by decide, fun _ => bad (fun h9 => by have := q_in_0' h; have := h9.1; omega), fun h9 => by first | exact absurd rfl h9 | exact absurd trivial h9⟩, fun h => ⟨h2, ?_⟩⟩
  have k := q_in_n0 h
  have hw2 := hw0.2.1 x1 (by omega) (by omega)
  refine ⟨by omega, by omega, ?_⟩
  refine q_eq (s_X12_in (by omega)) ?_
  refine ⟨by unfold q_in; split <;> decide, fun hh => ⟨by decide, fun _ => bad (fun h9 => by have := q_in_0' hh; have := h9.2.1; omega), fun h9 => by first | exact absurd rfl h9 | exact absurd trivial h9⟩, fun hh => ⟨h3, ?_⟩⟩
  have k2 := q_in_n0 hh
  have hl := (hw0.2.2.2.2.1 (2 * x1 + x2) (by omega) (by omega)).1
  refine ⟨by omega, by omega, ?_⟩
  refine q_eq (s_X12_in (by omega)) ?_
  refine ⟨by unfold q_in; split <;> decide, fun h4 => ⟨by decide, fun _ => bad (fun h9 => by have := q_in_0' h4; have := h9.2.2; omega), fun h9 => by first | exact absurd rfl h9 | exact absurd trivial h9⟩, fun h4 => ⟨by decide, fun h9 => absurd h9 (by decide), fun _ => ?_⟩⟩
  have k3 := q_in_n0 h4
  have hyes : q_fc9 g x1 x2 x3 := ⟨by omega, by omega, by omega⟩
  simp only [J_X12_form_68, q_g, q_b, q_let, q_ite, q_some, z32, z64, true_or, or_true, true_and, and_true]
  refine q_eq s_holds_0 ?_
  dsimp only
  refine ⟨by decide, fun _ => ?_, fun h9 => absurd rfl h9⟩
  exact q_eq (s_X12_formOf (q_up_0 hS) hB.2.2.1 hw0 (by omega)) ⟨q_bad hS, fun _ => ⟨z_up_at, rfl⟩, fun h9 => absurd hyes h9⟩
theorem j_11 {g st : z_St} {f : Int → Int} {i : Int} (h : q_INV g st) (hf : ∀ j, z32 (f j)) : q_ok (JL_11 f i st) (fun st' => q_INV g st') := by
  have hB := h.2.1
  have hC := h.2.2.1
  have hw0 := hB.2.2.2.2.1
  have hw1 := hw0.1
  have e24 := hC.2.2.2.2.1.1
  have hR := fun s (hs : q_same g s) => s_X12_form hs hB (hf (i + 1)) (hf (i + 2)) (hf (i + 3))
  obtain ⟨x1, hx1⟩ : ∃ x1, f (i + 1) = x1 := ⟨_, rfl⟩
  obtain ⟨x2, hx2⟩ : ∃ x2, f (i + 2) = x2 := ⟨_, rfl⟩
  obtain ⟨x3, hx3⟩ : ∃ x3, f (i + 3) = x3 := ⟨_, rfl⟩
  have z1 : z32 x1 := hx1 ▸ hf (i + 1)
  have z2 : z32 x2 := hx2 ▸ hf (i + 2)
  have z3 : z32 x3 := hx3 ▸ hf (i + 3)
  rw [hx1, hx2, hx3] at hR
  have bad : ¬ q_fc9 g x1 x2 x3 → J_X11_form x1 x2 x3 st = some (.inr (3, st)) := fun hno => by
    unfold J_X11_form
    by_cases k1 : 0 ≤ x1 ∧ x1 < g 168 18
    · have hw2 := hw0.2.1 x1 (by omega) (by omega)
      rw [q_xs (s_index_y ⟨z1, by rw [e24]; exact ⟨by omega, by omega⟩⟩ (by rw [e24]; exact k1))]
      unfold z_g
      rw [if_pos (by omega)]
      by_cases k2 : 0 ≤ x2 ∧ x2 < g 178 x1
      · have hl := (hw0.2.2.2.2.1 (2 * x1 + x2) (by omega) (by omega)).1
        have el := (hC.2.2.2.2.1.2.2 (2 * x1 + x2) (by omega) (by omega)).1
        rw [q_xs (s_index_y ⟨z2, by rw [hC.2.2.2.2.1.2.1 x1 k1.1 (by omega)]; exact ⟨by omega, by omega⟩⟩ (by rw [hC.2.2.2.2.1.2.1 x1 k1.1 (by omega)]; exact k2)), s_X4_sayingOf (by omega)]
        unfold z_b
        dsimp only
        rw [if_pos (by unfold z_isSaying; omega)]
        refine q_xe (s_index_n ⟨z3, by rw [el]; exact ⟨by omega, by omega⟩⟩ (by rw [el]; exact fun h9 => hno ⟨k1, k2, h9⟩))
      · exact q_xe (s_index_n ⟨z2, by rw [hC.2.2.2.2.1.2.1 x1 k1.1 (by omega)]; exact ⟨by omega, by omega⟩⟩ (by rw [hC.2.2.2.2.1.2.1 x1 k1.1 (by omega)]; exact k2))
    · exact q_xe (s_index_n ⟨z1, by rw [e24]; exact ⟨by omega, by omega⟩⟩ (by rw [e24]; exact k1))
  unfold JL_11
  rw [hx1, hx2, hx3]
  by_cases hc : q_fc9 g x1 x2 x3
  · obtain ⟨k1, k2, k3⟩ := hc
    have hw2 := hw0.2.1 x1 (by omega) (by omega)
    have hl := (hw0.2.2.2.2.1 (2 * x1 + x2) (by omega) (by omega)).1
    have el := (hC.2.2.2.2.1.2.2 (2 * x1 + x2) (by omega) (by omega)).1
    have hsa := q_said_of hw0 (w := x1) (k := x2) (by omega)
    have hkb := q_kind_bd hB hsa (p := x3) k3
    refine j_I (code := 0) (val := q_form g (2 * x1 + x2) x3) (by decide) (fun _ => ⟨by omega, by omega⟩) (l_yI h ?_) (fun s hs => q_mono (hR s hs.1) (fun q hq => ⟨hq.1, (hq.2.1 ⟨k1, k2, k3⟩).1, fun _ => (hq.2.1 ⟨k1, k2, k3⟩).2⟩))
    have e : J_X11_form x1 x2 x3 st = some (.inl (q_form g (2 * x1 + x2) x3)) := by
      unfold J_X11_form
      rw [q_xs (s_index_y ⟨z1, by rw [e24]; exact ⟨by omega, by omega⟩⟩ (by rw [e24]; exact k1))]
      unfold z_g
      rw [if_pos (by omega), q_xs (s_index_y ⟨z2, by rw [hC.2.2.2.2.1.2.1 x1 k1.1 (by omega)]; exact ⟨by omega, by omega⟩⟩ (by rw [hC.2.2.2.2.1.2.1 x1 k1.1 (by omega)]; exact k2)), s_X4_sayingOf (by omega)]
      unfold z_b
      dsimp only
      rw [if_pos (by unfold z_isSaying; omega), q_xs (s_index_y ⟨z3, by rw [el]; exact ⟨by omega, by omega⟩⟩ (by rw [el]; exact k3)), s_X4_formAt hC hB hsa k3]
    unfold J_L_form
    rw [e]
    show z_g (z32 (q_form g (2 * x1 + x2) x3)) _ = _
    unfold z_g
    rw [if_pos (show z32 (q_form g (2 * x1 + x2) x3) from ⟨by omega, by omega⟩)]
  · refine j_I (code := 1) (val := 0) (by decide) (fun h9 => absurd h9 (by decide)) (l_nI h (by decide) ?_) (fun s hs => q_mono (hR s hs.1) (fun q hq => ⟨hq.1, hq.2.2 hc, fun h9 => absurd h9 (by decide)⟩))
    unfold J_L_form
    rw [bad hc]; rfl
