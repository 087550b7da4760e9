-- THE CLASS'S CELLS BESIDE THE REFERENCE'S; COST and FORM there
def q_ix (i : Int) : Int := if i = 0 then 5 else i - 1
def q_Cf (g c : z_St) : Prop := c 1 2 = g 168 2 ∧ ∀ i w, 0 ≤ i → i < 16 → 0 ≤ w → w < 3 → c (3 + i) w = g 169 (3 * i + w)
def q_Cs (g c : z_St) : Prop := c 1 3 = g 168 4 ∧ ∀ s w, 0 ≤ s → s < 4 → 0 ≤ w → w < 3 → c (20 + s) w = g 170 (3 * s + w)
def q_Cn (g c : z_St) : Prop := c 24 1 = g 168 11 ∧ (∀ s, 0 ≤ s → s < 6 → c (29 + 5 * s) 5 = g 173 s ∧ ∀ w, 0 ≤ w → w < 3 → c (29 + 5 * s + 1) w = g 171 (3 * s + w) ∧ c (29 + 5 * s + 2) w = g 174 (3 * s + w) ∧ c (29 + 5 * s + 3) w = g 175 (3 * s + w) ∧ c (29 + 5 * s + 4) w = g 176 (3 * s + w)) ∧ ∀ s, 0 ≤ s → s < 6 → s < g 168 11 → c (29 + 5 * s) 1 = g 172 s
def q_Ct (g c : z_St) : Prop := c 24 6 = g 168 13 ∧ ∀ k, 0 ≤ k → k < 4 → c 28 k = g 177 k
def q_Cw (g c : z_St) : Prop := c 24 4 = g 168 18 ∧ (∀ w, 0 ≤ w → w < 5 → c 27 w = g 178 w) ∧ ∀ j, 0 ≤ j → j < 10 → c (59 + 3 * j) 2 = g 179 j ∧ c (59 + 3 * j) 3 = g 181 j ∧ ∀ p, 0 ≤ p → p < 4 → c (59 + 3 * j + 1) p = g 180 (4 * j + p)
def q_Cp (g c : z_St) : Prop := c 89 3 = g 168 20 ∧ c 89 4 = g 168 21 ∧ c 89 5 = g 168 22 ∧ (∀ i j, 0 ≤ i → i < 6 → 0 ≤ j → j < 6 → c (91 + i) j = g 182 (6 * q_ix i + q_ix j)) ∧ (∀ i, 0 ≤ i → i < 6 → c 97 i = q_row g (q_ix i)) ∧ ∀ j, 0 ≤ j → j < 6 → c 98 j = q_col g (q_ix j)
def q_C (g c : z_St) : Prop := q_Cf g c ∧ q_Cs g c ∧ q_Cn g c ∧ q_Ct g c ∧ q_Cw g c ∧ q_Cp g c
/-- the same but for the kinds and what is worked out -/
def q_D (c c' : z_St) : Prop := ∀ x, 1 ≤ x → x ≤ 98 → ¬ (61 ≤ x ∧ x ≤ 88 ∧ x % 3 = 1) → c' x = c x
theorem q_D_refl (c : z_St) : q_D c c := fun _ _ _ _ => rfl
theorem q_D_trans {a b c : z_St} (h : q_D a b) (k : q_D b c) : q_D a c := fun x h1 h2 h3 => (k x h1 h2 h3).trans (h x h1 h2 h3)
theorem q_D_up {c : z_St} {i j v : Int} (h : i < 1 ∨ 98 < i ∨ (61 ≤ i ∧ i ≤ 88 ∧ i % 3 = 1)) : q_D c (z_up c i j v) := fun x h1 h2 h3 => q_up_row (by omega)
theorem q_C_D {g c c' : z_St} (h : q_C g c) (k : q_D c c') : q_C g c' := by
  obtain ⟨⟨f1, f2⟩, ⟨s1, s2⟩, ⟨n1, n2, n3⟩, ⟨t1, t2⟩, ⟨w1, w2, w3⟩, p1, p2, p3, p4, p5, p6⟩ := h
  have e := fun x (h1 : 1 ≤ x) (h2 : x ≤ 98) (h3 : ¬ (61 ≤ x ∧ x ≤ 88 ∧ x % 3 = 1)) => k x h1 h2 h3
  refine ⟨⟨?_, fun i w a b c d => ?_⟩, ⟨?_, fun i w a b c d => ?_⟩, ⟨?_, fun s a b => ⟨?_, fun w c d => ⟨?_, ?_, ?_, ?_⟩⟩, fun s a b c9 => ?_⟩, ⟨?_, fun k a b => ?_⟩, ⟨?_, fun w a b => ?_, fun j a b => ⟨?_, ?_, fun p c d => ?_⟩⟩, ?_, ?_, ?_, fun i j a b c d => ?_, fun i a b => ?_, fun j a b => ?_⟩
  · rw [e 1 (by decide) (by decide) (by decide)]; exact f1
  · rw [e (3 + i) (by omega) (by omega) (by omega)]; exact f2 i w a b c d
  · rw [e 1 (by decide) (by decide) (by decide)]; exact s1
  · rw [e (20 + i) (by omega) (by omega) (by omega)]; exact s2 i w a b c d
  · rw [e 24 (by decide) (by decide) (by decide)]; exact n1
  · rw [e (29 + 5 * s) (by omega) (by omega) (by omega)]; exact (n2 s a b).1
  · rw [e (29 + 5 * s + 1) (by omega) (by omega) (by omega)]; exact ((n2 s a b).2 w c d).1
  · rw [e (29 + 5 * s + 2) (by omega) (by omega) (by omega)]; exact ((n2 s a b).2 w c d).2.1
  · rw [e (29 + 5 * s + 3) (by omega) (by omega) (by omega)]; exact ((n2 s a b).2 w c d).2.2.1
  · rw [e (29 + 5 * s + 4) (by omega) (by omega) (by omega)]; exact ((n2 s a b).2 w c d).2.2.2
  · rw [e (29 + 5 * s) (by omega) (by omega) (by omega)]; exact n3 s a b c9
  · rw [e 24 (by decide) (by decide) (by decide)]; exact t1
  · rw [e 28 (by decide) (by decide) (by decide)]; exact t2 k a b
  · rw [e 24 (by decide) (by decide) (by decide)]; exact w1
  · rw [e 27 (by decide) (by decide) (by decide)]; exact w2 w a b
  · rw [e (59 + 3 * j) (by omega) (by omega) (by omega)]; exact (w3 j a b).1
  · rw [e (59 + 3 * j) (by omega) (by omega) (by omega)]; exact (w3 j a b).2.1
  · rw [e (59 + 3 * j + 1) (by omega) (by omega) (by omega)]; exact (w3 j a b).2.2 p c d
  · rw [e 89 (by decide) (by decide) (by decide)]; exact p1
  · rw [e 89 (by decide) (by decide) (by decide)]; exact p2
  · rw [e 89 (by decide) (by decide) (by decide)]; exact p3
  · rw [e (91 + i) (by omega) (by omega) (by omega)]; exact p4 i j a b c d
  · rw [e 97 (by decide) (by decide) (by decide)]; exact p5 i a b
  · rw [e 98 (by decide) (by decide) (by decide)]; exact p6 j a b
theorem s_X1_clean {g st : z_St} (hC : q_C g st) (hB : q_RB g) {f w : Int} (h : 0 ≤ f ∧ f ≤ 15 ∧ 0 ≤ w ∧ w ≤ 2) : J_X1_clean f w st = some (g 169 (3 * f + w) - g 170 (3 * g 168 4 + w)) := by
  have hs := hB.2.1.1
  refine q_of ?_
  simp only [J_X1_clean, q_g, q_b, q_let, q_ite, q_some, z32, z64, true_or, or_true, true_and, and_true]
  rw [hC.2.1.1, hC.1.2 f w (by omega) (by omega) (by omega) (by omega), hC.2.1.2 _ w (by omega) (by omega) (by omega) (by omega)]
  (repeat' (first | omega | (refine And.intro ?_ ?_) | (intro _)))
theorem s_X9_liesAt {g st : z_St} (hC : q_C g st) {s form w : Int} (h : 0 ≤ s ∧ s ≤ 5 ∧ 0 ≤ form ∧ form ≤ 3 ∧ 0 ≤ w ∧ w ≤ 2) : J_X9_liesAt (29 + 5 * s) w form st = some (q_lies g s form w) := by
  have h1 := (hC.2.2.1.2.1 s (by omega) (by omega)).2
  refine q_of ?_
  simp only [J_X9_liesAt, J_X9_liesAt_28, q_g, q_b, q_let, q_ite, q_some, z32, z64, true_or, or_true, true_and, and_true]
  rw [(h1 w (by omega) (by omega)).1]
  unfold q_lies
  refine ⟨by omega, fun h2 => ⟨by omega, by rw [if_neg (by omega), Int.add_zero]⟩, fun h2 => ⟨by omega, by omega, ?_⟩⟩
  rw [if_pos (by omega), (h1 (form - 1) (by omega) (by omega)).2.2.2, show 3 * s + (form - 1) = 3 * s + form - 1 by omega]
theorem s_X1_costBy {g st : z_St} (hC : q_C g st) (hB : q_RB g) {f s form : Int} (h : 0 ≤ f ∧ f ≤ 15 ∧ 0 ≤ s ∧ s < g 168 11 ∧ 0 ≤ form ∧ form ≤ 3) : J_X1_costBy f (29 + 5 * s) form st = some (q_cost g f s form) := by
  have hc := hB.2.2.1.1
  have b0 := q_off_bd hB.1 hB.2.1 hB.2.2.1 (f := f) (s := s) (form := form) (w := 0) (by omega)
  have b1 := q_off_bd hB.1 hB.2.1 hB.2.2.1 (f := f) (s := s) (form := form) (w := 1) (by omega)
  have b2 := q_off_bd hB.1 hB.2.1 hB.2.2.1 (f := f) (s := s) (form := form) (w := 2) (by omega)
  have a0 := q_sq b0
  have a1 := q_sq b1
  have a2 := q_sq b2
  have hw := hB.2.2.1.2.2.1 s (by omega) (by omega)
  refine q_of ?_
  simp only [J_X1_costBy, q_g, q_b, q_let, q_ite, q_some, z32, z64, true_or, or_true, true_and, and_true]
  refine q_loop (fun q => 0 ≤ q.2 ∧ q.2 ≤ 3 ∧ q.1 = (if 0 < q.2 then q_off g f s form 0 * q_off g f s form 0 else 0) + (if 1 < q.2 then q_off g f s form 1 * q_off g f s form 1 else 0) + (if 2 < q.2 then q_off g f s form 2 * q_off g f s form 2 else 0)) (fun q => (3 - q.2).toNat) ⟨by decide, by decide, by simp⟩ (by decide) ?_
  rintro ⟨v, w⟩ ⟨i1, i2, i3⟩
  dsimp only at i1 i2 i3
  simp only [J_X1_costBy_b6, q_g, q_b, q_let, q_ite, q_some, z32, z64, true_or, or_true, true_and, and_true]
  refine ⟨by omega, fun hlt => ?_, fun hge => ?_⟩
  · refine q_eq (s_X1_clean hC hB (by omega)) ?_
    refine q_eq (s_X9_liesAt hC (by omega)) ?_
    have hoff : g 169 (3 * f + w) - g 170 (3 * g 168 4 + w) - q_lies g s form w = q_off g f s form w := rfl
    rw [hoff]
    have hw3 : w = 0 ∨ w = 1 ∨ w = 2 := by omega
    rcases hw3 with rfl | rfl | rfl
    · simp only [i3]; refine ⟨by omega, ⟨by decide, by decide, by simp⟩, by decide⟩
    · simp only [i3]; refine ⟨by omega, ⟨by decide, by decide, by simp⟩, by decide⟩
    · simp only [i3]; refine ⟨by omega, ⟨by decide, by decide, by simp⟩, by decide⟩
  · have hw3 : w = 3 := by omega
    subst hw3
    have e : v = q_off g f s form 0 * q_off g f s form 0 + q_off g f s form 1 * q_off g f s form 1 + q_off g f s form 2 * q_off g f s form 2 := by rw [i3]; simp
    rw [hC.2.2.1.2.2 s (by omega) (by omega) (by omega)]
    refine ⟨by omega, by omega, ?_⟩
    unfold q_cost
    rw [e]
/-- the SOUND beside, -1 without -/
def q_nb (g : z_St) (sa b : Int) : Int := if 0 ≤ b ∧ b ≤ g 179 sa - 1 then g 180 (4 * sa + b) else -1
theorem s_X7_soundAt {g st : z_St} (hC : q_C g st) {sa b : Int} (hsa : q_said g sa) (hb : -1 ≤ b ∧ b ≤ 4) : J_X7_soundAt (59 + 3 * sa) b st = some (q_nb g sa b) := by
  have h1 := hsa.1
  have h2 := hsa.2.1
  have h := hC.2.2.2.2.1.2.2 sa (by omega) (by omega)
  refine q_of ?_
  simp only [J_X7_soundAt, J_X7_soundAt_12, J_X7_soundAt_22, q_g, q_b, q_let, q_ite, q_some, z32, z64, true_or, or_true, true_and, and_true, q_nb]
  rw [h.1]
  refine ⟨by omega, fun h1 => by rw [if_neg (by omega)], fun h1 => ⟨by omega, fun h2 => ⟨by omega, ?_⟩, fun h2 => by rw [if_neg (by omega)]⟩⟩
  rw [h.2.2 b (by omega) (by omega), if_pos (by omega)]
theorem s_X4_formAt {g st : z_St} (hC : q_C g st) (hB : q_RB g) {sa p : Int} (hsa : q_said g sa) (h : 0 ≤ p ∧ p < g 179 sa) : J_X4_formAt (59 + 3 * sa) p st = some (q_form g sa p) := by
  have hn := hB.2.2.1
  have hn1 := hn.1
  have hsa1 := hsa.1
  have hsa2 := hsa.2.1
  have hsd := hsa.2.2 p (by omega) (by omega)
  have ha := hn.2.2.2.1 (g 180 (4 * sa + p)) (by omega) (by omega)
  have hw := (hC.2.2.2.2.1.2.2 sa (by omega) (by omega)).2.2 p (by omega) (by omega)
  have hcn := hC.2.2.1.2.1 (g 180 (4 * sa + p)) (by omega) (by omega)
  have nbb : ∀ b, -1 ≤ q_nb g sa b ∧ q_nb g sa b ≤ 5 := fun b => by
    unfold q_nb
    split
    · have := hsa.2.2 b (by omega) (by omega); omega
    · omega
  refine q_of ?_
  simp only [J_X4_formAt, q_g, q_b, q_let, q_ite, q_some, z32, z64, true_or, or_true, true_and, and_true]
  rw [hw]
  refine ⟨by omega, by omega, ?_⟩
  refine q_eq (s_X7_soundAt hC hsa (by omega)) ?_
  refine q_eq (s_X7_soundAt hC hsa (by omega)) ?_
  simp only [J_X9_formBetween, q_g, q_b, q_let, q_ite, q_some, z32, z64, true_or, or_true, true_and, and_true]
  refine q_mono (P := fun x => match x with | .inl _ => q_form g sa p = 0 | .inr y => q_form g sa p = y + 1) ?_ ?_
  · refine q_loop (fun q => 0 ≤ q ∧ q ≤ g 173 (g 180 (4 * sa + p)) ∧ ∀ j, 0 ≤ j → j < q → ¬ q_hit g sa p j) (fun q => (3 - q).toNat) ⟨by omega, by omega, fun j h1 h2 => by omega⟩ (by decide) ?_
    rintro q ⟨i1, i2, i3⟩
    simp only [J_X9_formBetween_b2, q_g, q_b, q_let, q_ite, q_some, z32, z64, true_or, or_true, true_and, and_true]
    rw [hcn.1]
    refine ⟨by omega, fun hlt => ?_, fun hge => q_form_0 fun j h1 h2 => i3 j h1 (by omega)⟩
    have hq4 := hcn.2 q (by omega) (by omega)
    rw [hq4.2.1]
    have hsi := (hn.2.2.2.2 (3 * g 180 (4 * sa + p) + q) (by omega) (by omega)).1
    have step : ∀ b, b = (if g 174 (3 * g 180 (4 * sa + p) + q) = 0 then p - 1 else p + 1) → q_ok (J_X9_formBetween_24 (29 + 5 * g 180 (4 * sa + p)) (q_nb g sa (p - 1)) (q_nb g sa (p + 1)) q (q_nb g sa b) st) (fun r => match r with
        | .inl s' => (0 ≤ s' ∧ s' ≤ g 173 (g 180 (4 * sa + p)) ∧ ∀ j, 0 ≤ j → j < s' → ¬ q_hit g sa p j) ∧ (3 - s').toNat < (3 - q).toNat
        | .inr x => match x with | .inl _ => q_form g sa p = 0 | .inr y => q_form g sa p = y + 1) := by
      intro b hb
      have nxt : ¬ q_hit g sa p q → ((0 ≤ q + 1 ∧ q + 1 ≤ g 173 (g 180 (4 * sa + p)) ∧ ∀ j, 0 ≤ j → j < q + 1 → ¬ q_hit g sa p j) ∧ (3 - (q + 1)).toNat < (3 - q).toNat) := fun hno => ⟨⟨by omega, by omega, fun j h1 h2 => by
        by_cases e : j = q
        · subst e; exact hno
        · exact i3 j h1 (by omega)⟩, by omega⟩
      have hq : q_hit g sa p q ↔ (0 ≤ b ∧ b ≤ g 179 sa - 1) ∧ z_iand (z_ishr (g 175 (3 * g 180 (4 * sa + p) + q)) (g 180 (4 * sa + b))) 1 = 1 := by
        rw [hb]; exact Iff.rfl
      have hnbb := nbb b
      have in1 : (0 ≤ b ∧ b ≤ g 179 sa - 1) → q_nb g sa b = g 180 (4 * sa + b) ∧ 0 ≤ g 180 (4 * sa + b) := fun h9 => by
        unfold q_nb; rw [if_pos h9]; exact ⟨rfl, (hsa.2.2 b h9.1 (by omega)).1⟩
      simp only [J_X9_formBetween_24, J_X9_formBetween_51, q_g, q_b, q_let, q_ite, q_some, z32, z64, true_or, or_true, true_and, and_true]
      rw [hq4.2.2.1]
      refine ⟨by omega, fun e => nxt fun k => ?_, fun e => ⟨by omega, ⟨z32_of _, by decide⟩, ?_⟩⟩
      · have := in1 (hq.mp k).1; omega
      · have hin : 0 ≤ b ∧ b ≤ g 179 sa - 1 := by
          apply Classical.byContradiction
          intro h9
          apply e
          unfold q_nb
          rw [if_neg h9]
        rw [(in1 hin).1]
        exact ⟨fun e1 => q_form_is (by omega) i1 hlt (hq.mpr ⟨hin, e1⟩) i3, fun e1 => nxt fun k => e1 (hq.mp k).2⟩
    refine ⟨by omega, by omega, fun e0 => ?_, fun e0 => ?_⟩
    · exact q_mono (step (p - 1) (by rw [if_pos e0])) (fun r hr => by cases r <;> exact hr)
    · exact q_mono (step (p + 1) (by rw [if_neg e0])) (fun r hr => by cases r <;> exact hr)
  · intro x hx
    cases x with
    | inl u => exact ⟨0, rfl, hx.symm⟩
    | inr y => exact ⟨y + 1, rfl, hx.symm⟩
theorem s_X2_priceOf {g st : z_St} (hC : q_C g st) (hB : q_RB g) {a b : Int} (h : -1 ≤ a ∧ a < 5 ∧ -1 ≤ b ∧ b < 5) : J_X2_priceOf a b st = some (q_price g (q_ix (a + 1)) (q_ix (b + 1))) := by
  have hp := hB.2.2.2.2.2.2
  have hb9 := hB.2.2.2.2.2.1
  have ha6 : 0 ≤ q_ix (a + 1) ∧ q_ix (a + 1) < 6 := by unfold q_ix; split <;> omega
  have hb6 : 0 ≤ q_ix (b + 1) ∧ q_ix (b + 1) < 6 := by unfold q_ix; split <;> omega
  have h1 := q_row_ge hp (a := q_ix (a + 1)) (b := q_ix (b + 1)) (by omega)
  have h2 := q_col_ge hp (b := q_ix (b + 1)) (by omega)
  have h3 := hp.1
  have h4 := hp.2.2.1 (q_ix (a + 1)) (by omega) (by omega)
  have h5 := hp.2.2.2 (q_ix (b + 1)) (by omega) (by omega)
  have h6 := hb9.1
  have h7 := hp.2.1 (6 * q_ix (a + 1) + q_ix (b + 1)) (by omega) (by omega)
  obtain ⟨p1, p2, p3, p4, p5, p6⟩ := hC.2.2.2.2.2
  refine q_of ?_
  simp only [J_X2_priceOf, q_g, q_b, q_let, q_ite, q_some, z32, z64, true_or, or_true, true_and, and_true]
  rw [p4 (a + 1) (b + 1) (by omega) (by omega) (by omega) (by omega), p5 (a + 1) (by omega) (by omega), p6 (b + 1) (by omega) (by omega), p1, p2]
  unfold q_price
  refine ⟨by omega, by omega, by omega, fun hlt => ⟨by omega, ?_⟩, fun hge => ⟨by omega, ?_⟩⟩
  · refine q_eq (s_X2_logarithm (by omega) st) ?_
    refine q_eq (s_X2_logarithm (by omega) st) ?_
    rw [if_pos hlt]
  · refine q_eq (s_X2_logarithm (by omega) st) ?_
    refine ⟨by omega, ?_⟩
    refine q_eq (s_X2_logarithm (by omega) st) ?_
    rw [if_neg hge]
theorem s_X4_sayingOf {x1 x2 : Int} {st : z_St} (h : 0 ≤ x1 * 2 + x2 ∧ x1 * 2 + x2 < 10) : J_X4_sayingOf x1 x2 st = some (59 + 3 * (2 * x1 + x2)) := by
  refine q_of ?_
  simp only [J_X4_sayingOf, q_g, q_b, q_let, q_ite, q_some, z32, z64, true_or, or_true, true_and, and_true]
  exact ⟨h, by omega⟩
theorem s_X0_span {x1 x2 x3 : Int} {st : z_St} (h : 0 ≤ 289 * x1 + 17 * x2 + x3 ∧ 289 * x1 + 17 * x2 + x3 < 1445) : J_X0_span x1 x2 x3 st = some (st 125 (289 * x1 + 17 * x2 + x3)) := by
  refine q_of ?_
  simp only [J_X0_span, q_g, q_b, q_let, q_ite, q_some, z32, z64, true_or, or_true, true_and, and_true]
  rw [show (x1 * 17 + x2) * 17 + x3 = 289 * x1 + 17 * x2 + x3 by omega]
  exact ⟨h, rfl⟩
theorem s_X0_toll {x1 x2 : Int} {st : z_St} (h : -1 ≤ x1 ∧ x1 < 5 ∧ -1 ≤ x2 ∧ x2 < 5) : J_X0_toll x1 x2 st = some (st (128 + x1) (x2 + 1)) := by
  refine q_of ?_
  simp only [J_X0_toll, q_g, q_b, q_let, q_ite, q_some, z32, z64, true_or, or_true, true_and, and_true]
  rw [show 127 + (x1 + 1) = 128 + x1 by omega]
  exact ⟨by omega, by omega, rfl⟩
theorem s_J7_fill {nn : Nat} {x0 x1 : Int} {st : z_St} (h : nn ≤ 900000) : q_ok (J_J7_fill_d0a16 nn x0 x1 st) (fun st' => (∀ x, x ≠ x0 → st' x = st x) ∧ ∀ j, st' x0 j = if 0 ≤ j ∧ j < nn then x1 else st x0 j) := by
  simp only [J_J7_fill_d0a16, q_g, q_b, q_let, q_ite, q_some, z32, z64, true_or, or_true, true_and, and_true]
  refine q_loop (fun q => ∃ k : Nat, q.1 = (k : Int) ∧ k ≤ nn ∧ (∀ x, x ≠ x0 → q.2 x = st x) ∧ ∀ j, q.2 x0 j = if 0 ≤ j ∧ j < k then x1 else st x0 j) (fun q => (nn - q.1).toNat) ⟨0, rfl, by omega, fun _ _ => rfl, fun j => by rw [if_neg (by omega)]⟩ (by show ((nn : Int) - 0).toNat < _; omega) ?_
  rintro ⟨u, s⟩ ⟨k, i1, i2, i3, i4⟩
  dsimp only at i1 i3 i4
  subst i1
  simp only [J_J7_fill_d0a16_b6, q_g, q_b, q_let, q_ite, q_some, z32, z64, true_or, or_true, true_and, and_true]
  refine ⟨by omega, fun hlt => ⟨by omega, ⟨k + 1, by omega, by omega, fun x hx => (q_up_row hx).trans (i3 x hx), fun j => ?_⟩, by omega⟩, fun hge => ⟨i3, fun j => ?_⟩⟩
  · rw [q_up_at, i4 j]
    by_cases e : j = k
    · rw [if_pos e, if_pos (by omega)]
    · rw [if_neg e]
      by_cases e2 : 0 ≤ j ∧ j < k
      · rw [if_pos e2, if_pos (by omega)]
      · rw [if_neg e2, if_neg (by omega)]
  · rw [i4 j]
    have : k = nn := by omega
    subst this
    rfl
