-- TELL: the row is one that g alone says
theorem ask_of {x1 x2 x4 : Int} {st : z_St} {P : Int × z_St → Prop} (h : q_ok (J_L_does x1 x2 x4 0 0 st) P) : q_ok (J_L_ask x1 x2 x4 st) P := by
  obtain ⟨r, h1, h2⟩ := h
  unfold J_L_ask
  rw [q_b]
  exact ⟨r, h1, _, rfl, h2⟩
noncomputable def tV (g : z_St) (j : Int) : Int := if j < 8 then q_sum g j else if j < 20 then g 170 (j - 8) else if j < 29 then tv_price g ((j - 20) / 3 - 1) ((j - 20) % 3 - 1) else if j < 35 then tv_cost g ((j - 29) / 2) ((j - 29) % 2) 0 else if j < 41 then tv_form g ((j - 35) / 2) 0 ((j - 35) % 2) else if j = 41 then tv_over g 0 0 2 else if j = 42 then tv_over g 1 0 1 else tv_over g 1 0 2
theorem tv_over_64 {g : z_St} (hB : q_RB g) {x1 x2 x3 : Int} : z64 (tv_over g x1 x2 x3) := by
  have hw1 := hB.2.2.2.2.1.1
  unfold tv_over
  by_cases c : 0 ≤ x1 ∧ x1 < g 168 18
  · rw [if_pos c]
    by_cases c2 : 0 ≤ x2 ∧ x2 < x3 ∧ x3 ≤ g 168 2
    · rw [if_pos c2]; exact e_I_64 (q_tab_bd hB (by omega)) (by decide)
    · rw [if_neg c2]; exact ⟨by decide, by decide⟩
  · rw [if_neg c]; exact ⟨by decide, by decide⟩
theorem tv_price_64 {g : z_St} (hB : q_RB g) {x1 x2 : Int} : z64 (tv_price g x1 x2) := by
  have hw1 := hB.2.2.2.2.1.1
  unfold tv_price
  by_cases c : (-1 ≤ x1 ∧ x1 < g 168 18) ∧ -1 ≤ x2 ∧ x2 < g 168 18
  · rw [if_pos c]
    have hp := q_price_bd hB.2.2.2.2.2.2 hB.2.2.2.2.2.1 (a := q_ix (x1 + 1)) (b := q_ix (x2 + 1)) (by have h1 := q_ix_bd (i := x1 + 1) (by omega); have h2 := q_ix_bd (i := x2 + 1) (by omega); omega)
    exact ⟨by omega, by omega⟩
  · rw [if_neg c]; exact ⟨by decide, by decide⟩
theorem tv_cost_64 {g : z_St} (hB : q_RB g) {x1 x2 x3 : Int} : z64 (tv_cost g x1 x2 x3) := by
  have hf1 := hB.1.1
  have hn1 := hB.2.2.1.1
  unfold tv_cost
  by_cases c : (0 ≤ x1 ∧ x1 < g 168 2) ∧ 0 ≤ x2 ∧ x2 < g 168 11
  · rw [if_pos c]
    by_cases c2 : 0 ≤ x3 ∧ x3 ≤ g 173 x2
    · rw [if_pos c2]
      have ha := hB.2.2.1.2.2.2.1 x2 (by omega) (by omega)
      have := q_cost_bd hB.1 hB.2.1 hB.2.2.1 (f := x1) (s := x2) (form := x3) (by omega)
      exact ⟨by omega, by omega⟩
    · rw [if_neg c2]; exact ⟨by decide, by decide⟩
  · rw [if_neg c]; exact ⟨by decide, by decide⟩
theorem tv_form_bd {g : z_St} (hB : q_RB g) {x1 x2 x3 : Int} : -1002 ≤ tv_form g x1 x2 x3 ∧ tv_form g x1 x2 x3 ≤ 3 := by
  have hw0 := hB.2.2.2.2.1
  have hw1 := hw0.1
  unfold tv_form
  by_cases c : q_fc9 g x1 x2 x3
  · rw [if_pos c]
    obtain ⟨k1, k2, k3⟩ := c
    have hw2 := hw0.2.1 x1 (by omega) (by omega)
    have hsa := q_said_of hw0 (w := x1) (k := x2) (by omega)
    have hkb := q_kind_bd hB hsa (p := x3) k3
    omega
  · rw [if_neg c]; decide
theorem tV_64 {g : z_St} (hB : q_RB g) {j : Int} (h : 0 ≤ j ∧ j < 44) : z64 (tV g j) := by
  unfold tV
  by_cases c1 : j < 8
  · rw [if_pos c1]; have := q_sum_bd hB (x := j); exact ⟨by omega, by omega⟩
  rw [if_neg c1]
  by_cases c2 : j < 20
  · rw [if_pos c2]; have := hB.2.1.2 (j - 8) (by omega) (by omega); exact ⟨by omega, by omega⟩
  rw [if_neg c2]
  by_cases c3 : j < 29
  · rw [if_pos c3]; exact tv_price_64 hB
  rw [if_neg c3]
  by_cases c4 : j < 35
  · rw [if_pos c4]; exact tv_cost_64 hB
  rw [if_neg c4]
  by_cases c5 : j < 41
  · rw [if_pos c5]; have := tv_form_bd hB (x1 := (j - 35) / 2) (x2 := 0) (x3 := (j - 35) % 2); exact ⟨by omega, by omega⟩
  rw [if_neg c5]
  (repeat' split) <;> exact tv_over_64 hB
theorem q_INV_low {g a b : z_St} (h : q_INV g a) (k : ∀ x, x < 200 → b x = a x) : q_INV g b := q_INV_K h ⟨fun x hx => k x (by omega), ⟨fun x p q => by rw [k x (by omega)]; exact h.1.1 x p q, fun j p q => by rw [k 168 (by decide)]; exact h.1.2 j p q⟩⟩
/-- the row so far -/
def q_TR (g : z_St) (D : Int → Prop) (st : z_St) : Prop := q_INV g st ∧ ∀ j, D j → st 300 j = tV g j
theorem q_TR_put {g st s' : z_St} {D : Int → Prop} {i v : Int} (h : q_TR g D st) (h' : q_INV g s') (hv : v = tV g i) : q_TR g (fun j => D j ∨ j = i) (z_up (z_kp st s') 300 i v) := by
  refine ⟨q_INV_low h' (fun x hx => ?_), fun j hj => ?_⟩
  · rw [q_up_row (by omega)]
    unfold z_kp
    rw [if_neg (by omega)]
  · by_cases e : j = i
    · subst e; rw [z_up_at]; exact hv
    · rw [z_up_n (fun k => e k.2)]
      unfold z_kp
      rw [if_pos rfl]
      rcases hj with hj | hj
      · exact h.2 j hj
      · exact absurd hj e
theorem q_TR_sub {g st : z_St} {D D' : Int → Prop} (h : q_TR g D st) (k : ∀ j, D' j → D j) : q_TR g D' st := ⟨h.1, fun j hj => h.2 j (k j hj)⟩
theorem s_tell {g st : z_St} (h : q_INV g st) : q_ok (J_L_tell st) (fun t => q_INV g t ∧ ∀ j : Int, 0 ≤ j → j < 44 → t 300 j = tV g j) := by
  have hB := h.2.1
  have hptr : q_ptr (st 134 3) (st 134 4) := h.2.2.2.2.2.2.2
  unfold J_L_tell
  rw [q_g]
  refine ⟨by unfold q_ptr at hptr; unfold z_pt; omega, ?_⟩
  have h0 : q_TR g (fun j => 0 ≤ j ∧ j < 0) (z_zr st) := ⟨q_INV_low h (fun x hx => by unfold z_zr; rw [if_neg (by omega)]), fun j hj => absurd hj (by omega)⟩
  unfold J_L_tell_5
  simp only [q_b]
  refine q_for0 (fun k s => q_TR g (fun j => 0 ≤ j ∧ j < k) s) 8 (by decide) h0 (fun k s hk hs => ?_) (fun s hs => ?_)
  · simp only [J_L_tell_b7, q_g, q_b, q_let, q_ite, q_some, z32, z64, true_or, or_true, true_and, and_true]
    refine ⟨by omega, by omega, fun _ => ⟨by omega, ?_⟩, fun c => absurd (by omega) c⟩
    refine q_mono (ask_of (a_sum hs.1 ⟨by omega, by omega⟩ (by omega))) ?_
    rintro r ⟨a1, a2⟩
    refine ⟨by omega, _, rfl, q_TR_sub (q_TR_put hs a1 (a2.trans ?_)) (fun j hj => by omega)⟩
    unfold tV; rw [if_pos (by omega)]
  · simp only [J_L_tell_b7, q_g, q_b, q_let, q_ite, q_some, z32, z64, true_or, or_true, true_and, and_true]
    refine ⟨by decide, by decide, fun c => absurd c (by decide), fun _ => ⟨_, rfl, ?_⟩⟩
    refine q_for0 (fun k s => q_TR g (fun j => 0 ≤ j ∧ j < 8 + k) s) 12 (by decide) (q_TR_sub hs (fun j hj => by omega)) (fun k s hk hs => ?_) (fun s hs => ?_)
    · simp only [J_L_tell_b33, q_g, q_b, q_let, q_ite, q_some, z32, z64, true_or, or_true, true_and, and_true]
      rw [Int.tdiv_eq_ediv_of_nonneg (by omega), Int.tmod_eq_emod_of_nonneg (by omega)]
      refine ⟨by omega, by omega, fun _ => ⟨⟨by omega, by decide, by decide⟩, by omega, ⟨by omega, by decide, by decide⟩, ?_⟩, fun c => absurd (by omega) c⟩
      refine q_mono (ask_of (a_shiftOf hs.1 ⟨by omega, by omega⟩ ⟨by omega, by omega⟩ (by omega) (by omega))) ?_
      rintro r ⟨a1, a2⟩
      refine ⟨by omega, _, rfl, q_TR_sub (q_TR_put hs a1 (a2.trans ?_)) (fun j hj => by omega)⟩
      unfold tV; rw [if_neg (by omega), if_pos (by omega)]
      congr 1; omega
    · simp only [J_L_tell_b33, q_g, q_b, q_let, q_ite, q_some, z32, z64, true_or, or_true, true_and, and_true]
      refine ⟨by decide, by decide, fun c => absurd c (by decide), fun _ => ⟨_, rfl, ?_⟩⟩
      refine q_for0 (fun k s => q_TR g (fun j => 0 ≤ j ∧ j < 20 + k) s) 9 (by decide) (q_TR_sub hs (fun j hj => by omega)) (fun k s hk hs => ?_) (fun s hs => ?_)
      · simp only [J_L_tell_b66, q_g, q_b, q_let, q_ite, q_some, z32, z64, true_or, or_true, true_and, and_true]
        rw [Int.tdiv_eq_ediv_of_nonneg (by omega), Int.tmod_eq_emod_of_nonneg (by omega)]
        refine ⟨by omega, by omega, fun _ => ⟨⟨by omega, by decide, by decide⟩, by omega, ⟨by omega, by decide, by decide⟩, ?_⟩, fun c => absurd (by omega) c⟩
        refine q_mono (ask_of (a_price hs.1 ⟨by omega, by omega⟩ ⟨by omega, by omega⟩)) ?_
        rintro r ⟨a1, a2⟩
        refine ⟨by omega, _, rfl, q_TR_sub (q_TR_put hs a1 (a2.trans ?_)) (fun j hj => by omega)⟩
        unfold tV; rw [if_neg (by omega), if_neg (by omega), if_pos (by omega), show 20 + (k : Int) - 20 = k by omega]
      · simp only [J_L_tell_b66, q_g, q_b, q_let, q_ite, q_some, z32, z64, true_or, or_true, true_and, and_true]
        refine ⟨by decide, by decide, fun c => absurd c (by decide), fun _ => ⟨_, rfl, ?_⟩⟩
        refine q_for0 (fun k s => q_TR g (fun j => (0 ≤ j ∧ j < 29 + k) ∨ (35 ≤ j ∧ j < 35 + k)) s) 6 (by decide) (q_TR_sub hs (fun j hj => by omega)) (fun k s hk hs => ?_) (fun s hs => ?_)
        · simp only [J_L_tell_b103, q_g, q_b, q_let, q_ite, q_some, z32, z64, true_or, or_true, true_and, and_true]
          rw [Int.tdiv_eq_ediv_of_nonneg (by omega), Int.tmod_eq_emod_of_nonneg (by omega)]
          refine ⟨by omega, by omega, fun _ => ⟨⟨by omega, by decide, by decide⟩, by omega, ⟨by omega, by decide, by decide⟩, ?_⟩, fun c => absurd (by omega) c⟩
          refine q_mono (a_cost hs.1 ⟨by omega, by omega⟩ ⟨by omega, by omega⟩ ⟨by decide, by decide⟩) ?_
          rintro r ⟨a1, a2⟩
          have h1 := q_TR_put hs a1 (i := 29 + k) (a2.trans (by unfold tV; rw [if_neg (by omega), if_neg (by omega), if_neg (by omega), if_pos (by omega), show 29 + (k : Int) - 29 = k by omega]))
          refine ⟨by omega, ⟨by omega, by decide, by decide⟩, by omega, ⟨by omega, by decide, by decide⟩, ?_⟩
          refine q_mono (a_form h1.1 ⟨by omega, by omega⟩ ⟨by decide, by decide⟩ ⟨by omega, by omega⟩) ?_
          rintro r2 ⟨b1, b2⟩
          refine ⟨by omega, _, rfl, q_TR_sub (q_TR_put h1 b1 (b2.trans ?_)) (fun j hj => by omega)⟩
          unfold tV; rw [if_neg (by omega), if_neg (by omega), if_neg (by omega), if_neg (by omega), if_pos (by omega), show 35 + (k : Int) - 35 = k by omega]
        · simp only [J_L_tell_b103, q_g, q_b, q_let, q_ite, q_some, z32, z64, true_or, or_true, true_and, and_true]
          refine ⟨by decide, by decide, fun c => absurd c (by decide), fun _ => ⟨_, rfl, ?_⟩⟩
          have h41 : tV g 41 = tv_over g 0 0 2 := by unfold tV; rfl
          have h42 : tV g 42 = tv_over g 1 0 1 := by unfold tV; rfl
          have h43 : tV g 43 = tv_over g 1 0 2 := by unfold tV; rfl
          refine q_mono (a_over hs.1 ⟨by decide, by decide⟩ ⟨by decide, by decide⟩ ⟨by decide, by decide⟩ (by decide)) ?_
          rintro r ⟨a1, a2⟩
          have h1 := q_TR_put hs a1 (i := 41) (a2.trans h41.symm)
          refine ⟨by decide, ?_⟩
          refine q_mono (a_over h1.1 ⟨by decide, by decide⟩ ⟨by decide, by decide⟩ ⟨by decide, by decide⟩ (by decide)) ?_
          rintro r2 ⟨b1, b2⟩
          have h2 := q_TR_put h1 b1 (i := 42) (b2.trans h42.symm)
          refine ⟨by decide, ?_⟩
          refine q_mono (a_over h2.1 ⟨by decide, by decide⟩ ⟨by decide, by decide⟩ ⟨by decide, by decide⟩ (by decide)) ?_
          rintro r3 ⟨c1, c2⟩
          have h3 := q_TR_put h2 c1 (i := 43) (c2.trans h43.symm)
          refine ⟨by decide, h3.1, fun j p q => h3.2 j (by omega)⟩
