-- THE REFERENCE'S STATE: its ranges; COST and FORM
def q_Rf (g : z_St) : Prop := (0 ≤ g 168 2 ∧ g 168 2 ≤ 16) ∧ ∀ k, 0 ≤ k → k < 48 → -30000 ≤ g 169 k ∧ g 169 k ≤ 30000
def q_Rs (g : z_St) : Prop := (0 ≤ g 168 4 ∧ g 168 4 ≤ 3) ∧ ∀ k, 0 ≤ k → k < 12 → -30000 ≤ g 170 k ∧ g 170 k ≤ 30000
def q_Rn (g : z_St) : Prop := (0 ≤ g 168 11 ∧ g 168 11 ≤ 6) ∧ (∀ k, 0 ≤ k → k < 18 → -30000 ≤ g 171 k ∧ g 171 k ≤ 30000) ∧ (∀ s, 0 ≤ s → s < g 168 11 → 1 ≤ g 172 s ∧ g 172 s ≤ 99) ∧ (∀ s, 0 ≤ s → s < 6 → 0 ≤ g 173 s ∧ g 173 s ≤ 3) ∧ ∀ k, 0 ≤ k → k < 18 → (0 ≤ g 174 k ∧ g 174 k ≤ 1) ∧ (0 ≤ g 175 k ∧ g 175 k ≤ 63) ∧ (-3000 ≤ g 176 k ∧ g 176 k ≤ 3000)
def q_Rt (g : z_St) : Prop := (0 ≤ g 168 13 ∧ g 168 13 ≤ 4) ∧ ∀ k, 0 ≤ k → k < 4 → 0 ≤ g 177 k ∧ g 177 k ≤ 5
def q_Rw (g : z_St) : Prop := (0 ≤ g 168 18 ∧ g 168 18 ≤ 5) ∧ (∀ w, 0 ≤ w → w < 5 → 0 ≤ g 178 w ∧ g 178 w ≤ 2) ∧ (∀ w, 0 ≤ w → w < g 168 18 → 1 ≤ g 178 w) ∧ (∀ w, g 168 18 ≤ w → w < 5 → g 178 w = 0) ∧ (∀ k, 0 ≤ k → k < 10 → (0 ≤ g 179 k ∧ g 179 k ≤ 4) ∧ 0 ≤ g 181 k ∧ g 181 k ≤ 9999) ∧ (∀ k, 0 ≤ k → k < 40 → 0 ≤ g 180 k ∧ g 180 k ≤ 5) ∧ ∀ w k, 0 ≤ w → w < 5 → 0 ≤ k → k < g 178 w → 1 ≤ g 179 (2 * w + k) ∧ ∀ p, 0 ≤ p → p < g 179 (2 * w + k) → g 180 (4 * (2 * w + k) + p) < g 168 11
def q_Rb (g : z_St) : Prop := (0 ≤ g 168 21 ∧ g 168 21 ≤ 99999) ∧ (0 ≤ g 168 22 ∧ g 168 22 ≤ 99)
/-- the sum of a row of the pairs, of a column of them -/
def q_row (g : z_St) (a : Int) : Int := g 182 (6 * a) + g 182 (6 * a + 1) + g 182 (6 * a + 2) + g 182 (6 * a + 3) + g 182 (6 * a + 4) + g 182 (6 * a + 5)
def q_col (g : z_St) (b : Int) : Int := g 182 b + g 182 (6 + b) + g 182 (12 + b) + g 182 (18 + b) + g 182 (24 + b) + g 182 (30 + b)
def q_Rp (g : z_St) : Prop := (0 ≤ g 168 20 ∧ g 168 20 ≤ 3000) ∧ (∀ k, 0 ≤ k → k < 36 → 0 ≤ g 182 k) ∧ (∀ a, 0 ≤ a → a < 6 → q_row g a ≤ g 168 20) ∧ ∀ b, 0 ≤ b → b < 6 → q_col g b ≤ g 168 20
def q_RB (g : z_St) : Prop := q_Rf g ∧ q_Rs g ∧ q_Rn g ∧ q_Rt g ∧ q_Rw g ∧ q_Rb g ∧ q_Rp g
/-- what the reference's questions leave as it is -/
def q_same (g st : z_St) : Prop := (∀ x, 169 ≤ x → x ≤ 182 → st x = g x) ∧ ∀ j, 1 ≤ j → j ≤ 22 → st 168 j = g 168 j
theorem q_same_refl (g : z_St) : q_same g g := ⟨fun _ _ _ => rfl, fun _ _ _ => rfl⟩
theorem q_same_up {g st : z_St} {i j v : Int} (h : q_same g st) (hi : (i < 168 ∨ 182 < i) ∨ (i = 168 ∧ (j < 1 ∨ 22 < j))) : q_same g (z_up st i j v) := by
  refine ⟨fun x h1 h2 => ?_, fun y h1 h2 => ?_⟩
  · rw [q_up_row (by omega)]; exact h.1 x h1 h2
  · rw [z_up_n (by omega)]; exact h.2 y h1 h2
theorem q_same_trans {g h st : z_St} (h1 : q_same g h) (h2 : q_same h st) : q_same g st := ⟨fun x a b => (h2.1 x a b).trans (h1.1 x a b), fun j a b => (h2.2 j a b).trans (h1.2 j a b)⟩
def q_off (g : z_St) (f s form w : Int) : Int := (g 169 (3 * f + w) - g 170 (3 * g 168 4 + w)) - q_lies g s form w
def q_cost (g : z_St) (f s form : Int) : Int := (q_off g f s form 0 * q_off g f s form 0 + q_off g f s form 1 * q_off g f s form 1 + q_off g f s form 2 * q_off g f s form 2).tdiv (g 172 s)
theorem q_sq {x : Int} (h : -93000 ≤ x ∧ x ≤ 93000) : 0 ≤ x * x ∧ x * x ≤ 8649000000 := by
  have key : ∀ y : Int, 0 ≤ y → y ≤ 93000 → 0 ≤ y * y ∧ y * y ≤ 8649000000 := fun y h1 h2 => ⟨Int.mul_nonneg h1 h1, Int.le_trans (Int.mul_le_mul h2 h2 h1 (by decide)) (by decide)⟩
  by_cases h0 : 0 ≤ x
  · exact key x h0 h.2
  · have := key (-x) (by omega) (by omega)
    rw [Int.neg_mul_neg] at this
    exact this
theorem q_lies_bd {g : z_St} (hn : q_Rn g) {s form w : Int} (h : 0 ≤ s ∧ s ≤ 5 ∧ 0 ≤ form ∧ form ≤ 3 ∧ 0 ≤ w ∧ w ≤ 2) : -33000 ≤ q_lies g s form w ∧ q_lies g s form w ≤ 33000 := by
  have h1 := hn.2.1 (3 * s + w) (by omega) (by omega)
  unfold q_lies
  split
  · have h2 := (hn.2.2.2.2 (3 * s + form - 1) (by omega) (by omega)).2.2
    omega
  · omega
theorem q_off_bd {g : z_St} (hf : q_Rf g) (hs : q_Rs g) (hn : q_Rn g) {f s form w : Int} (h : 0 ≤ f ∧ f ≤ 15 ∧ 0 ≤ s ∧ s ≤ 5 ∧ 0 ≤ form ∧ form ≤ 3 ∧ 0 ≤ w ∧ w ≤ 2) : -93000 ≤ q_off g f s form w ∧ q_off g f s form w ≤ 93000 := by
  have h1 := hf.2 (3 * f + w) (by omega) (by omega)
  have h0 := hs.1
  have h2 := hs.2 (3 * g 168 4 + w) (by omega) (by omega)
  have h3 := q_lies_bd hn (s := s) (form := form) (w := w) (by omega)
  unfold q_off
  omega
theorem q_cost_bd {g : z_St} (hf : q_Rf g) (hs : q_Rs g) (hn : q_Rn g) {f s form : Int} (h : 0 ≤ f ∧ f ≤ 15 ∧ 0 ≤ s ∧ s < g 168 11 ∧ 0 ≤ form ∧ form ≤ 3) : 0 ≤ q_cost g f s form ∧ q_cost g f s form ≤ 30000000000 := by
  have hc := hn.1
  have a0 := q_sq (q_off_bd hf hs hn (f := f) (s := s) (form := form) (w := 0) (by omega))
  have a1 := q_sq (q_off_bd hf hs hn (f := f) (s := s) (form := form) (w := 1) (by omega))
  have a2 := q_sq (q_off_bd hf hs hn (f := f) (s := s) (form := form) (w := 2) (by omega))
  have hw := hn.2.2.1 s (by omega) (by omega)
  unfold q_cost
  have hp : 0 ≤ q_off g f s form 0 * q_off g f s form 0 + q_off g f s form 1 * q_off g f s form 1 + q_off g f s form 2 * q_off g f s form 2 := by omega
  rw [Int.tdiv_eq_ediv_of_nonneg hp]
  exact ⟨Int.ediv_nonneg hp (by omega), Int.le_trans (Int.ediv_le_self _ hp) (by omega)⟩
theorem s_X12_costOf {g st : z_St} (hS : q_same g st) (hf : q_Rf g) (hs : q_Rs g) (hn : q_Rn g) {f s form : Int} (h : 0 ≤ f ∧ f ≤ 15 ∧ 0 ≤ s ∧ s < g 168 11 ∧ 0 ≤ form ∧ form ≤ 3) : J_X12_costOf f s form st = some (q_cost g f s form) := by
  have hc := hn.1
  have h0 := hs.1
  have b0 := q_off_bd hf hs hn (f := f) (s := s) (form := form) (w := 0) (by omega)
  have b1 := q_off_bd hf hs hn (f := f) (s := s) (form := form) (w := 1) (by omega)
  have b2 := q_off_bd hf hs hn (f := f) (s := s) (form := form) (w := 2) (by omega)
  have a0 := q_sq b0
  have a1 := q_sq b1
  have a2 := q_sq b2
  have hw := hn.2.2.1 s (by omega) (by omega)
  have hoff : ∀ w, st 169 (3 * f + w) - st 170 (3 * st 168 4 + w) - q_lies st s form w = q_off g f s form w := fun w => by
    unfold q_off q_lies
    rw [hS.1 169 (by decide) (by decide), hS.1 170 (by decide) (by decide), hS.1 171 (by decide) (by decide), hS.1 176 (by decide) (by decide), hS.2 4 (by decide) (by decide)]
  have e4 := hS.2 4 (by decide) (by decide)
  refine q_of ?_
  simp only [J_X12_costOf, q_g, q_b, q_let, q_ite, q_some, z32, z64, true_or, or_true, true_and, and_true]
  refine q_loop (fun q => 0 ≤ q.2 ∧ q.2 ≤ 3 ∧ q.1 = (if 0 < q.2 then q_off g f s form 0 * q_off g f s form 0 else 0) + (if 1 < q.2 then q_off g f s form 1 * q_off g f s form 1 else 0) + (if 2 < q.2 then q_off g f s form 2 * q_off g f s form 2 else 0)) (fun q => (3 - q.2).toNat) ⟨by decide, by decide, by simp⟩ (by decide) ?_
  · rintro ⟨v, w⟩ ⟨i1, i2, i3⟩
    dsimp only at i1 i2 i3
    simp only [J_X12_costOf_b6, q_g, q_b, q_let, q_ite, q_some, z32, z64, true_or, or_true, true_and, and_true]
    refine ⟨by omega, fun hlt => ?_, fun hge => ?_⟩
    · refine q_eq (s_X12_sizeless (by omega)) ?_
      refine q_eq (s_X12_lies (by omega)) ?_
      rw [hoff]
      have hw3 : w = 0 ∨ w = 1 ∨ w = 2 := by omega
      rcases hw3 with rfl | rfl | rfl
      · simp only [i3]; refine ⟨⟨by omega, by omega⟩, ⟨by decide, by decide, by simp⟩, by decide⟩
      · simp only [i3]; refine ⟨⟨by omega, by omega⟩, ⟨by decide, by decide, by simp⟩, by decide⟩
      · simp only [i3]; refine ⟨⟨by omega, by omega⟩, ⟨by decide, by decide, by simp⟩, by decide⟩
    · have hw3 : w = 3 := by omega
      subst hw3
      have e : v = q_off g f s form 0 * q_off g f s form 0 + q_off g f s form 1 * q_off g f s form 1 + q_off g f s form 2 * q_off g f s form 2 := by rw [i3]; simp
      rw [hS.1 172 (by decide) (by decide)]
      refine ⟨by omega, by omega, by omega, ?_⟩
      unfold q_cost
      rw [e]
