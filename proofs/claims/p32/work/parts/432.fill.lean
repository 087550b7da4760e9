-- THE CLASS'S TABLE: fill
def q_nearK (g : z_St) (K : Int) (st : z_St) : Prop := ∀ s form f, 0 ≤ s → s < K → 0 ≤ form → form ≤ g 173 s → 0 ≤ f → f < g 168 2 → st (101 + (s * 4 + form)) f = q_cost g f s form
theorem s_X0_fillNear {g st0 : z_St} (hC : q_C g st0) (hB : q_RB g) {s : Int} (h : 0 ≤ s ∧ s < g 168 11) :
    q_ok (J_X0_fillNear s (29 + 5 * s) st0) (fun st => (∀ x, (x < 101 + s * 4 ∨ 101 + s * 4 + 3 < x) → st x = st0 x) ∧ ∀ form f : Int, 0 ≤ form → form ≤ g 173 s → 0 ≤ f → f < g 168 2 → st (101 + (s * 4 + form)) f = q_cost g f s form) := by
  have hf1 := hB.1.1
  have hn1 := hB.2.2.1.1
  have ha := hB.2.2.1.2.2.2.1 s (by omega) (by omega)
  simp only [J_X0_fillNear, q_g, q_b, q_let, q_ite, q_some, z32, z64, true_or, or_true, true_and, and_true]
  refine q_loop (fun q => ∃ m : Nat, q.1 = (m : Int) ∧ m ≤ g 173 s + 1 ∧ (∀ x, (x < 101 + s * 4 ∨ 101 + s * 4 + 3 < x) → q.2 x = st0 x) ∧ ∀ form f : Int, 0 ≤ form → form < m → 0 ≤ f → f < g 168 2 → q.2 (101 + (s * 4 + form)) f = q_cost g f s form) (fun q => (5 - q.1).toNat) ⟨0, rfl, by omega, fun _ _ => rfl, fun form f a b => by omega⟩ (by show (5 - (0 : Int)).toNat < _; decide) ?_
  rintro ⟨v, st⟩ ⟨m, i1, i2, i3, i4⟩
  dsimp only at i1 i2 i3 i4
  subst i1
  have hC2 : q_C g st := q_C_D hC (fun x a b c => i3 x (by omega))
  simp only [J_X0_fillNear_b3, q_g, q_b, q_let, q_ite, q_some, z32, z64, true_or, or_true, true_and, and_true]
  rw [(hC2.2.2.1.2.1 s (by omega) (by omega)).1]
  refine ⟨by omega, fun hx => ⟨i3, fun form f a b c d => i4 form f a (by omega) c d⟩, fun hx => ?_⟩
  refine q_mono (P := fun st1 => (∀ x, x ≠ 101 + (s * 4 + m) → st1 x = st x) ∧ ∀ f : Int, 0 ≤ f → f < g 168 2 → st1 (101 + (s * 4 + m)) f = q_cost g f s m) ?_ ?_
  · refine q_loop (fun q => ∃ n : Nat, q.1 = (n : Int) ∧ n ≤ g 168 2 ∧ (∀ x, x ≠ 101 + (s * 4 + m) → q.2 x = st x) ∧ ∀ f : Int, 0 ≤ f → f < n → q.2 (101 + (s * 4 + m)) f = q_cost g f s m) (fun q => (17 - q.1).toNat) ⟨0, rfl, by omega, fun _ _ => rfl, fun f a b => by omega⟩ (by show (17 - (0 : Int)).toNat < _; decide) ?_
    rintro ⟨v, st1⟩ ⟨n, k1, k2, k3, k4⟩
    dsimp only at k1 k2 k3 k4
    subst k1
    have hC3 : q_C g st1 := q_C_D hC2 (fun x a b c => k3 x (by omega))
    simp only [J_X0_fillNear_b15, q_g, q_b, q_let, q_ite, q_some, z32, z64, true_or, or_true, true_and, and_true]
    rw [hC3.1.1]
    refine ⟨by omega, fun hlt => ⟨by omega, ?_⟩, fun hge => ⟨k3, fun f a b => k4 f a (by omega)⟩⟩
    refine q_eq (s_X1_costBy hC3 hB (by omega)) ?_
    refine ⟨by omega, ⟨n + 1, by omega, by omega, fun x hx => (q_up_row hx).trans (k3 x hx), fun f a b => ?_⟩, by omega⟩
    rw [q_up_at]
    by_cases e : f = n
    · subst e; rw [if_pos rfl]
    · rw [if_neg e]; exact k4 f a (by omega)
  · rintro st1 ⟨a1, a2⟩
    refine ⟨⟨m + 1, by omega, by omega, fun x hx => (a1 x (by omega)).trans (i3 x hx), fun form f a b c d => ?_⟩, by omega⟩
    by_cases e : form = m
    · subst e; exact a2 f c d
    · rw [a1 _ (by omega)]; exact i4 form f a (by omega) c d
/-- the class's table holds what it should -/
def q_TC (g st : z_St) : Prop := q_near g st ∧ (∀ w k : Int, 0 ≤ w → w < g 168 18 → 0 ≤ k → k < g 178 w → q_kind g (2 * w + k) st) ∧ (∀ w f t : Int, 0 ≤ w → w < g 168 18 → 0 ≤ f → f < t → t ≤ g 168 2 → st 125 (289 * w + 17 * f + t) = e_I 1152921504606846976 (q_tab g w f t)) ∧ (∀ w f t : Int, 0 ≤ w → w < 5 → 0 ≤ t → t ≤ f → f ≤ 16 → st 125 (289 * w + 17 * f + t) = 1152921504606846976) ∧ ∀ a b : Int, -1 ≤ a → a < g 168 18 → -1 ≤ b → b < g 168 18 → st (128 + a) (b + 1) = q_dear g (q_ix (a + 1)) (q_ix (b + 1))
/-- is the cell one that fill writes? -/
def q_isT (x : Int) : Prop := (61 ≤ x ∧ x ≤ 88 ∧ x % 3 = 1) ∨ (99 ≤ x ∧ x ≤ 133)
theorem s_fill_45 {g st0 : z_St} (hC : q_C g st0) (hB : q_RB g) (hN : q_near g st0) (h0 : ∀ j, 0 ≤ j → j < 1445 → st0 125 j = 1152921504606846976) :
    q_ok (z_iter z_F (fun q9 : (Int × z_St) => J_X0_fill_b45 q9.1 q9.2) (0, st0)) (fun st => (∀ x, x ≠ 133 → x ≠ 125 → ¬ (61 ≤ x ∧ x ≤ 88 ∧ x % 3 = 1) → st x = st0 x) ∧ (∀ w k : Int, 0 ≤ w → w < g 168 18 → 0 ≤ k → k < g 178 w → q_kind g (2 * w + k) st) ∧ (∀ w f t : Int, 0 ≤ w → w < g 168 18 → 0 ≤ f → f < t → t ≤ g 168 2 → st 125 (289 * w + 17 * f + t) = e_I 1152921504606846976 (q_tab g w f t)) ∧ ∀ j, (∀ w f t : Int, 0 ≤ w → w < g 168 18 → 0 ≤ f → f < t → t ≤ g 168 2 → j ≠ 289 * w + 17 * f + t) → st 125 j = st0 125 j) := by
  have hf1 := hB.1.1
  have hw0 := hB.2.2.2.2.1
  have hw1 := hw0.1
  refine q_loop (fun q => ∃ w : Nat, q.1 = (w : Int) ∧ w ≤ g 168 18 ∧ (∀ x, x ≠ 133 → x ≠ 125 → ¬ (61 ≤ x ∧ x ≤ 88 ∧ x % 3 = 1) → q.2 x = st0 x) ∧ (∀ w' k : Int, 0 ≤ w' → w' < w → 0 ≤ k → k < g 178 w' → q_kind g (2 * w' + k) q.2) ∧ (∀ w' f t : Int, 0 ≤ w' → w' < w → 0 ≤ f → f < t → t ≤ g 168 2 → q.2 125 (289 * w' + 17 * f + t) = e_I 1152921504606846976 (q_tab g w' f t)) ∧ ∀ j, (∀ w' f t : Int, 0 ≤ w' → w' < w → 0 ≤ f → f < t → t ≤ g 168 2 → j ≠ 289 * w' + 17 * f + t) → q.2 125 j = st0 125 j) (fun q => (6 - q.1).toNat) ⟨0, rfl, by omega, fun _ _ _ _ => rfl, fun w' k a b => by omega, fun w' f t a b => by omega, fun _ _ => rfl⟩ (by show (6 - (0 : Int)).toNat < _; decide) ?_
  rintro ⟨v, st⟩ ⟨w, i1, i2, i3, i4, i5, i6⟩
  dsimp only at i1 i2 i3 i4 i5 i6
  subst i1
  have hC2 : q_C g st := q_C_D hC (fun x a b c => i3 x (by omega) (by omega) c)
  have hN2 : q_near g st := q_near_of hN hB (fun x a b => i3 x (by omega) (by omega) (by omega))
  simp only [J_X0_fill_b45, q_g, q_b, q_let, q_ite, q_some, z32, z64, true_or, or_true, true_and, and_true]
  rw [hC2.2.2.2.2.1.1]
  refine ⟨by omega, fun hlt => ?_, fun hge => ⟨i3, fun w' k a b => i4 w' k a (by omega), fun w' f t a b => i5 w' f t a (by omega), fun j hj => i6 j (fun w' f t a b => hj w' f t a (by omega))⟩⟩
  have hw2 := hw0.2.1 w (by omega) (by omega)
  refine q_mono (P := fun st1 => (∀ x, x ≠ 133 → x ≠ 125 → ¬ (61 ≤ x ∧ x ≤ 88 ∧ x % 3 = 1) → st1 x = st x) ∧ (∀ w' k : Int, 0 ≤ w' → w' < w → 0 ≤ k → k < g 178 w' → st1 (59 + 3 * (2 * w' + k) + 2) = st (59 + 3 * (2 * w' + k) + 2)) ∧ (∀ k, 0 ≤ k → k < g 178 w → q_kind g (2 * w + k) st1) ∧ (∀ f t : Int, 0 ≤ f → f < t → t ≤ g 168 2 → st1 125 (289 * w + 17 * f + t) = e_I 1152921504606846976 (q_tab g w f t)) ∧ ∀ j, (∀ f t : Int, 0 ≤ f → f < t → t ≤ g 168 2 → j ≠ 289 * w + 17 * f + t) → st1 125 j = st 125 j) ?_ ?_
  · refine q_loop (fun q => ∃ k : Nat, q.1 = (k : Int) ∧ k ≤ g 178 w ∧ (∀ x, x ≠ 133 → x ≠ 125 → ¬ (61 ≤ x ∧ x ≤ 88 ∧ x % 3 = 1) → q.2 x = st x) ∧ (∀ w' k : Int, 0 ≤ w' → w' < w → 0 ≤ k → k < g 178 w' → q.2 (59 + 3 * (2 * w' + k) + 2) = st (59 + 3 * (2 * w' + k) + 2)) ∧ (∀ k' : Int, 0 ≤ k' → k' < k → q_kind g (2 * w + k') q.2) ∧ (∀ f t : Int, 0 ≤ f → f < t → t ≤ g 168 2 → q.2 125 (289 * w + 17 * f + t) = e_I 1152921504606846976 (q_tabk g w f t k)) ∧ ∀ j, (∀ f t : Int, 0 ≤ f → f < t → t ≤ g 168 2 → j ≠ 289 * w + 17 * f + t) → q.2 125 j = st 125 j) (fun q => (3 - q.1).toNat) ⟨0, rfl, by omega, fun _ _ _ _ => rfl, fun _ _ _ _ _ _ => rfl, fun k a b => by omega, fun f t a b c => ?_, fun _ _ => rfl⟩ (by show (3 - (0 : Int)).toNat < _; decide) ?_
    · show st 125 _ = 1152921504606846976
      rw [i6 _ (fun w' f' t' a1 a2 a3 a4 a5 => by omega)]
      exact h0 _ (by omega) (by omega)
    rintro ⟨v, st1⟩ ⟨k, k1, k2, k3, k4, k5, k6, k7⟩
    dsimp only at k1 k2 k3 k4 k5 k6 k7
    subst k1
    have hC3 : q_C g st1 := q_C_D hC2 (fun x a b c => k3 x (by omega) (by omega) c)
    have hN3 : q_near g st1 := q_near_of hN2 hB (fun x a b => k3 x (by omega) (by omega) (by omega))
    simp only [J_X0_fill_b57, q_g, q_b, q_let, q_ite, q_some, z32, z64, true_or, or_true, true_and, and_true]
    rw [hC3.2.2.2.2.1.2.1 w (by omega) (by omega)]
    refine ⟨by omega, by omega, fun hlt2 => ?_, fun hge2 => ⟨k3, k4, fun k' a b => k5 k' a (by omega), fun f t a b c => ?_, k7⟩⟩
    · refine q_eq (s_X4_sayingOf (by omega)) ?_
      refine ⟨by unfold z_isSaying; omega, ?_⟩
      rw [hC3.1.1]
      refine q_mono (s_X0_fillSpans hC3 hB (w := (w : Int)) (k := k) (by omega) hN3 k6) ?_
      rintro st2 ⟨a1, a2, a3, a4⟩
      refine ⟨⟨k + 1, by omega, by omega, fun x x1 x2 x3 => (a1 x x1 x2 (by omega)).trans (k3 x x1 x2 x3), fun w' k' a b c d => ?_, fun k' a b => ?_, a3, fun j hj => (a4 j hj).trans (k7 j hj)⟩, by omega⟩
      · have := hw0.2.1 w' a (by omega)
        rw [a1 _ (by omega) (by omega) (by omega)]; exact k4 w' k' a b c d
      · by_cases e : k' = k
        · subst e; exact a2
        · exact q_kind_of (k5 k' a (by omega)) (a1 _ (by omega) (by omega) (by omega))
    · have e : (g 178 w).toNat = k := by omega
      unfold q_tab
      rw [e]; exact k6 f t a b c
  · rintro st1 ⟨a1, a2, a3, a4, a5⟩
    refine ⟨⟨w + 1, by omega, by omega, fun x x1 x2 x3 => (a1 x x1 x2 x3).trans (i3 x x1 x2 x3), fun w' k a b c d => ?_, fun w' f t a b c d e => ?_, fun j hj => ?_⟩, by omega⟩
    · by_cases e : w' = w
      · subst e; exact a3 k c d
      · exact q_kind_of (i4 w' k a (by omega) c d) (a2 w' k a (by omega) c d)
    · by_cases e9 : w' = w
      · subst e9; exact a4 f t c d e
      · rw [a5 _ (fun f' t' b1 b2 b3 => by omega)]; exact i5 w' f t a (by omega) c d e
    · rw [a5 j (fun f t b1 b2 b3 => hj w f t (by omega) (by omega) b1 b2 b3)]
      exact i6 j (fun w' f t b0 b1 b2 b3 b4 => hj w' f t b0 (by omega) b2 b3 b4)
theorem s_fill_103 {g st0 : z_St} (hC : q_C g st0) (hB : q_RB g) :
    q_ok (z_iter z_F (fun q9 : (Int × z_St) => J_X0_fill_b103 q9.1 q9.2) ((-1), st0)) (fun st => (∀ x, (x < 127 ∨ 132 < x) → st x = st0 x) ∧ ∀ a b : Int, -1 ≤ a → a < g 168 18 → -1 ≤ b → b < g 168 18 → st (128 + a) (b + 1) = q_dear g (q_ix (a + 1)) (q_ix (b + 1))) := by
  have hw0 := hB.2.2.2.2.1
  have hw1 := hw0.1
  refine q_loop (fun q => ∃ n : Nat, q.1 = (n : Int) - 1 ∧ n ≤ g 168 18 + 1 ∧ (∀ x, (x < 127 ∨ 132 < x) → q.2 x = st0 x) ∧ ∀ a b : Int, -1 ≤ a → a < (n : Int) - 1 → -1 ≤ b → b < g 168 18 → q.2 (128 + a) (b + 1) = q_dear g (q_ix (a + 1)) (q_ix (b + 1))) (fun q => (6 - q.1).toNat) ⟨0, rfl, by omega, fun _ _ => rfl, fun a b c d => by omega⟩ (by show (6 - (-1 : Int)).toNat < _; decide) ?_
  rintro ⟨v, st⟩ ⟨n, i1, i2, i3, i4⟩
  dsimp only at i1 i2 i3 i4
  subst i1
  have hC2 : q_C g st := q_C_D hC (fun x a b c => i3 x (by omega))
  simp only [J_X0_fill_b103, q_g, q_b, q_let, q_ite, q_some, z32, z64, true_or, or_true, true_and, and_true]
  rw [hC2.2.2.2.2.1.1]
  refine ⟨by omega, fun hlt => ?_, fun hge => ⟨i3, fun a b c d => i4 a b c (by omega)⟩⟩
  refine q_mono (P := fun st1 => (∀ x, x ≠ 127 + (n : Int) → st1 x = st x) ∧ ∀ b : Int, -1 ≤ b → b < g 168 18 → st1 (127 + (n : Int)) (b + 1) = q_dear g (q_ix n) (q_ix (b + 1))) ?_ ?_
  · refine q_loop (fun q => ∃ m : Nat, q.1 = (m : Int) - 1 ∧ m ≤ g 168 18 + 1 ∧ (∀ x, x ≠ 127 + (n : Int) → q.2 x = st x) ∧ ∀ b : Int, -1 ≤ b → b < (m : Int) - 1 → q.2 (127 + (n : Int)) (b + 1) = q_dear g (q_ix n) (q_ix (b + 1))) (fun q => (6 - q.1).toNat) ⟨0, rfl, by omega, fun _ _ => rfl, fun b c d => by omega⟩ (by show (6 - (-1 : Int)).toNat < _; decide) ?_
    rintro ⟨v, st1⟩ ⟨m, k1, k2, k3, k4⟩
    dsimp only at k1 k2 k3 k4
    subst k1
    have hC3 : q_C g st1 := q_C_D hC2 (fun x a b c => k3 x (by omega))
    have h5 := hC3.2.2.2.2.2.2.2.1
    have hb2 := hB.2.2.2.2.2.1.2
    simp only [J_X0_fill_b115, q_g, q_b, q_let, q_ite, q_some, z32, z64, true_or, or_true, true_and, and_true]
    rw [hC3.2.2.2.2.1.1, h5]
    refine ⟨by omega, fun hlt2 => ⟨by omega, by omega, ?_⟩, fun hge2 => ⟨k3, fun b c d => k4 b c (by omega)⟩⟩
    refine q_eq (s_X2_priceOf hC3 hB (by omega)) ?_
    rw [show (n : Int) - 1 + 1 = n by omega, show (m : Int) - 1 + 1 = m by omega]
    refine ⟨by omega, ⟨m + 1, by omega, by omega, fun x hx => (q_up_row hx).trans (k3 x hx), fun b c d => ?_⟩, by omega⟩
    rw [q_up_at]
    by_cases e : b + 1 = m
    · rw [if_pos e, e]; rfl
    · rw [if_neg e]; exact k4 b c (by omega)
  · rintro st1 ⟨a1, a2⟩
    refine ⟨⟨n + 1, by omega, by omega, fun x hx => (a1 x (by omega)).trans (i3 x hx), fun a b c d e f => ?_⟩, by omega⟩
    by_cases e9 : a + 1 = n
    · rw [show 128 + a = 127 + (n : Int) by omega, e9]; exact a2 b e f
    · rw [a1 _ (by omega)]; exact i4 a b c (by omega) e f
theorem s_X0_fill {g st0 : z_St} (hC : q_C g st0) (hB : q_RB g) : q_ok (J_X0_fill st0) (fun st => (∀ x, ¬ q_isT x → st x = st0 x) ∧ q_TC g st ∧ st 99 4 = 1) := by
  have hf1 := hB.1.1
  have hn1 := hB.2.2.1.1
  have hw0 := hB.2.2.2.2.1
  have hw1 := hw0.1
  simp only [J_X0_fill, q_g, q_b, q_let, q_ite, q_some, z32, z64, true_or, or_true, true_and, and_true]
  refine q_mono (P := fun st => (∀ x, (x < 101 ∨ 124 < x) → st x = st0 x) ∧ q_near g st) ?_ ?_
  · refine q_loop (fun q => ∃ s : Nat, q.1 = (s : Int) ∧ s ≤ g 168 11 ∧ (∀ x, (x < 101 ∨ 124 < x) → q.2 x = st0 x) ∧ q_nearK g s q.2) (fun q => (7 - q.1).toNat) ⟨0, rfl, by omega, fun _ _ => rfl, fun s form f a b => by omega⟩ (by show (7 - (0 : Int)).toNat < _; decide) ?_
    rintro ⟨v, st⟩ ⟨s, i1, i2, i3, i4⟩
    dsimp only at i1 i2 i3 i4
    subst i1
    have hC2 : q_C g st := q_C_D hC (fun x a b c => i3 x (by omega))
    simp only [J_X0_fill_b3, q_g, q_b, q_let, q_ite, q_some, z32, z64, true_or, or_true, true_and, and_true]
    rw [hC2.2.2.1.1]
    refine ⟨by omega, fun hlt => ⟨by omega, ?_⟩, fun hge => ⟨i3, fun s' form f a b => i4 s' form f a (by omega)⟩⟩
    refine q_mono (s_X0_fillNear hC2 hB (s := (s : Int)) (by omega)) ?_
    rintro st1 ⟨a1, a2⟩
    refine ⟨⟨s + 1, by omega, by omega, fun x hx => (a1 x (by omega)).trans (i3 x hx), fun s' form f a b c d e f9 => ?_⟩, by omega⟩
    by_cases e9 : s' = s
    · subst e9; exact a2 form f c d e f9
    · have := hB.2.2.1.2.2.2.1 s' (by omega) (by omega)
      rw [a1 _ (by omega)]; exact i4 s' form f a (by omega) c d e f9
  rintro st1 ⟨a1, a2⟩
  refine q_mono (s_J7_fill (nn := 1445) (x0 := 125) (x1 := 1152921504606846976) (by decide)) ?_
  rintro st2 ⟨b1, b2⟩
  have hC2 : q_C g st2 := q_C_D hC (fun x a b c => (b1 x (by omega)).trans (a1 x (by omega)))
  have hN2 : q_near g st2 := q_near_of a2 hB (fun x a b => b1 x (by omega))
  refine q_mono (s_fill_45 hC2 hB hN2 (fun j j0 j1 => by rw [b2, if_pos (by omega)])) ?_
  rintro st3 ⟨c1, c2, c3, c4⟩
  have hC3 : q_C g st3 := q_C_D hC2 (fun x a b c => c1 x (by omega) (by omega) c)
  refine q_mono (s_fill_103 hC3 hB) ?_
  rintro st4 ⟨d1, d2⟩
  refine ⟨fun x hx => ?_, ⟨?_, fun w k a b c d => ?_, fun w f t a b c d e => ?_, fun w f t a b c d e => ?_, fun a b c d e f => ?_⟩, by rw [z_up_at]⟩
  · unfold q_isT at hx
    rw [q_up_row (by omega), d1 x (by omega), c1 x (by omega) (by omega) (by omega), b1 x (by omega), a1 x (by omega)]
  · exact q_near_of hN2 hB (fun x a b => by rw [q_up_row (by omega), d1 x (by omega), c1 x (by omega) (by omega) (by omega)])
  · have := hw0.2.1 w a (by omega)
    exact q_kind_of (c2 w k a b c d) (by rw [q_up_row (by omega), d1 _ (by omega)])
  · rw [q_up_row (by decide), d1 125 (by decide)]; exact c3 w f t a b c d e
  · rw [q_up_row (by decide), d1 125 (by decide), c4 _ (fun w' f' t' e1 e2 e3 e4 e5 => by omega), b2, if_pos (by omega)]
  · rw [q_up_row (by omega)]; exact d2 a b c d e f
