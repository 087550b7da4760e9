-- THE CLASS'S SEARCH: dropLate, finish, run
theorem q_ob_e1 {beam : Int} {E : Nat → Option (Int × Int)} (hE : ∀ k, q_ob k (E k)) (k : Nat) : q_ob k (q_e1 beam E k) := by
  intro x n h
  unfold q_e1 at h
  cases hEk : E k with
  | none => rw [hEk] at h; cases h
  | some p =>
    obtain ⟨y, m⟩ := p
    rw [hEk] at h
    dsimp only at h
    split at h
    · cases h; exact hE k _ _ hEk
    · cases h
theorem s_X8_dropLate {st0 : z_St} {t : Nat} (ht : t ≤ 16) {most : Int} (hms : 1 ≤ most ∧ most ≤ 2147483647) {E : Nat → Option (Int × Int)} (hE : ∀ k, q_ob k (E k)) (h : ∀ k : Nat, k < 20 → q_cE st0 (20 * (t : Int) + k) (E k)) :
    q_ok (J_X8_dropLate (20 * (t : Int)) most st0) (fun st => q_f3 t st0 st ∧ st 140 3 = st0 140 3 + (q_n2 most E 20 : Int) ∧ ∀ k : Nat, k < 20 → q_cE st (20 * (t : Int) + k) (q_e2 most E k)) := by
  simp only [J_X8_dropLate, q_g, q_b, q_let, q_ite, q_some, z32, z64, true_or, or_true, true_and, and_true]
  refine q_mono (P := fun st => (∀ x, x ≠ 143 → st x = st0 x) ∧ ∀ k : Nat, k < 20 → st 143 k = if ((E k).isSome && (q_e2 most E k).isNone) = true then 1 else 0) ?_ ?_
  · refine q_for0 (fun k st => (∀ x, x ≠ 143 → st x = st0 x) ∧ ∀ k' : Nat, k' < k → st 143 k' = if ((E k').isSome && (q_e2 most E k').isNone) = true then 1 else 0) 20 (by decide) ⟨fun _ _ => rfl, fun k hk => by omega⟩ ?_ ?_
    · rintro k st hk ⟨i1, i2⟩
      have e141 : st 141 = st0 141 := i1 141 (by decide)
      have e142 : st 142 = st0 142 := i1 142 (by decide)
      have hst : ∀ k : Nat, k < 20 → q_cE st (20 * (t : Int) + k) (E k) := fun k hk => q_cE_of (h k hk) (by rw [e141]) (by rw [e142])
      have w45 : ∀ s0 : Int, s0 = (if ((E k).isSome && (q_e2 most E k).isNone) = true then 1 else 0) → q_ok (J_X8_dropLate_45 (20 * (t : Int)) most k s0 k st) (fun r => ∃ s', r = .inl ((k : Int) + 1, s') ∧ (∀ x, x ≠ 143 → s' x = st0 x) ∧ ∀ k' : Nat, k' < k + 1 → s' 143 k' = if ((E k').isSome && (q_e2 most E k').isNone) = true then 1 else 0) := by
        intro s0 hs0
        simp only [J_X8_dropLate_45, q_g, q_b, q_let, q_ite, q_some, z32, z64, true_or, or_true, true_and, and_true]
        refine ⟨⟨by omega, by rw [hs0]; split <;> omega⟩, _, rfl, fun x hx => (q_up_row hx).trans (i1 x hx), fun k' hk' => ?_⟩
        rw [q_up_at]
        by_cases e : k' = k
        · subst e; rw [if_pos rfl]; exact hs0
        · rw [if_neg (by omega)]; exact i2 k' (by omega)
      simp only [J_X8_dropLate_b2, J_X8_dropLate_44, q_g, q_b, q_let, q_ite, q_some, z32, z64, true_or, or_true, true_and, and_true]
      refine ⟨by omega, fun _ => ⟨by omega, ?_⟩, fun h9 => by omega⟩
      have hk1 := hst k hk
      cases hEk : E k with
      | none =>
        rw [hEk] at hk1
        have z : st 141 (20 * (t : Int) + k) = 1152921504606846976 := hk1
        rw [z]
        exact ⟨by decide, fun h9 => absurd h9 (by decide), fun _ => w45 0 (by rw [hEk]; rfl)⟩
      | some p =>
        obtain ⟨x, n⟩ := p
        rw [hEk] at hk1
        have hx := q_ob_at hk (hE k) x n hEk
        have hah : q_ahd E k ≤ 20 := e_cnt_le 20
        have he2 : q_e2 most E k = if (q_ahd E k : Int) < most then some (x, n) else none := by unfold q_e2; rw [hEk]
        rw [hk1.1]
        refine ⟨by omega, fun _ => ?_, fun h9 => by omega⟩
        refine q_eq (s_X8_countAhead ht (fun k hk => q_ob_at hk (hE k)) hst hk hEk) ?_
        refine ⟨by omega, fun h1 => w45 0 (by rw [he2, if_pos h1, hEk]; rfl), fun h1 => w45 1 (by rw [he2, if_neg h1, hEk]; rfl)⟩
    · rintro st ⟨i1, i2⟩
      simp only [J_X8_dropLate_b2, q_g, q_b, q_let, q_ite, q_some, z32, z64, true_or, or_true, true_and, and_true]
      exact ⟨by decide, fun h9 => absurd h9 (by decide), fun _ => ⟨_, rfl, i1, i2⟩⟩
  · rintro st1 ⟨a1, a2⟩
    refine q_for0 (fun k st => q_f3 t st0 st ∧ st 143 = st1 143 ∧ st 140 3 = st0 140 3 + (q_n2 most E k : Int) ∧ (∀ k' : Nat, k' < k → q_cE st (20 * (t : Int) + k') (q_e2 most E k')) ∧ ∀ k' : Nat, k ≤ k' → k' < 20 → q_cE st (20 * (t : Int) + k') (E k')) 20 (by decide) ⟨⟨fun x _ _ x3 => a1 x x3, fun _ _ => by rw [a1 140 (by decide)], fun _ _ => by rw [a1 141 (by decide)]⟩, rfl, by rw [a1 140 (by decide)]; exact (Int.add_zero _).symm, fun k hk => by omega, fun k _ hk => q_cE_of (h k hk) (by rw [a1 141 (by decide)]) (by rw [a1 142 (by decide)])⟩ ?_ ?_
    · rintro k st hk ⟨⟨i1, i2, i3⟩, i7, i4, i5, i6⟩
      have hk1 := i6 k (Nat.le_refl _) hk
      have es : q_n2 most E (k + 1) = q_n2 most E k + (if ((E k).isSome && (q_e2 most E k).isNone) = true then 1 else 0) := rfl
      have hor : q_e2 most E k = E k ∨ q_e2 most E k = none := by
        cases hEk : E k with
        | none => exact Or.inl (by unfold q_e2; rw [hEk])
        | some p =>
          obtain ⟨x, n⟩ := p
          have : q_e2 most E k = if (q_ahd E k : Int) < most then some (x, n) else none := by unfold q_e2; rw [hEk]
          rw [this]
          split
          · exact Or.inl rfl
          · exact Or.inr rfl
      simp only [J_X8_dropLate_b54, J_X8_dropLate_76, q_g, q_b, q_let, q_ite, q_some, z32, z64, true_or, or_true, true_and, and_true]
      rw [i7, a2 k hk]
      refine ⟨by omega, fun _ => ⟨by omega, by split <;> decide, fun h1 => ?_, fun h1 => ?_⟩, fun h9 => by omega⟩
      · have hb : ¬ ((E k).isSome && (q_e2 most E k).isNone) = true := fun h9 => by rw [if_pos h9] at h1; cases h1
        have he : q_e2 most E k = E k := by
          rcases hor with h9 | h9
          · exact h9
          · rw [h9] at hb ⊢
            cases hEk : E k with
            | none => rfl
            | some p => rw [hEk] at hb; exact absurd rfl hb
        refine ⟨_, rfl, ⟨i1, i2, i3⟩, i7, ?_, fun k' hk' => ?_, fun k' a b => i6 k' (by omega) b⟩
        · rw [es, if_neg hb, i4]; rfl
        · by_cases e : k' = k
          · subst e; rw [he]; exact hk1
          · exact i5 k' (by omega)
      · have hb : ((E k).isSome && (q_e2 most E k).isNone) = true := by
          apply Classical.byContradiction
          intro h9; rw [if_neg h9] at h1; exact h1 rfl
        have he : q_e2 most E k = none := by
          simp only [Bool.and_eq_true] at hb
          exact Option.isNone_iff_eq_none.mp hb.2
        refine q_eq (s_X8_drop (by omega)) ?_
        refine ⟨_, rfl, ⟨fun x x1 x2 x3 => by rw [q_up_row x1, q_up_row x2]; exact i1 x x1 x2 x3, fun j hj => by rw [z_up_n (by omega), q_up_row (by decide)]; exact i2 j hj, fun j hj => by rw [q_up_row (by decide), q_up_at, if_neg (by omega)]; exact i3 j hj⟩, by rw [q_up_row (by decide), q_up_row (by decide)]; exact i7, ?_, fun k' hk' => ?_, fun k' a b => ?_⟩
        · rw [z_up_at, es, if_pos hb, i4]; omega
        · by_cases e : k' = k
          · subst e
            rw [he]
            show _ = (1152921504606846976 : Int)
            rw [q_up_row (by decide), z_up_at]
          · exact q_cE_of (i5 k' (by omega)) (by rw [q_up_row (by decide), q_up_at, if_neg (by omega)]) (by rw [q_up_row (by decide), q_up_row (by decide)])
        · exact q_cE_of (i6 k' (by omega) b) (by rw [q_up_row (by decide), q_up_at, if_neg (by omega)]) (by rw [q_up_row (by decide), q_up_row (by decide)])
    · rintro st ⟨i1, i7, i4, i5, i6⟩
      simp only [J_X8_dropLate_b54, q_g, q_b, q_let, q_ite, q_some, z32, z64, true_or, or_true, true_and, and_true]
      exact ⟨by decide, fun h9 => absurd h9 (by decide), fun _ => ⟨_, rfl, i1, i4, i5⟩⟩
/-- how the class holds the best of the ends -/
def q_cF (st : z_St) (o : Option (Int × Int)) : Prop := match o with
  | none => st 140 4 = -1 ∧ st 140 5 = -1
  | some (x, n) => st 140 5 = x ∧ st 140 4 = n
theorem s_X8_finish {g st0 : z_St} (hB : q_RB g) (hT : q_TC g st0) {H : Nat → Nat → Option (Int × Int)} (hH : q_Hb g H) {T : Nat} (hT9 : T ≤ 16) (hh : ∀ k : Nat, k < 20 → q_cE st0 (20 * (T : Int) + k) (H T k)) :
    q_ok (J_X8_finish (g 168 18) T st0) (fun st => (∀ x, x ≠ 140 → st x = st0 x) ∧ (∀ j, j ≠ 4 → j ≠ 5 → st 140 j = st0 140 j) ∧ q_cF st (q_lp (q_fc g H T) 20)) := by
  have hw1 := hB.2.2.2.2.1.1
  simp only [J_X8_finish, q_g, q_b, q_let, q_ite, q_some, z32, z64, true_or, or_true, true_and, and_true]
  refine q_for (fun i st => (∀ x, x ≠ 140 → st x = st0 x) ∧ (∀ j, j ≠ 4 → j ≠ 5 → st 140 j = st0 140 j) ∧ q_cF st (q_lp (q_fc g H T) (5 * i))) 1 4 (by decide) ⟨fun x hx => by rw [q_up_row hx, q_up_row hx], fun j j1 j2 => by rw [z_up_n (by omega), z_up_n (by omega)], by rw [z_up_n (by decide), z_up_at], by rw [z_up_at]⟩ ?_ ?_
  · rintro i st hi ⟨i1, i2, i3⟩
    simp only [J_X8_finish_b15, q_g, q_b, q_let, q_ite, q_some, z32, z64, true_or, or_true, true_and, and_true]
    refine ⟨by omega, fun h9 => by omega, fun _ => ?_⟩
    refine q_mono (P := fun st => (∀ x, x ≠ 140 → st x = st0 x) ∧ (∀ j, j ≠ 4 → j ≠ 5 → st 140 j = st0 140 j) ∧ q_cF st (q_lp (q_fc g H T) (5 * (i + 1)))) ?_ (fun st h => ⟨_, rfl, h⟩)
    refine q_for0 (fun w st => (∀ x, x ≠ 140 → st x = st0 x) ∧ (∀ j, j ≠ 4 → j ≠ 5 → st 140 j = st0 140 j) ∧ q_cF st (q_lp (q_fc g H T) (5 * i + w))) (g 168 18).toNat (by omega) ⟨i1, i2, i3⟩ ?_ ?_
    · rintro w st hw ⟨i1, i2, i3⟩
      have hT1 : q_TC g st := q_TC_of hT hB (fun x a b => by unfold q_isT at a; exact i1 x (by omega))
      have hcell : q_cE st (20 * (T : Int) + ((5 * i + w : Nat) : Int)) (H T (5 * i + w)) := q_cE_of (hh (5 * i + w) (by omega)) (by rw [i1 141 (by decide)]) (by rw [i1 142 (by decide)])
      have es : q_lp (q_fc g H T) (5 * i + (w + 1)) = q_put (q_lp (q_fc g H T) (5 * i + w)) (q_fc g H T (5 * i + w)) := rfl
      have hlpb := q_lp_b (c := q_fc g H T) (n := 5 * i + w) (fun j hj => q_fc_b hB hH (by omega))
      have hdw := q_dear_w hB (v := w) (w := w) (by omega) (by omega)
      simp only [J_X8_finish_b24, q_g, q_b, q_let, q_ite, q_some, z32, z64, true_or, or_true, true_and, and_true]
      refine ⟨by omega, fun _ => ⟨by omega, ?_⟩, fun h9 => by omega⟩
      refine q_eq (q_toll hT1 (by omega) (by omega) hw1.2) ?_
      rw [if_neg (by omega), if_pos rfl, show (T : Int) * 20 + (1 + (i : Int) - 1) * 5 + w = 20 * (T : Int) + ((5 * i + w : Nat) : Int) by omega]
      have stay : q_lp (q_fc g H T) (5 * i + (w + 1)) = q_lp (q_fc g H T) (5 * i + w) → q_ok (J_X8_finish_160 (g 168 18) T (1 + i) w st) (fun r => ∃ s', r = .inl ((w : Int) + 1, s') ∧ (∀ x, x ≠ 140 → s' x = st0 x) ∧ (∀ j, j ≠ 4 → j ≠ 5 → s' 140 j = st0 140 j) ∧ q_cF s' (q_lp (q_fc g H T) (5 * i + (w + 1)))) := fun he => by
        simp only [J_X8_finish_160, q_g, q_b, q_let, q_ite, q_some, z32, z64, true_or, or_true, true_and, and_true]
        exact ⟨_, rfl, i1, i2, by rw [he]; exact i3⟩
      have hwd : q_dear g ((5 * i + w) % 5 : Nat) 5 = q_dear g w 5 := by rw [show (5 * i + w) % 5 = w by omega]
      obtain ⟨D, hD⟩ : ∃ D, q_dear g w 5 = D := ⟨_, rfl⟩
      rw [hD] at hdw hwd ⊢
      cases hHk : H T (5 * i + w) with
      | none =>
        rw [hHk] at hcell
        have z : st 141 (20 * (T : Int) + ((5 * i + w : Nat) : Int)) = 1152921504606846976 := hcell
        have hfc : q_fc g H T (5 * i + w) = none := by unfold q_fc; rw [hHk]
        rw [hfc, q_put_none] at es
        rw [z]
        have h117 : ∀ u v9 s0 : Int, q_ok (J_X8_finish_117 (g 168 18) T (1 + i) w (20 * (T : Int) + ((5 * i + w : Nat) : Int)) u v9 s0 st) (fun r => ∃ s', r = .inl ((w : Int) + 1, s') ∧ (∀ x, x ≠ 140 → s' x = st0 x) ∧ (∀ j, j ≠ 4 → j ≠ 5 → s' 140 j = st0 140 j) ∧ q_cF s' (q_lp (q_fc g H T) (5 * i + (w + 1)))) := fun u v9 s0 => by
          simp only [J_X8_finish_117, q_g, q_b, q_let, q_ite, q_some, z32, z64, true_or, or_true, true_and, and_true]
          rw [z]
          exact ⟨by omega, by decide, fun h9 => absurd h9 (by decide), fun _ => stay es⟩
        have hF : -1 ≤ st 140 4 ∧ st 140 4 ≤ 100000 ∧ -1 ≤ st 140 5 ∧ st 140 5 ≤ 10000000000000 := by
          cases hq : q_lp (q_fc g H T) (5 * i + w) with
          | none => rw [hq] at i3; have := i3.1; have := i3.2; omega
          | some p => obtain ⟨x, n⟩ := p; rw [hq] at i3; have := hlpb x n hq; have := i3.1; have := i3.2; omega
        simp only [J_X8_finish_81, J_X8_finish_86, J_X8_finish_116, q_g, q_b, q_let, q_ite, q_some, z32, z64, true_or, or_true, true_and, and_true]
        refine ⟨by omega, fun _ => ⟨by omega, fun h9 => by omega, fun _ => h117 _ _ _⟩, fun _ => ⟨by omega, fun h9 => by omega, fun _ => ⟨by omega, fun h9 => by omega, fun _ => h117 _ _ _⟩⟩⟩
      | some p =>
        obtain ⟨x, n⟩ := p
        rw [hHk] at hcell
        have hx := q_ob_at (by omega) (hH T (5 * i + w)).1 x n hHk
        have hfc : q_fc g H T (5 * i + w) = some (x + D, n) := by unfold q_fc; rw [hHk]; show some (_, _) = _; rw [hwd]
        rw [hfc] at es
        have h143 : q_lp (q_fc g H T) (5 * i + (w + 1)) = some (x + D, n) → q_ok (J_X8_finish_143 (g 168 18) T (1 + i) w (20 * (T : Int) + ((5 * i + w : Nat) : Int)) (x + D) st) (fun r => ∃ s', r = .inl ((w : Int) + 1, s') ∧ (∀ x, x ≠ 140 → s' x = st0 x) ∧ (∀ j, j ≠ 4 → j ≠ 5 → s' 140 j = st0 140 j) ∧ q_cF s' (q_lp (q_fc g H T) (5 * i + (w + 1)))) := fun he => by
          simp only [J_X8_finish_143, J_X8_finish_160, q_g, q_b, q_let, q_ite, q_some, z32, z64, true_or, or_true, true_and, and_true]
          refine ⟨by omega, _, rfl, fun x hx => by rw [q_up_row hx, q_up_row hx]; exact i1 x hx, fun j j1 j2 => by rw [z_up_n (by omega), z_up_n (by omega)]; exact i2 j j1 j2, ?_⟩
          rw [he]
          exact ⟨by rw [z_up_at], by rw [z_up_n (by decide), z_up_at]; exact hcell.2⟩
        have h117 : ∀ v9 s0 : Int, (v9 = 0 ∨ v9 = 1) → (s0 = 0 ∨ s0 = 1) → ((v9 = 0 ∧ s0 = 0) → q_lp (q_fc g H T) (5 * i + (w + 1)) = q_lp (q_fc g H T) (5 * i + w)) → (¬ (v9 = 0 ∧ s0 = 0) → q_lp (q_fc g H T) (5 * i + (w + 1)) = some (x + D, n)) → q_ok (J_X8_finish_117 (g 168 18) T (1 + i) w (20 * (T : Int) + ((5 * i + w : Nat) : Int)) (x + D) v9 s0 st) (fun r => ∃ s', r = .inl ((w : Int) + 1, s') ∧ (∀ x, x ≠ 140 → s' x = st0 x) ∧ (∀ j, j ≠ 4 → j ≠ 5 → s' 140 j = st0 140 j) ∧ q_cF s' (q_lp (q_fc g H T) (5 * i + (w + 1)))) := fun v9 s0 hv hs hy hn => by
          simp only [J_X8_finish_117, q_g, q_b, q_let, q_ite, q_some, z32, z64, true_or, or_true, true_and, and_true]
          rw [hcell.1]
          exact ⟨by omega, by omega, fun _ => ⟨by omega, fun h0 => ⟨by omega, fun h1 => stay (hy ⟨h0, h1⟩), fun h1 => h143 (hn (fun h9 => h1 h9.2))⟩, fun h0 => h143 (hn (fun h9 => h0 h9.1))⟩, fun h9 => by omega⟩
        rw [hcell.1]
        cases hq : q_lp (q_fc g H T) (5 * i + w) with
        | none =>
          rw [hq] at i3 es h117
          obtain ⟨f1, f2⟩ := i3
          have es2 : q_lp (q_fc g H T) (5 * i + (w + 1)) = some (x + D, n) := es
          simp only [J_X8_finish_81, J_X8_finish_86, J_X8_finish_116, q_g, q_b, q_let, q_ite, q_some, z32, z64, true_or, or_true, true_and, and_true]
          rw [f1, f2, hcell.2]
          refine ⟨by decide, fun _ => ⟨by omega, fun h9 => by omega, fun _ => h117 1 0 (Or.inr rfl) (Or.inl rfl) (fun h9 => absurd h9.1 (by decide)) (fun _ => es2)⟩, fun h9 => by first | exact absurd rfl h9 | exact absurd trivial h9⟩
        | some p =>
          obtain ⟨y, m⟩ := p
          have hy := hlpb y m hq
          rw [hq] at i3 es h117
          obtain ⟨f1, f2⟩ := i3
          have es2 : q_lp (q_fc g H T) (5 * i + (w + 1)) = if x + D < y ∨ (x + D = y ∧ n < m) then some (x + D, n) else some (y, m) := es
          simp only [J_X8_finish_81, J_X8_finish_86, J_X8_finish_116, q_g, q_b, q_let, q_ite, q_some, z32, z64, true_or, or_true, true_and, and_true]
          rw [f1, f2, hcell.2]
          refine ⟨by omega, fun h9 => by omega, fun _ => ⟨by omega, fun h1 => ⟨by omega, fun h2 => by omega, fun _ => h117 1 0 (Or.inr rfl) (Or.inl rfl) (fun h9 => absurd h9.1 (by decide)) (fun _ => by rw [es2, if_pos (Or.inl h1)])⟩, fun h1 => ⟨by omega, fun h2 => ⟨by omega, by omega, fun h3 => h117 0 1 (Or.inl rfl) (Or.inr rfl) (fun h9 => absurd h9.2 (by decide)) (fun _ => by rw [es2, if_pos (Or.inr ⟨h2, h3⟩)]), fun h3 => h117 0 0 (Or.inl rfl) (Or.inl rfl) (fun _ => by rw [es2, if_neg (by omega)]) (fun h9 => absurd ⟨rfl, rfl⟩ h9)⟩, fun h2 => h117 0 0 (Or.inl rfl) (Or.inl rfl) (fun _ => by rw [es2, if_neg (by omega)]) (fun h9 => absurd ⟨rfl, rfl⟩ h9)⟩⟩⟩
    · rintro st ⟨i1, i2, i3⟩
      simp only [J_X8_finish_b24, q_g, q_b, q_let, q_ite, q_some, z32, z64, true_or, or_true, true_and, and_true]
      refine ⟨by omega, fun h9 => by omega, fun _ => ⟨_, rfl, i1, i2, ?_⟩⟩
      rw [q_lp_skip (a := 5 * i + (g 168 18).toNat) (b := 5 * (i + 1)) (by omega) (fun j j1 j2 => by
        unfold q_fc
        rw [(hH T j).2 (by omega)])]
      exact i3
  · rintro st ⟨i1, i2, i3⟩
    simp only [J_X8_finish_b15, q_g, q_b, q_let, q_ite, q_some, z32, z64, true_or, or_true, true_and, and_true]
    exact ⟨by decide, fun _ => ⟨_, rfl, i1, i2, i3⟩, fun h9 => absurd (by decide) h9⟩
