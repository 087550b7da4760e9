-- THE CLASS'S ROWS: weightOf, leastWeight; a ROW read
def q_at (g : z_St) (p : Nat) (v : Int) : Prop := (p = 0 ∧ v = -1) ∨ ∃ i : Nat, v = (i : Int) ∧ 1 ≤ p ∧ (q_rows g)[i]? = some p
set_option maxRecDepth 100000 in
theorem s_X5_weightOf {g st : z_St} (hB : q_RB g) (hR : q_RC g st) {n : Nat} (hn : q_isRow g n) : J_X5_weightOf n st = some (e_I 1152921504606846976 (q_wt g n)) := by
  have hw1 := hB.2.2.2.2.1.1
  have hlen := q_len_le hB
  have hmb := q_many_bd n
  have hn1 := hn.1
  obtain ⟨m, hm⟩ := q_tree_ex hB
  obtain ⟨r1, r2, r3, r4, r5⟩ := hR
  refine q_of ?_
  simp only [J_X5_weightOf, q_g, q_b, q_let, q_ite, q_some, z32, z64, true_or, or_true, true_and, and_true]
  refine q_mono (P := fun v => ∃ i : Nat, v = (i : Int) ∧ (q_rows g)[i]? = some n) ?_ ?_
  · refine q_loop (fun q => ∃ u : Nat, q.2 = (u : Int) ∧ (u = 1000 ∨ u = 100 ∨ u = 10 ∨ u = 1 ∨ u = 0) ∧ ∃ p : Nat, p = (if u = 0 then n else n / (u * 10)) ∧ q_at g p q.1) (fun q => q.2.toNat) ⟨1000, rfl, Or.inl rfl, 0, by rw [if_neg (by decide)]; omega, Or.inl ⟨rfl, rfl⟩⟩ (by show (1000 : Int).toNat < _; decide) ?_
    rintro ⟨v, v3⟩ ⟨u, i1, i2, p, i3, i4⟩
    dsimp only at i1 i4
    subst i1
    have hv : -1 ≤ v ∧ v < 780 := by
      rcases i4 with ⟨_, h⟩ | ⟨i, h, _, h2⟩
      · omega
      · have h3 : i < q_len g := (List.getElem?_eq_some_iff.mp h2).1
        omega
    simp only [J_X5_weightOf_b6, J_X5_weightOf_33, q_g, q_b, q_let, q_ite, q_some, z32, z64, true_or, or_true, true_and, and_true]
    rw [r1]
    have hten : (u : Int).tdiv 10 = ((u / 10 : Nat) : Int) := by rw [Int.tdiv_eq_ediv_of_nonneg (by omega)]; omega
    obtain ⟨d, hd9⟩ : ∃ d, n / u = d := ⟨_, rfl⟩
    have hdivu : ((n : Int).tdiv u) = ((d : Nat) : Int) := by rw [Int.tdiv_eq_ediv_of_nonneg (by omega), ← hd9]; rfl
    have hmod : ((n : Int).tdiv u).tmod 10 = ((d % 10 : Nat) : Int) := by rw [hdivu, Int.tmod_eq_emod_of_nonneg (by omega)]; omega
    rw [hmod, hten, hdivu]
    have hnu : d ≤ 9999 := by rw [← hd9]; exact Nat.le_trans (Nat.div_le_self _ _) (by omega)
    refine ⟨by omega, fun hpos => ⟨by omega, fun hlt => ⟨by omega, ?_⟩, fun hge => ⟨by omega, by omega, by omega, ?_⟩⟩, fun h0 => ?_⟩
    · refine ⟨⟨u / 10, rfl, by omega, 0, ?_, Or.inl ⟨rfl, ?_⟩⟩, by omega⟩
      · rcases i2 with rfl | rfl | rfl | rfl | rfl
        · simp; omega
        · simp; omega
        · simp; omega
        · omega
        · omega
      · rcases i4 with ⟨_, h⟩ | ⟨i, h, h1, h2⟩
        · exact h
        · exfalso
          rcases i2 with rfl | rfl | rfl | rfl | rfl
          · simp at i3; omega
          · simp at i3; omega
          · simp at i3; omega
          · simp at i3; omega
          · omega
    · have hd : 1 ≤ d % 10 ∧ ((d % 10 : Nat) : Int) ≤ g 168 18 := by
        have hk := fun k (a : 0 ≤ k) (b : k < q_many n) => hn.2 k a b
        unfold q_dig at hk
        have hmq : q_many n = if (n : Int) < 1 then 0 else if (n : Int) < 10 then 1 else if (n : Int) < 100 then 2 else if (n : Int) < 1000 then 3 else if (n : Int) < 10000 then 4 else 0 := rfl
        rcases i2 with rfl | rfl | rfl | rfl | rfl
        · have := hk (q_many n - 1 - 3) (by omega) (by omega)
          rw [show q_many n - 1 - (q_many n - 1 - 3) = 3 by omega, show q_ten 3 = 1000 from rfl] at this
          omega
        · have := hk (q_many n - 1 - 2) (by omega) (by omega)
          rw [show q_many n - 1 - (q_many n - 1 - 2) = 2 by omega, show q_ten 2 = 100 from rfl] at this
          omega
        · have := hk (q_many n - 1 - 1) (by omega) (by omega)
          rw [show q_many n - 1 - (q_many n - 1 - 1) = 1 by omega, show q_ten 1 = 10 from rfl] at this
          omega
        · have := hk (q_many n - 1) (by omega) (by omega)
          rw [show q_many n - 1 - (q_many n - 1) = 0 by omega, show q_ten 0 = 1 from rfl] at this
          omega
        · omega
      have hp : (if u / 10 = 0 then n else n / (u / 10 * 10)) = d ∧ d = 10 * p + d % 10 := by
        rcases i2 with rfl | rfl | rfl | rfl | rfl
        · simp at i3 ⊢; omega
        · simp at i3 ⊢; omega
        · simp at i3 ⊢; omega
        · simp at i3 ⊢; omega
        · omega
      refine ⟨⟨u / 10, rfl, by omega, d, hp.1.symm, Or.inr ?_⟩, by omega⟩
      rcases i4 with ⟨h, hv1⟩ | ⟨i, h, h1, h2⟩
      · refine ⟨d % 10 - 1, by rw [hv1, show (-1 : Int) + 1 = 0 from rfl, Int.mul_zero]; omega, by omega, ?_⟩
        rw [hm.2.2.2.1 _ (by omega), show d % 10 - 1 + 1 = d by omega]
      · have him : i < m := (q_tree_lt hm h2).mpr (by omega)
        refine ⟨(g 168 18).toNat * (i + 1) + (d % 10 - 1), ?_, by omega, ?_⟩
        · simp only [h, Int.natCast_add, Int.natCast_mul, Int.natCast_one, show ((g 168 18).toNat : Int) = g 168 18 by omega]
          omega
        · rw [(hm.2.2.2.2.1 i p him h2).2 _ (by omega), show 10 * p + (d % 10 - 1) + 1 = d by omega]
    · have : u = 0 := by omega
      subst this
      rw [if_pos rfl] at i3
      subst i3
      rcases i4 with ⟨h, _⟩ | ⟨i, h, h1, h2⟩
      · omega
      · exact ⟨i, h, h2⟩
  · rintro v ⟨i, rfl, hi⟩
    have hil : i < q_len g := (List.getElem?_eq_some_iff.mp hi).1
    simp only [J_X5_weightOf, J_X5_weightOf_33, J_X5_weightOf_53, J_X5_weightOf_65, q_g, q_b, q_let, q_ite, q_some, z32, z64, true_or, or_true, true_and, and_true]
    rw [r2, (r5 i n hi).2, q_wl_at hi]
    exact ⟨by omega, fun h => by omega, fun _ => ⟨by omega, fun _ => ⟨by omega, rfl⟩, fun h => by omega⟩⟩
/-- the least WEIGHT -/
def q_least (g : z_St) (o : Option Int) : Prop := (o = none ∧ ∀ i : Nat, i < q_len g → q_wl g i = none) ∨ ∃ (k : Nat) (x : Int), o = some x ∧ k < q_len g ∧ q_wl g k = some x ∧ ∀ (i : Nat) (y : Int), i < q_len g → q_wl g i = some y → x ≤ y
theorem s_X5_leastWeight {g st : z_St} (hB : q_RB g) (hR : q_RC g st) : ∃ o, q_least g o ∧ J_X5_leastWeight st = some (e_I 1152921504606846976 o) := by
  have hlen := q_len_le hB
  obtain ⟨r1, r2, r3, r4, r5⟩ := hR
  rcases r4 with ⟨h1, h2⟩ | ⟨k, x, h1, h2, h3, h4⟩
  · refine ⟨none, Or.inl ⟨rfl, h2⟩, q_of ?_⟩
    simp only [J_X5_leastWeight, J_X5_leastWeight_23, q_g, q_b, q_let, q_ite, q_some, z32, z64, true_or, or_true, true_and, and_true]
    rw [h1]
    exact ⟨by decide, fun _ => rfl, fun h => absurd rfl h⟩
  · refine ⟨some x, Or.inr ⟨k, x, rfl, h2, h3, fun i y a b => (h4 i y a b).1⟩, q_of ?_⟩
    have e := List.getElem?_eq_getElem (l := q_rows g) (i := k) h2
    simp only [J_X5_leastWeight, J_X5_leastWeight_23, q_g, q_b, q_let, q_ite, q_some, z32, z64, true_or, or_true, true_and, and_true]
    rw [h1, (r5 k _ e).2, h3]
    exact ⟨by omega, fun h => by omega, fun _ => ⟨by omega, rfl⟩⟩
/-- the ROW n is read at id -/
def q_rd (id n : Int) (st : z_St) : Prop := st id 1 = q_many n ∧ ∀ k, 0 ≤ k → k < q_many n → st (id + 1) k = q_dig n k
theorem s_read_33 {id n m : Int} {st0 : z_St} (hid : 0 ≤ id) (hm : q_many n = m) (h1 : 1 ≤ m) : q_ok (J_X6_read_33 id n m id st0) (fun st => (∀ x, x ≠ id → x ≠ id + 1 → st x = st0 x) ∧ (∀ k, k ≠ 1 → st id k = st0 id k) ∧ q_rd id n st) := by
  have hb := q_many_bd n
  simp only [J_X6_read_33, q_g, q_b, q_let, q_ite, q_some, z32, z64, true_or, or_true, true_and, and_true]
  rw [z_up_at]
  refine q_loop (fun q => ∃ r : Nat, q.2.1 = (r : Int) - 1 ∧ r ≤ m ∧ q.1 = n / (if m - r = 0 then 1 else if m - r = 1 then 10 else if m - r = 2 then 100 else if m - r = 3 then 1000 else 10000) ∧ (∀ x, x ≠ id + 1 → q.2.2 x = z_up st0 id 1 m x) ∧ ∀ k : Int, r ≤ k → k < m → q.2.2 (id + 1) k = q_dig n k) (fun q => (q.2.1 + 1).toNat) ⟨m.toNat, by show m - 1 = _; omega, by omega, by rw [if_pos (by omega), Int.ediv_one], fun _ _ => rfl, fun k a b => by omega⟩ (by show (m - 1 + 1).toNat < _; omega) ?_
  rintro ⟨u, v, st⟩ ⟨r, i1, i2, i3, i4, i5⟩
  dsimp only at i1 i3 i4 i5
  subst i1
  have hu : 0 ≤ u ∧ u ≤ 9999 := by rw [i3]; (repeat' split) <;> omega
  simp only [J_X6_read_b45, q_g, q_b, q_let, q_ite, q_some, z32, z64, true_or, or_true, true_and, and_true]
  rw [Int.tmod_eq_emod_of_nonneg hu.1, Int.tdiv_eq_ediv_of_nonneg hu.1]
  refine ⟨by omega, fun hx => ⟨fun x x1 x2 => by rw [i4 x x2, q_up_row x1], fun k hk => by rw [i4 id (by omega), z_up_n (by omega)], ?_, fun k a b => ?_⟩, fun hx => ⟨⟨by omega, by decide, by decide⟩, by omega, ⟨by omega, by decide, by decide⟩, ?_⟩⟩
  · rw [i4 id (by omega), z_up_at, hm]
  · exact i5 k (by omega) (by omega)
  · refine ⟨⟨r - 1, by omega, by omega, ?_, fun x hx9 => (q_up_row hx9).trans (i4 x hx9), fun k a b => ?_⟩, by omega⟩
    · rw [i3]
      rw [show ((r - 1 : Nat) : Int) = r - 1 by omega]
      (repeat' split) <;> omega
    · rw [q_up_at]
      by_cases e : k = (r : Int) - 1
      · subst e
        rw [if_pos rfl, i3]
        unfold q_dig q_ten
        rw [hm]
        rw [show m - 1 - ((r : Int) - 1) = m - r by omega]
        (repeat' split) <;> omega
      · rw [if_neg e]; exact i5 k (by omega) b
theorem s_X6_read {id n : Int} {st0 : z_St} (hid : 0 ≤ id) (h1 : 1 ≤ q_many n) : q_ok (J_X6_read id n st0) (fun st => (∀ x, x ≠ id → x ≠ id + 1 → st x = st0 x) ∧ (∀ k, k ≠ 1 → st id k = st0 id k) ∧ q_rd id n st) := by
  have hb := q_many_bd n
  have hm : q_many n = if n < 1 then 0 else if n < 10 then 1 else if n < 100 then 2 else if n < 1000 then 3 else if n < 10000 then 4 else 0 := rfl
  simp only [J_X6_read, q_g, q_b, q_let, q_ite, q_some, z32, z64, true_or, or_true, true_and, and_true]
  refine ⟨by omega, fun a => s_read_33 hid (by omega) (by decide), fun a => ⟨by omega, fun b => s_read_33 hid (by omega) (by decide), fun b => ⟨by omega, fun c => s_read_33 hid (by omega) (by decide), fun c => s_read_33 hid (by omega) (by decide)⟩⟩⟩
theorem s_X6_wordAt {id n k : Int} {st : z_St} (h : q_rd id n st) (hk : -1 ≤ k ∧ k ≤ 5) : J_X6_wordAt id k st = some (if 0 ≤ k ∧ k < q_many n then q_dig n k else -1) := by
  have hb := q_many_bd n
  refine q_of ?_
  simp only [J_X6_wordAt, J_X6_wordAt_12, J_X6_wordAt_22, q_g, q_b, q_let, q_ite, q_some, z32, z64, true_or, or_true, true_and, and_true]
  rw [h.1]
  refine ⟨by omega, fun h1 => by rw [if_neg (by omega)], fun h1 => ⟨by omega, fun h2 => ⟨by omega, by rw [if_pos (by omega)]; exact h.2 k (by omega) h2⟩, fun h2 => by rw [if_neg (by omega)]⟩⟩
