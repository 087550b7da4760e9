-- THE CLASS'S ROWS: fill
/-- what is known of the tree of rows -/
def q_tree (g : z_St) (m : Nat) : Prop := m ≤ 155 ∧ q_len g = (g 168 18).toNat * (m + 1) ∧ m ≤ q_len g ∧ (∀ j, j < (g 168 18).toNat → (q_rows g)[j]? = some (j + 1)) ∧ (∀ i n, i < m → (q_rows g)[i]? = some n → n < 1000 ∧ ∀ j, j < (g 168 18).toNat → (q_rows g)[(g 168 18).toNat * (i + 1) + j]? = some (10 * n + j + 1)) ∧ ∀ i n, m ≤ i → (q_rows g)[i]? = some n → 1000 ≤ n
theorem q_tree_ex {g : z_St} (hB : q_RB g) : ∃ m, q_tree g m := by
  have hw1 := hB.2.2.2.2.1.1
  obtain ⟨m, h⟩ := q_rows_tree (w := (g 168 18).toNat) (by omega)
  exact ⟨m, h⟩
theorem q_tree_lt {g : z_St} {m cnt n : Nat} (hm : q_tree g m) (h : (q_rows g)[cnt]? = some n) : cnt < m ↔ n < 1000 := by
  constructor
  · intro h1; exact (hm.2.2.2.2.1 cnt n h1 h).1
  · intro h1
    apply Classical.byContradiction
    intro h2
    have := hm.2.2.2.2.2 cnt n (by omega) h
    omega
theorem q_rows_pos {g : z_St} (hB : q_RB g) {i n : Nat} (h : (q_rows g)[i]? = some n) : 1 ≤ n := by
  have h1 := (q_rows_isRow hB h).1
  have h2 := q_many_bd n
  omega
theorem s_X5_addChildren {g st0 : z_St} (hB : q_RB g) (hT : q_TC g st0) {m b0 : Nat} (hm : q_tree g m) {v1 : Int} {num : Nat → Nat} (hv : (v1 = -1 ∧ ∀ j, num j = j + 1) ∨ ∃ i n : Nat, v1 = (i : Int) ∧ i < m ∧ i < b0 ∧ (q_rows g)[i]? = some n ∧ ∀ j, num j = 10 * n + j + 1)
    (hl : ∀ j, j < (g 168 18).toNat → (q_rows g)[b0 + j]? = some (num j)) (h0 : q_RT g m b0 st0) :
    q_ok (J_X5_addChildren v1 (g 168 2) st0) (fun st => (∀ x, ¬ q_isR x → st x = st0 x) ∧ (∀ k, (k < 6 ∨ 8 < k) → st 134 k = st0 134 k) ∧ q_RT g m (b0 + (g 168 18).toNat) st) := by
  have hw1 := hB.2.2.2.2.1.1
  have hlen := q_len_le hB
  have hm155 := hm.1
  simp only [J_X5_addChildren, q_g, q_b, q_let, q_ite, q_some, z32, z64, true_or, or_true, true_and, and_true]
  refine q_loop (fun q => ∃ j : Nat, q.1 = (j : Int) ∧ j ≤ g 168 18 ∧ (∀ x, ¬ q_isR x → q.2 x = st0 x) ∧ (∀ k, (k < 6 ∨ 8 < k) → q.2 134 k = st0 134 k) ∧ q_RT g m (b0 + j) q.2) (fun q => (6 - q.1).toNat) ⟨0, rfl, by omega, fun _ _ => rfl, fun _ _ => rfl, h0⟩ (by show (6 - (0 : Int)).toNat < _; decide) ?_
  rintro ⟨v, st⟩ ⟨j, i1, i2, i3, i4, i5⟩
  dsimp only at i1 i2 i3 i4 i5
  subst i1
  simp only [J_X5_addChildren_b3, q_g, q_b, q_let, q_ite, q_some, z32, z64, true_or, or_true, true_and, and_true]
  rw [i5.1, i5.2.1]
  refine ⟨by omega, fun hlt => ?_, fun hge => ?_⟩
  · have hlj := hl j (by omega)
    have hjl : b0 + j < q_len g := (List.getElem?_eq_some_iff.mp hlj).1
    have hT2 : q_TC g st := q_TC_of hT hB (fun x a b => by unfold q_isT at a; exact i3 x (by unfold q_isR; omega))
    have hpar : ∀ st', (∀ i : Int, i ≠ ((b0 + j : Nat) : Int) → st' 135 i = st 135 i) → (∀ i : Int, (i < ((b0 + j : Nat) : Int) * 17 ∨ ((b0 + j : Nat) : Int) * 17 + 16 < i) → st' 137 i = st 137 i) → q_par g v1 num st' := by
      intro st' k1 k2
      rcases hv with hv | ⟨i, n, rfl, hi, hib, hn, hnum⟩
      · exact Or.inl hv
      · have h6 := i5.2.2.2.2.2 i n (by omega) hn
        refine Or.inr ⟨i, n, rfl, by omega, hn, q_rows_pos hB hn, (hm.2.2.2.2.1 i n hi hn).1, hnum, ?_, fun t ht => ?_⟩
        · rw [k1 _ (by omega)]; exact h6.1
        · have hf1 := hB.1.1
          rw [k2 _ (by omega)]; exact h6.2.2 hi t ht
    have hlast : q_dig (num j) (q_many (num j) - 1) = j := by
      rcases hv with ⟨_, hnum⟩ | ⟨i, n, _, hi, hib, hn, hnum⟩
      · rw [hnum]
        have := q_dig_1 (j := j) (by omega)
        rw [this.1]; exact this.2
      · have hn9 := (hm.2.2.2.2.1 i n hi hn).1
        rw [hnum, q_many_ch (q_rows_pos hB hn) hn9 (by omega), show q_many n + 1 - 1 = q_many n by omega]
        exact q_dig_ch2 (q_rows_pos hB hn) hn9 (by omega)
    have key := s_addChildren_1 hB hT2 hm155 (v1 := v1) (num := num) (j := j) (cnt := b0 + j) (n := num j) (by omega) hpar hlj rfl (q_tree_lt hm hlj) hlast i5
    have key2 : q_ok (J_X5_addChildren_56 v1 (g 168 2) j (num j) ((b0 + j : Nat) : Int) st) (fun r => match r with
        | .inl s' => (∃ j' : Nat, s'.1 = (j' : Int) ∧ j' ≤ g 168 18 ∧ (∀ x, ¬ q_isR x → s'.2 x = st0 x) ∧ (∀ k, (k < 6 ∨ 8 < k) → s'.2 134 k = st0 134 k) ∧ q_RT g m (b0 + j') s'.2) ∧ (6 - s'.1).toNat < (6 - (j : Int)).toNat
        | .inr st => (∀ x, ¬ q_isR x → st x = st0 x) ∧ (∀ k, (k < 6 ∨ 8 < k) → st 134 k = st0 134 k) ∧ q_RT g m (b0 + (g 168 18).toNat) st) := by
      refine q_mono key ?_
      intro r hr
      cases r with
      | inr x => exact absurd hr id
      | inl s' =>
        obtain ⟨c1, c2, c3, c4, c5, c6⟩ := hr
        exact ⟨⟨j + 1, by rw [c1]; omega, by omega, fun x hx => (c2 x hx).trans (i3 x hx), fun k hk => (c3 k hk).trans (i4 k hk), c6⟩, by rw [c1]; omega⟩
    refine ⟨by omega, fun _ => ⟨?_, fun hv1 => ?_, fun hv1 => ⟨?_, ?_⟩⟩, fun h9 => by omega⟩
    · rcases hv with ⟨h, _⟩ | ⟨i, n, h, hi, _⟩ <;> omega
    · rcases hv with ⟨_, hnum⟩ | ⟨i, n, h, _⟩
      · have : ((num j : Nat) : Int) = (j : Int) + 1 := by rw [hnum]; omega
        rw [this] at key2
        exact q_mono key2 (fun r hr => by cases r <;> exact hr)
      · omega
    · rcases hv with ⟨h, _⟩ | ⟨i, n, h, hi, _⟩ <;> omega
    · rcases hv with ⟨h, _⟩ | ⟨i, n, h, hi, hib, hn, hnum⟩
      · exact absurd h hv1
      · have h6 := (i5.2.2.2.2.2 i n (by omega) hn).1
        have : ((num j : Nat) : Int) = st 135 v1 * 10 + j + 1 := by rw [hnum, h, h6]; omega
        rw [this] at key2
        exact q_mono key2 (fun r hr => by cases r <;> exact hr)
  · have e : (g 168 18).toNat = j := by omega
    rw [e]
    exact ⟨i3, i4, i5⟩
/-- the class's rows hold what they should -/
def q_RC (g st : z_St) : Prop := st 134 5 = g 168 18 ∧ st 134 6 = (q_len g : Int) ∧ st 134 7 = (e_cnt (fun k => (q_wl g k).isSome) (q_len g) : Int) ∧ q_lead g (q_len g) (st 134 8) ∧ ∀ i n : Nat, (q_rows g)[i]? = some n → st 135 i = n ∧ st 136 i = e_I 1152921504606846976 (q_wl g i)
theorem s_X5_fill {g st0 : z_St} (hB : q_RB g) (hT : q_TC g st0) : q_ok (J_X5_fill (g 168 18) (g 168 2) st0) (fun st => (∀ x, ¬ q_isR x → st x = st0 x) ∧ (∀ k, k < 5 → st 134 k = st0 134 k) ∧ q_RC g st ∧ st 134 9 = 1 ∧ st 134 10 = 0) := by
  have hw1 := hB.2.2.2.2.1.1
  have hlen := q_len_le hB
  obtain ⟨m, hm⟩ := q_tree_ex hB
  have hm155 := hm.1
  simp only [J_X5_fill, q_g, q_b, q_let, q_ite, q_some, z32, z64, true_or, or_true, true_and, and_true]
  have hT1 : q_TC g (z_up (z_up (z_up (z_up st0 134 5 (g 168 18)) 134 6 0) 134 7 0) 134 8 (-1)) := q_TC_of hT hB (fun x a b => by unfold q_isT at a; rw [q_up_row (by omega), q_up_row (by omega), q_up_row (by omega), q_up_row (by omega)])
  have h1 : q_RT g m 0 (z_up (z_up (z_up (z_up st0 134 5 (g 168 18)) 134 6 0) 134 7 0) 134 8 (-1)) := by
    refine ⟨?_, ?_, by omega, ?_, ?_, fun i n h => by omega⟩
    · rw [z_up_n (by decide), z_up_n (by decide), z_up_n (by decide), z_up_at]
    · rw [z_up_n (by decide), z_up_n (by decide), z_up_at]; rfl
    · rw [z_up_n (by decide), z_up_at]; rfl
    · rw [z_up_at]; exact Or.inl ⟨rfl, fun i h => by omega⟩
  refine q_mono (s_X5_addChildren hB hT1 hm (v1 := -1) (b0 := 0) (num := fun j => j + 1) (Or.inl ⟨rfl, fun _ => rfl⟩) (fun j hj => by rw [Nat.zero_add]; exact hm.2.2.2.1 j hj) h1) ?_
  rintro st1 ⟨a1, a2, a3⟩
  have a0 : ∀ x, ¬ q_isR x → st1 x = st0 x := fun x hx => by
    rw [a1 x hx]; unfold q_isR at hx
    rw [q_up_row (by omega), q_up_row (by omega), q_up_row (by omega), q_up_row (by omega)]
  have a5 : ∀ k, k < 5 → st1 134 k = st0 134 k := fun k hk => by
    rw [a2 k (by omega), z_up_n (by omega), z_up_n (by omega), z_up_n (by omega), z_up_n (by omega)]
  have hT2 : q_TC g st1 := q_TC_of hT hB (fun x a b => by unfold q_isT at a; exact a0 x (by unfold q_isR; omega))
  refine q_mono (P := fun st => (∀ x, ¬ q_isR x → st x = st0 x) ∧ (∀ k, k < 5 → st 134 k = st0 134 k) ∧ q_RT g m (q_len g) st) ?_ ?_
  · refine q_loop (fun q => ∃ p : Nat, q.1 = (p : Int) ∧ p ≤ m ∧ (∀ x, ¬ q_isR x → q.2 x = st0 x) ∧ (∀ k, k < 5 → q.2 134 k = st0 134 k) ∧ q_RT g m ((g 168 18).toNat * (p + 1)) q.2) (fun q => (156 - q.1).toNat) ⟨0, rfl, by omega, a0, a5, by rw [Nat.zero_add] at a3; rw [Nat.zero_add, Nat.mul_one]; exact a3⟩ (by show (156 - (0 : Int)).toNat < _; decide) ?_
    rintro ⟨v, st⟩ ⟨p, i1, i2, i3, i4, i5⟩
    dsimp only at i1 i2 i3 i4 i5
    subst i1
    have hcl := i5.2.2.1
    have hmul : p = m → (g 168 18).toNat * (p + 1) = q_len g := fun e => by rw [e]; exact hm.2.1.symm
    have hw0 : p < m → 0 < (g 168 18).toNat := fun h => by
      apply Nat.pos_of_ne_zero
      intro h0
      have h3 := hm.2.1
      have h4 := hm.2.2.1
      rw [h0, Nat.zero_mul] at h3
      omega
    have hpw : p < m → p < (g 168 18).toNat * (p + 1) := fun h => Nat.lt_of_lt_of_le (Nat.lt_succ_self p) (Nat.le_mul_of_pos_left _ (hw0 h))
    simp only [J_X5_fill_b30, q_g, q_b, q_let, q_ite, q_some, z32, z64, true_or, or_true, true_and, and_true]
    rw [i5.2.1]
    have done : p = m → (∀ x, ¬ q_isR x → st x = st0 x) ∧ (∀ k, k < 5 → st 134 k = st0 134 k) ∧ q_RT g m (q_len g) st := fun e => ⟨i3, i4, by rw [← hmul e]; exact i5⟩
    have hnum : p < (g 168 18).toNat * (p + 1) → ∃ n, (q_rows g)[p]? = some n ∧ st 135 p = (n : Int) ∧ n < 5556 ∧ (p < m ↔ n < 1000) := fun h => by
      have e := List.getElem?_eq_getElem (l := q_rows g) (i := p) (show p < q_len g by omega)
      exact ⟨_, e, (i5.2.2.2.2.2 p _ h e).1, q_rows_lt e, q_tree_lt hm e⟩
    refine ⟨by omega, fun hlt => ⟨by omega, fun h155 => ?_, fun h155 => done (by omega)⟩, fun hge => done ?_⟩
    · obtain ⟨n, e1, e2, e3, e4⟩ := hnum (by omega)
      rw [e2]
      refine ⟨by omega, by omega, fun h1000 => ?_, fun h1000 => done (by omega)⟩
      have hpm : p < m := e4.mpr (by omega)
      have hT3 : q_TC g st := q_TC_of hT hB (fun x a b => by unfold q_isT at a; exact i3 x (by unfold q_isR; omega))
      refine q_mono (s_X5_addChildren hB hT3 hm (v1 := (p : Int)) (b0 := (g 168 18).toNat * (p + 1)) (num := fun j => 10 * n + j + 1) (Or.inr ⟨p, n, rfl, hpm, by omega, e1, fun _ => rfl⟩) (fun j hj => (hm.2.2.2.2.1 p n hpm e1).2 j hj) i5) ?_
      rintro st2 ⟨b1, b2, b3⟩
      refine ⟨⟨p + 1, by omega, by omega, fun x hx => (b1 x hx).trans (i3 x hx), fun k hk => (b2 k (by omega)).trans (i4 k hk), ?_⟩, by omega⟩
      have : (g 168 18).toNat * (p + 1) + (g 168 18).toNat = (g 168 18).toNat * (p + 1 + 1) := (Nat.mul_succ _ _).symm
      rw [← this]; exact b3
    · apply Classical.byContradiction
      intro h9
      have := hpw (by omega)
      omega
  · rintro st2 ⟨b1, b2, b3⟩
    obtain ⟨r1, r2, r3, r4, r5, r6⟩ := b3
    have up2 : ∀ x k, ¬ (x = 134 ∧ (k = 9 ∨ k = 10)) → z_up (z_up st2 134 10 0) 134 9 1 x k = st2 x k := fun x k h => by rw [z_up_n (by omega), z_up_n (by omega)]
    refine ⟨fun x hx => ?_, fun k hk => ?_, ⟨?_, ?_, ?_, ?_, fun i n hn => ⟨?_, ?_⟩⟩, ?_, ?_⟩
    · funext k; rw [up2 x k (by unfold q_isR at hx; omega), b1 x hx]
    · rw [up2 134 k (by omega)]; exact b2 k hk
    · rw [up2 134 5 (by decide)]; exact r1
    · rw [up2 134 6 (by decide)]; exact r2
    · rw [up2 134 7 (by decide)]; exact r4
    · rw [up2 134 8 (by decide)]; exact r5
    · rw [up2 135 i (by omega)]; exact (r6 i n (List.getElem?_eq_some_iff.mp hn).1 hn).1
    · rw [up2 136 i (by omega)]; exact (r6 i n (List.getElem?_eq_some_iff.mp hn).1 hn).2.1
    · rw [z_up_at]
    · rw [z_up_n (by decide), z_up_at]
