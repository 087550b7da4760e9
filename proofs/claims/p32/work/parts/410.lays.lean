-- laysRows
/-- the WEIGHT of the ROW of the number n -/
def q_wt (g : z_St) (n : Int) : Option Int := q_W g (q_dig n) (q_many n)
theorem q_wt_bd {g : z_St} (hB : q_RB g) {n : Int} (h : q_isRow g n) : e_bd 10000000000000 (q_wt g n) := by
  have hb := q_many_bd n
  exact q_W_bd hB ⟨by omega, by omega⟩ (fun j a b => h.2 j a b)
/-- b is the place of the first of the least WEIGHTS in the list l, -1 if there is none -/
def q_first (g : z_St) (l : List Nat) (b : Int) : Prop := (b = -1 ∧ ∀ (i n : Nat), l[i]? = some n → q_wt g n = none) ∨ ∃ (k n : Nat) (x : Int), b = (k : Int) ∧ l[k]? = some n ∧ q_wt g n = some x ∧ ∀ (i m : Nat) (y : Int), l[i]? = some m → q_wt g m = some y → x ≤ y ∧ (i < k → x < y)
theorem q_first_nil {g : z_St} : q_first g [] (-1) := Or.inl ⟨rfl, fun i n h => by cases h⟩
theorem q_first_app {g : z_St} {l : List Nat} {b : Int} {n : Nat} (h : q_first g l b) : q_first g (l ++ [n]) (match q_wt g n with
    | none => b
    | some x => match (if b < 0 then none else (l[b.toNat]?).bind (fun m => q_wt g m)) with
      | none => (l.length : Int)
      | some y => if x < y then (l.length : Int) else b) := by
  have hget : ∀ (i m : Nat), (l ++ [n])[i]? = some m → l[i]? = some m ∨ (i = l.length ∧ m = n) := fun i m hm => by
    by_cases hi : i < l.length
    · rw [List.getElem?_append_left hi] at hm; exact Or.inl hm
    · rw [List.getElem?_append_right (by omega)] at hm
      by_cases hj : i - l.length = 0
      · rw [hj] at hm
        cases hm
        exact Or.inr ⟨by omega, rfl⟩
      · rw [List.getElem?_eq_none (by simp; omega)] at hm; cases hm
  have hlast : (l ++ [n])[l.length]? = some n := by simp
  cases hn : q_wt g n with
  | none =>
    rcases h with ⟨rfl, h⟩ | ⟨k, n', x, rfl, h1, h2, h3⟩
    · refine Or.inl ⟨rfl, fun i m hm => ?_⟩
      rcases hget i m hm with q | ⟨_, rfl⟩
      · exact h i m q
      · exact hn
    · have hk := (List.getElem?_eq_some_iff.mp h1).1
      refine Or.inr ⟨k, n', x, rfl, by rw [List.getElem?_append_left hk]; exact h1, h2, fun i m y hm hy => ?_⟩
      rcases hget i m hm with q | ⟨_, rfl⟩
      · exact h3 i m y q hy
      · rw [hn] at hy; cases hy
  | some x9 =>
    rcases h with ⟨rfl, h⟩ | ⟨k, n', x, rfl, h1, h2, h3⟩
    · refine Or.inr ⟨l.length, n, x9, rfl, hlast, hn, fun i m y hm hy => ?_⟩
      rcases hget i m hm with q | ⟨e, rfl⟩
      · rw [h i m q] at hy; cases hy
      · rw [hn] at hy; cases hy; exact ⟨Int.le_refl _, fun hlt => by omega⟩
    · have hk := (List.getElem?_eq_some_iff.mp h1).1
      have e : (if (k : Int) < 0 then none else (l[(k : Int).toNat]?).bind (fun m => q_wt g m)) = some x := by
        rw [if_neg (by omega), Int.toNat_natCast, h1]; exact h2
      simp only [e]
      by_cases hlt : x9 < x
      · rw [if_pos hlt]
        refine Or.inr ⟨l.length, n, x9, rfl, hlast, hn, fun i m y hm hy => ?_⟩
        rcases hget i m hm with q | ⟨e, rfl⟩
        · have := (h3 i m y q hy).1
          exact ⟨by omega, fun _ => by omega⟩
        · rw [hn] at hy; cases hy; exact ⟨Int.le_refl _, fun hlt => by omega⟩
      · rw [if_neg hlt]
        refine Or.inr ⟨k, n', x, rfl, by rw [List.getElem?_append_left hk]; exact h1, h2, fun i m y hm hy => ?_⟩
        rcases hget i m hm with q | ⟨e, rfl⟩
        · exact h3 i m y q hy
        · rw [hn] at hy; cases hy; exact ⟨by omega, fun h9 => by omega⟩
/-- the rows are laid: so many as the list, with their WEIGHTS -/
def q_rowsOK (g : z_St) (l : List Nat) (st : z_St) : Prop := st 168 31 = (l.length : Int) ∧ ∀ (i n : Nat), l[i]? = some n → st 190 i = n ∧ st 189 i = e_I 1000000000000000000 (q_wt g n)
theorem s_X12_laysRows {g st0 : z_St} (hS : q_same g st0) (hB : q_RB g) : q_ok (J_X12_laysRows st0) (fun r => (∀ x, (x < 168 ∨ (168 < x ∧ x < 183) ∨ x = 187 ∨ 190 < x) → r.2 x = st0 x) ∧ (∀ j, j ≠ 31 → r.2 168 j = st0 168 j) ∧ q_tabOK g (fun _ _ => True) r.2 ∧ q_rowsOK g (q_rl (g 168 18).toNat 5556) r.2 ∧ q_first g (q_rl (g 168 18).toNat 5556) r.1) := by
  have hf1 := hB.1.1
  have hw0 := hB.2.2.2.2.1
  have hw1 := hw0.1
  simp only [J_X12_laysRows, q_g, q_b, q_let, q_ite, q_some, z32, z64, true_or, or_true, true_and, and_true]
  refine q_mono (s_X12_laysTable hS hB) ?_
  rintro st1 ⟨a1, a2⟩
  refine q_mono (P := fun r => (∀ x, (x < 168 ∨ (168 < x ∧ x < 183) ∨ x = 187 ∨ 190 < x) → r.2 x = st0 x) ∧ (∀ j, j ≠ 31 → r.2 168 j = st0 168 j) ∧ q_tabOK g (fun _ _ => True) r.2 ∧ q_rowsOK g (q_rl (g 168 18).toNat 5556) r.2 ∧ q_first g (q_rl (g 168 18).toNat 5556) r.1) ?_ (fun r hr => hr)
  refine q_loop (fun q => ∃ n : Nat, q.2.1 = (n : Int) ∧ 1 ≤ n ∧ n ≤ 5556 ∧ (∀ x, (x < 168 ∨ (168 < x ∧ x < 183) ∨ x = 187 ∨ 190 < x) → q.2.2 x = st0 x) ∧ (∀ j, j ≠ 31 → q.2.2 168 j = st0 168 j) ∧ q_tabOK g (fun _ _ => True) q.2.2 ∧ q_rowsOK g (q_rl (g 168 18).toNat n) q.2.2 ∧ q_first g (q_rl (g 168 18).toNat n) q.1) (fun q => (5557 - q.2.1).toNat) ⟨1, rfl, by decide, by decide, fun x hx => ?_, fun j hj => ?_, ?_, ?_, ?_⟩ (by show (5557 - (1 : Int)).toNat < _; decide) ?_
  · show z_up st1 168 31 0 x = _
    rw [q_up_row (by omega)]; exact a1 x (by omega) (by omega) (by omega)
  · show z_up st1 168 31 0 168 j = _
    rw [z_up_n (by omega), a1 168 (by decide) (by decide) (by decide)]
  · intro w f t a b c d e k9
    show z_up st1 168 31 0 184 _ = _ ∧ ∀ k, 0 ≤ k → k < g 178 w → z_up st1 168 31 0 183 _ = _
    rw [q_up_row (by decide), q_up_row (by decide)]
    exact a2 w f t a b c d e k9
  · have e : q_rl (g 168 18).toNat 1 = [] := rfl
    rw [e]
    exact ⟨by show z_up st1 168 31 0 168 31 = _; rw [z_up_at]; rfl, fun i n h => by cases h⟩
  · have e : q_rl (g 168 18).toNat 1 = [] := rfl
    rw [e]
    exact q_first_nil
  · rintro ⟨v, u, st⟩ ⟨n, i1, i2, i3, i4, i5, i6, i7, i8⟩
    dsimp only at i1 i4 i5 i6 i7 i8
    subst i1
    have hS2 : q_same g st := ⟨fun x a b => (i4 x (by omega)).trans (hS.1 x a b), fun j a b => (i5 j (by omega)).trans (hS.2 j a b)⟩
    have e18 := hS2.2 18 (by decide) (by decide)
    have h0 : (g 168 18).toNat = 0 → ∀ m, q_rl (g 168 18).toNat m = [] := fun e m => by
      rw [e]
      unfold q_rl
      refine List.filter_eq_nil_iff.mpr (fun a _ h9 => ?_)
      unfold q_rowB at h9
      simp only [Bool.and_eq_true, Nat.ble_eq] at h9
      omega
    simp only [J_X12_laysRows_b13, J_X12_laysRows_94, J_X12_laysRows_101, J_X12_laysRows_102, J_X12_laysRows_113, q_g, q_b, q_let, q_ite, q_some, z32, z64, true_or, or_true, true_and, and_true]
    rw [e18]
    refine ⟨by omega, fun hx => ?_, fun hx => ⟨by omega, fun hpos => ?_, fun hno => ?_⟩⟩
    · have e : n = 5556 := by omega
      subst e
      exact ⟨i4, i5, i6, i7, i8⟩
    · refine q_mono (s_X12_apart hS2 hw0 (n := (n : Int)) (Or.inl rfl) (by omega)) ?_
      rintro ⟨m, st2⟩ ⟨b1, hc⟩
      dsimp only at b1 hc ⊢
      have hT3 : q_tabOK g (fun _ _ => True) st2 := fun w f t a b c d' e k9 => by
        have := i6 w f t a b c d' e k9
        rw [b1 184 (by decide), b1 183 (by decide)]
        exact this
      have hS3 : q_same g st2 := q_same_of hS2 (fun x a b => b1 x (by omega))
      rcases hc with ⟨c1, c2, c3⟩ | ⟨c1, c2⟩
      · subst c2
        have hmb := q_many_bd n
        have hc1 := c1.1
        refine ⟨by omega, fun _ => ?_, fun h9 => absurd (show 0 < q_many n by omega) h9⟩
        refine q_mono (s_X12_weightOf hS3 hB hT3 (d := q_dig n) (many := q_many n) (by omega) (fun j a b => ⟨c1.2 j a b, c3 j a b⟩)) ?_
        rintro ⟨W, st3⟩ ⟨d1, d2⟩
        dsimp only at d1 d2 ⊢
        subst d2
        have hrow : q_rowB (g 168 18).toNat n = true := (q_rowB_iff hw1).mpr c1
        have hl : q_rl (g 168 18).toNat (n + 1) = q_rl (g 168 18).toNat n ++ [n] := by rw [q_rl_succ, if_pos hrow]
        have hlen : st3 168 31 = ((q_rl (g 168 18).toNat n).length : Int) := by rw [d1 168 (by decide), b1 168 (by decide)]; exact i7.1
        have h780 : (q_rl (g 168 18).toNat n).length < 780 := by
          have h1 := q_rl_len (g 168 18).toNat (by omega)
          have h2 : ∀ k, (q_rl (g 168 18).toNat n).length + (q_rl (g 168 18).toNat (n + 1 + k)).length ≤ 2 * (q_rl (g 168 18).toNat (n + 1 + k)).length - 1 := by
            intro k
            induction k with
            | zero => rw [Nat.add_zero, hl, List.length_append]; simp; omega
            | succ k ih =>
              have : (q_rl (g 168 18).toNat (n + 1 + k)).length ≤ (q_rl (g 168 18).toNat (n + 1 + (k + 1))).length := by
                rw [← Nat.add_assoc, q_rl_succ]
                split
                · rw [List.length_append]; omega
                · exact Nat.le_refl _
              omega
          have h3 := h2 (5555 - n)
          rw [show n + 1 + (5555 - n) = 5556 by omega] at h3
          omega
        have hW := q_wt_bd hB c1
        have hWI := e_I_bd (K := 1000000000000000000) hW (by decide) (by decide)
        have hWd : q_W g (q_dig n) (q_many n) = q_wt g n := rfl
        rw [hWd]
        generalize hL : q_rl (g 168 18).toNat n = l at *
        have e1 : ∀ a b : Int, z_up st3 189 a b 168 = st3 168 := fun a b => q_up_row (by decide)
        have e2 : ∀ (s : z_St) (a b : Int), z_up s 190 a b 168 = s 168 := fun s a b => q_up_row (by decide)
        have e3 : ∀ (s : z_St) (a b : Int), z_up s 190 a b 189 = s 189 := fun s a b => q_up_row (by decide)
        simp only [e1, e2, e3, hlen]
        have fin : ∀ b' : Int, q_first g (l ++ [n]) b' → ((∃ n9 : Nat, (n : Int) + 1 = n9 ∧ 1 ≤ n9 ∧ n9 ≤ 5556 ∧ (∀ x, (x < 168 ∨ (168 < x ∧ x < 183) ∨ x = 187 ∨ 190 < x) → z_up (z_up (z_up st3 189 (l.length : Int) (e_I 1000000000000000000 (q_wt g n))) 190 (l.length : Int) n) 168 31 ((l.length : Int) + 1) x = st0 x) ∧ (∀ j, j ≠ 31 → z_up (z_up (z_up st3 189 (l.length : Int) (e_I 1000000000000000000 (q_wt g n))) 190 (l.length : Int) n) 168 31 ((l.length : Int) + 1) 168 j = st0 168 j) ∧ q_tabOK g (fun _ _ => True) (z_up (z_up (z_up st3 189 (l.length : Int) (e_I 1000000000000000000 (q_wt g n))) 190 (l.length : Int) n) 168 31 ((l.length : Int) + 1)) ∧ q_rowsOK g (q_rl (g 168 18).toNat n9) (z_up (z_up (z_up st3 189 (l.length : Int) (e_I 1000000000000000000 (q_wt g n))) 190 (l.length : Int) n) 168 31 ((l.length : Int) + 1)) ∧ q_first g (q_rl (g 168 18).toNat n9) b') ∧ (5557 - ((n : Int) + 1)).toNat < (5557 - (n : Int)).toNat) := by
          intro b' hb'
          refine ⟨⟨n + 1, by omega, by omega, by omega, fun x hx9 => ?_, fun j hj => ?_, ?_, ?_, by rw [hl]; exact hb'⟩, by omega⟩
          · rw [q_up_row (by omega), q_up_row (by omega), q_up_row (by omega), d1 x (by omega), b1 x (by omega)]; exact i4 x hx9
          · rw [z_up_n (by omega), e2, e1, d1 168 (by decide), b1 168 (by decide)]; exact i5 j hj
          · intro w f t a b c d' e k9
            have := hT3 w f t a b c d' e k9
            rw [q_up_row (by decide), q_up_row (by decide), q_up_row (by decide), q_up_row (by decide), q_up_row (by decide), q_up_row (by decide), d1 184 (by decide), d1 183 (by decide)]
            exact this
          · rw [hl]
            refine ⟨by rw [z_up_at, List.length_append]; simp, fun i m hm => ?_⟩
            rw [q_up_row (show (190 : Int) ≠ 168 by decide), q_up_row (show (189 : Int) ≠ 168 by decide), e3, q_up_at, q_up_row (show (190 : Int) ≠ 189 by decide), q_up_at, d1 190 (by decide), d1 189 (by decide), b1 190 (by decide), b1 189 (by decide)]
            by_cases hi : i < l.length
            · rw [List.getElem?_append_left hi] at hm
              rw [if_neg (by omega), if_neg (by omega)]
              exact i7.2 i m hm
            · have hi2 : i = l.length := by
                have := (List.getElem?_eq_some_iff.mp hm).1
                rw [List.length_append] at this
                simp at this
                omega
              subst hi2
              rw [List.getElem?_append_right (Nat.le_refl _), Nat.sub_self] at hm
              cases hm
              rw [if_pos rfl, if_pos rfl]
              exact ⟨rfl, rfl⟩
        have hfa := q_first_app (n := n) i8
        have hv : v = -1 ∨ ∃ (k m : Nat) (y : Int), v = (k : Int) ∧ k < l.length ∧ l[k]? = some m ∧ q_wt g m = some y ∧ st3 189 v = y ∧ 0 ≤ y ∧ y ≤ 10000000000000 := by
          rcases i8 with ⟨h, _⟩ | ⟨k, m, y, h1, h2, h3, _⟩
          · exact Or.inl h
          · have hk := (List.getElem?_eq_some_iff.mp h2).1
            have hm : q_isRow g m := by
              have h5 : (q_rl (g 168 18).toNat n)[k]? = some m := by rw [hL]; exact h2
              have h6 := List.mem_of_getElem? h5
              unfold q_rl at h6
              exact (q_rowB_iff hw1).mp (List.mem_filter.mp h6).2
            have h4 := q_wt_bd hB hm y h3
            refine Or.inr ⟨k, m, y, h1, hk, h2, h3, ?_, h4⟩
            rw [d1 189 (by decide), b1 189 (by decide), h1, (i7.2 k m h2).2, h3, e_I_some]
        have hv32 : -2147483648 ≤ v ∧ v ≤ 2147483647 := by
          rcases hv with rfl | ⟨k, m, y, rfl, hk, _⟩
          · decide
          · omega
        cases hn : q_wt g n with
        | none =>
          rw [hn] at hfa fin hWI
          rw [e_I_none] at fin hWI ⊢
          exact ⟨by omega, by omega, by omega, fun h => absurd h (by decide), fun _ => fin v hfa⟩
        | some x =>
          have hx := hW x hn
          rw [hn] at hfa fin hWI
          rw [e_I_some] at fin hWI ⊢
          dsimp only at hfa
          refine ⟨by omega, by omega, by omega, fun _ => ⟨hv32, fun hv0 => ?_, fun hv0 => ?_⟩, fun h => by clear hv; omega⟩
          · rw [if_pos hv0] at hfa
            exact fin _ hfa
          · rcases hv with hv | ⟨k, m, y, rfl, hk, e1, e2, e3, e4⟩
            · omega
            · rw [q_up_at, if_neg (by omega), e3]
              rw [if_neg hv0, Int.toNat_natCast, e1] at hfa
              have e5 : (some m : Option Nat).bind (fun m => q_wt g m) = some y := e2
              rw [e5] at hfa
              dsimp only at hfa
              refine ⟨by omega, by omega, fun hlt => ?_, fun hge => ?_⟩
              · rw [if_pos hlt] at hfa; exact fin _ hfa
              · rw [if_neg hge] at hfa; exact fin _ hfa
      · subst c2
        have hrow : ¬ q_rowB (g 168 18).toNat n = true := fun h9 => c1 ((q_rowB_iff hw1).mp h9)
        have hl : q_rl (g 168 18).toNat (n + 1) = q_rl (g 168 18).toNat n := by rw [q_rl_succ, if_neg hrow]
        refine ⟨by omega, fun h9 => absurd h9 (by decide), fun _ => ⟨⟨n + 1, by omega, by omega, by omega, fun x hx => (b1 x (by omega)).trans (i4 x hx), fun j hj => by rw [b1 168 (by decide)]; exact i5 j hj, hT3, ?_, by rw [hl]; exact i8⟩, by omega⟩⟩
        rw [hl]
        unfold q_rowsOK
        rw [b1 168 (by decide), b1 190 (by decide), b1 189 (by decide)]
        exact i7
    · have e0 : (g 168 18).toNat = 0 := by omega
      rw [h0 e0] at i7 i8 ⊢
      exact ⟨i4, i5, i6, i7, i8⟩
