-- laysRows
/-- the WEIGHT of the ROW of the number n -/
def q_wt (g : z_St) (n : Int) : Option Int := q_W g (q_dig n) (q_many n)
theorem q_wt_bd {g : z_St} (hB : q_RB g) {n : Int} (h : q_isRow g n) : e_bd 10000000000000 (q_wt g n) := by
  have hb := q_many_bd n
  exact q_W_bd hB ⟨by omega, by omega⟩ (fun j a b => h.2 j a b)
/-- b is the place of the first of the least WEIGHTS in the list l, -1 if there is none -/
def q_first (g : z_St) (l : List Nat) (b : Int) : Prop := (b = -1 ∧ ∀ (i n : Nat), l[i]? = some n → q_wt g n = none) ∨ ∃ (k n : Nat) (x : Int), b = (k : Int) ∧ l[k]? = some n ∧ q_wt g n = some x ∧ ∀ (i m : Nat) (y : Int), l[i]? = some m → q_wt g m = some y → x ≤ y ∧ (i < k → x < y)
theorem q_first_nil {g : z_St} : q_first g [] (-1) := Or.inl ⟨rfl, fun i n h => by cases h⟩
theorem q_first_app {g : z_St} {l : List Nat} {b : Int} {n : Nat} (h : q_first g l b) : q_first g (l ++ [n]) (match q_wt g n with
    | none => b
    | some x => match (if b < 0 then none else (l[b.toNat]?).bind (fun m => q_wt g m)) with
      | none => (l.length : Int)
      | some y => if x < y then (l.length : Int) else b) := by
  have hget : ∀ (i m : Nat), (l ++ [n])[i]? = some m → l[i]? = some m ∨ (i = l.length ∧ m = n) := fun i m hm => by
    by_cases hi : i < l.length
    · rw [List.getElem?_append_left hi] at hm; exact Or.inl hm
    · rw [List.getElem?_append_right (by omega)] at hm
      by_cases hj : i - l.length = 0
      · rw [hj] at hm
        cases hm
        exact Or.inr ⟨by omega, rfl⟩
      · rw [List.getElem?_eq_none (by simp; omega)] at hm; cases hm
  have hlast : (l ++ [n])[l.length]? = some n := by simp
  cases hn : q_wt g n with
  | none =>
    rcases h with ⟨rfl, h⟩ | ⟨k, n', x, rfl, h1, h2, h3⟩
    · refine Or.inl ⟨rfl, fun i m hm => ?_⟩
      rcases hget i m hm with q | ⟨_, rfl⟩
      · exact h i m q
      · exact hn
    · have hk := (List.getElem?_eq_some_iff.mp h1).1
      refine Or.inr ⟨k, n', x, rfl, by rw [List.getElem?_append_left hk]; exact h1, h2, fun i m y hm hy => ?_⟩
      rcases hget i m hm with q | ⟨_, rfl⟩
      · exact h3 i m y q hy
      · rw [hn] at hy; cases hy
  | some x9 =>
    rcases h with ⟨rfl, h⟩ | ⟨k, n', x, rfl, h1, h2, h3⟩
    · refine Or.inr ⟨l.length, n, x9, rfl, hlast, hn, fun i m y hm hy => ?_⟩
      rcases hget i m hm with q | ⟨e, rfl⟩
      · rw [h i m q] at hy; cases hy
      · rw [hn] at hy; cases hy; exact ⟨Int.le_refl _, fun hlt => by omega⟩
    · have hk := (List.getElem?_eq_some_iff.mp h1).1
      have e : (if (k : Int) < 0 then none else (l[(k : Int).toNat]?).bind (fun m => q_wt g m)) = some x := by
        rw [if_neg (by omega), Int.toNat_natCast, h1]; exact h2
      simp only [e]
      by_cases hlt : x9 < x
      · rw [if_pos hlt]
        refine Or.inr ⟨l.length, n, x9, rfl, hlast, hn, fun i m y hm hy => ?_⟩
        rcases hget i m hm with q | ⟨e, rfl⟩
        · have := (h3 i m y q hy).1
          exact ⟨by omega, fun _ => by omega⟩
        · rw [hn] at hy; cases hy; exact ⟨Int.le_refl _, fun hlt => by omega⟩
      · rw [if_neg hlt]
        refine Or.inr ⟨k, n', x, rfl, by rw [List.getElem?_append_left hk]; exact h1, h2, fun i m y hm hy => ?_⟩
        rcases hget i m hm with q | ⟨e, rfl⟩
        · exact h3 i m y q hy
        · rw [hn] at hy; cases hy; exact ⟨by omega, fun h9 => by omega⟩
