-- A ROW'S NUMBER TAKEN APART
def q_many (n : Int) : Int := if n < 1 then 0 else if n < 10 then 1 else if n < 100 then 2 else if n < 1000 then 3 else if n < 10000 then 4 else 0
/-- ten to the j, j at most 3 -/
def q_ten (j : Int) : Int := if j ≤ 0 then 1 else if j = 1 then 10 else if j = 2 then 100 else 1000
/-- the k-th WORD of the ROW n -/
def q_dig (n k : Int) : Int := n / q_ten (q_many n - 1 - k) % 10 - 1
def q_isRow (g : z_St) (n : Int) : Prop := 1 ≤ q_many n ∧ ∀ k, 0 ≤ k → k < q_many n → 0 ≤ q_dig n k ∧ q_dig n k < g 168 18
theorem q_many_bd (n : Int) : 0 ≤ q_many n ∧ q_many n ≤ 4 ∧ (1 ≤ q_many n → 1 ≤ n ∧ n ≤ 9999) := by unfold q_many; omega
theorem q_dig_bd (n k : Int) : -1 ≤ q_dig n k ∧ q_dig n k ≤ 8 := by
  unfold q_dig
  omega
theorem s_apart_61 {n id m : Int} {st : z_St} (hm : q_many n = m) (hn : -2147483648 ≤ n ∧ n ≤ 2147483647) (hid : 183 ≤ id) :
    q_ok (z_iter z_F (fun q9 : (Int × Int × z_St) => J_X12_apart_b61 id m q9.1 q9.2.1 q9.2.2) (n, m - 1, st)) (fun st' => (∀ x, x ≠ id → st' x = st x) ∧ ∀ k, 0 ≤ k → k < m → st' id k = q_dig n k) := by
  have hb := q_many_bd n
  refine q_loop (fun q => -1 ≤ q.2.1 ∧ q.2.1 ≤ m - 1 ∧ (0 ≤ q.2.1 → q.1 = n / q_ten (m - 1 - q.2.1)) ∧ (∀ x, x ≠ id → q.2.2 x = st x) ∧ ∀ k, q.2.1 < k → k < m → q.2.2 id k = q_dig n k) (fun q => (q.2.1 + 1).toNat) ⟨by show -1 ≤ m - 1; omega, Int.le_refl _, fun h => ?_, fun _ _ => rfl, fun k h1 h2 => absurd h1 (by show ¬ m - 1 < k; omega)⟩ (by show (m - 1 + 1).toNat < _; omega) ?_
  · show n = n / q_ten (m - 1 - (m - 1))
    unfold q_ten; rw [if_pos (by omega)]; omega
  · rintro ⟨v, k, st'⟩ ⟨i1, i2, i3, i4, i5⟩
    dsimp only at i1 i2 i3 i4 i5
    simp only [J_X12_apart_b61, q_g, q_b, q_let, q_ite, q_some, z32, z64, true_or, or_true, true_and, and_true]
    refine ⟨by omega, fun hx => ⟨i4, fun j h1 h2 => i5 j (by omega) h2⟩, fun hx => ?_⟩
    have hn1 : 1 ≤ n ∧ n ≤ 9999 := hb.2.2 (by omega)
    have e := i3 (by omega)
    have hv : 0 ≤ v ∧ v ≤ 9999 := by
      rw [e]; unfold q_ten; (repeat' split) <;> omega
    have hd : v.tmod 10 - 1 = q_dig n k := by
      unfold q_dig; rw [hm, ← e, Int.tmod_eq_emod_of_nonneg hv.1]
    refine ⟨by omega, by omega, by omega, ⟨by omega, by omega, fun h9 => ?_, fun x hx9 => by rw [q_up_row hx9]; exact i4 x hx9, fun j h1 h2 => ?_⟩, by omega⟩
    · rw [Int.tdiv_eq_ediv_of_nonneg hv.1, e]
      have hk : m - 1 - k = 0 ∨ m - 1 - k = 1 ∨ m - 1 - k = 2 := by omega
      unfold q_ten
      (repeat' split) <;> omega
    · rw [q_up_at]
      by_cases ej : j = k
      · subst ej; rw [if_pos rfl]; exact hd
      · rw [if_neg ej]; exact i5 j (by omega) h2
theorem s_X12_apart {g st0 : z_St} (hS : q_same g st0) (hw : q_Rw g) {n id : Int} (hid : id = 186 ∨ id = 187) (hn : -2147483648 ≤ n ∧ n ≤ 2147483647) :
    q_ok (J_X12_apart n id st0) (fun r => (∀ x, x ≠ id → r.2 x = st0 x) ∧ ((q_isRow g n ∧ r.1 = q_many n ∧ ∀ k, 0 ≤ k → k < q_many n → r.2 id k = q_dig n k) ∨ (¬ q_isRow g n ∧ r.1 = 0))) := by
  have hw1 := hw.1
  have hb := q_many_bd n
  have main : ∀ m, q_many n = m → q_ok (J_X12_apart_52 n id m st0) (fun r => (∀ x, x ≠ id → r.2 x = st0 x) ∧ ((q_isRow g n ∧ r.1 = q_many n ∧ ∀ k, 0 ≤ k → k < q_many n → r.2 id k = q_dig n k) ∨ (¬ q_isRow g n ∧ r.1 = 0))) := by
    intro m hm
    simp only [J_X12_apart_52, q_g, q_b, q_let, q_ite, q_some, z32, z64, true_or, or_true, true_and, and_true]
    refine q_mono (s_apart_61 (st := st0) hm hn (by omega)) ?_
    rintro st1 ⟨a1, a2⟩
    have hS1 : q_same g st1 := q_same_of hS (fun x a b => a1 x (by omega))
    -- the check
    have chk : ∀ s0 : Int, (s0 = if 0 < m then 1 else 0) → q_ok (J_X12_apart_99 id m s0 st1) (fun r => (∀ x, x ≠ id → r.2 x = st0 x) ∧ ((q_isRow g n ∧ r.1 = q_many n ∧ ∀ k, 0 ≤ k → k < q_many n → r.2 id k = q_dig n k) ∨ (¬ q_isRow g n ∧ r.1 = 0))) := by
      intro s0 hs0
      simp only [J_X12_apart_99, J_X12_apart_149, q_g, q_b, q_let, q_ite, q_some, z32, z64, true_or, or_true, true_and, and_true]
      refine q_mono (P := fun r => (r = 1 ∧ q_isRow g n) ∨ (r = 0 ∧ ¬ q_isRow g n)) ?_ ?_
      · refine q_loop (fun q => 0 ≤ q.2 ∧ q.2 ≤ m ∧ ((q.1 = 1 ∧ 1 ≤ m ∧ ∀ k, 0 ≤ k → k < q.2 → 0 ≤ q_dig n k ∧ q_dig n k < g 168 18) ∨ (q.1 = 0 ∧ ¬ q_isRow g n))) (fun q => (m - q.2).toNat) ⟨by show (0 : Int) ≤ 0; omega, by show (0 : Int) ≤ m; omega, ?_⟩ (by show (m - 0).toNat < _; omega) ?_
        · by_cases hpos : 0 < m
          · rw [if_pos hpos] at hs0
            exact Or.inl ⟨hs0, by omega, fun k h1 h2 => absurd h2 (by show ¬ k < 0; omega)⟩
          · rw [if_neg hpos] at hs0
            exact Or.inr ⟨hs0, fun k => absurd k.1 (by omega)⟩
        · rintro ⟨u, v⟩ ⟨i1, i2, i3⟩
          dsimp only at i1 i2 i3
          simp only [J_X12_apart_b104, J_X12_apart_130, J_X12_apart_131, q_g, q_b, q_let, q_ite, q_some, z32, z64, true_or, or_true, true_and, and_true]
          refine ⟨by omega, fun hlt => ⟨by omega, fun hu => ?_, fun hu => ?_⟩, fun hge => ?_⟩
          · exact ⟨⟨by omega, by omega, Or.inr (by rcases i3 with q | q; exact absurd q.1 (by omega); exact q.2)⟩, by omega⟩
          · obtain ⟨j1, j2, j3⟩ : u = 1 ∧ 1 ≤ m ∧ ∀ k, 0 ≤ k → k < v → 0 ≤ q_dig n k ∧ q_dig n k < g 168 18 := by
              rcases i3 with q | q
              · exact q
              · exact absurd q.1 hu
            have e18 := hS1.2 18 (by decide) (by decide)
            have hdb := q_dig_bd n v
            refine ⟨by omega, ?_⟩
            rw [a2 v i1 hlt]
            refine q_eq (s_X12_isWord (by omega)) ?_
            rw [e18]
            refine ⟨by unfold q_in; split <;> omega, fun e => ?_, fun e => ?_⟩
            · refine ⟨⟨by omega, by omega, Or.inr (fun k => q_in_0' e ?_)⟩, by omega⟩
              have := k.2 v i1 (by omega)
              omega
            · have := q_in_n0 e
              refine ⟨⟨by omega, by omega, Or.inl ⟨j2, fun k h1 h2 => ?_⟩⟩, by omega⟩
              by_cases ek : k = v
              · subst ek; omega
              · exact j3 k h1 (by omega)
          · rcases i3 with ⟨q1, q2, q3⟩ | q
            · exact Or.inl ⟨q1, by omega, fun k h1 h2 => q3 k h1 (by omega)⟩
            · exact Or.inr q
      · rintro r (⟨rfl, hr⟩ | ⟨rfl, hr⟩)
        · refine ⟨by omega, fun e => absurd e (by decide), fun _ => ⟨a1, Or.inl ⟨hr, hm.symm, fun k h1 h2 => a2 k h1 (by omega)⟩⟩⟩
        · refine ⟨by omega, fun _ => ⟨a1, Or.inr hr⟩, fun e => absurd rfl e⟩
    refine ⟨by omega, fun hpos => chk 1 (by rw [if_pos hpos]), fun hno => chk 0 (by rw [if_neg hno])⟩
  have hdef : q_many n = if n < 1 then 0 else if n < 10 then 1 else if n < 100 then 2 else if n < 1000 then 3 else if n < 10000 then 4 else 0 := rfl
  simp only [J_X12_apart, q_g, q_b, q_let, q_ite, q_some, z32, z64, true_or, or_true, true_and, and_true]
  refine ⟨by omega, fun h1 => main _ (by omega), fun h1 => ⟨by omega, fun h2 => main _ (by omega), fun h2 => ⟨by omega, fun h3 => main _ (by omega), fun h3 => ⟨by omega, fun h4 => main _ (by omega), fun h4 => ⟨by omega, fun h5 => main _ (by omega), fun h5 => main _ (by omega)⟩⟩⟩⟩⟩
