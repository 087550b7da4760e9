-- THE REFERENCE'S drops, found
theorem q_rH_of3 {st st' : z_St} {a : Int} {o : Option (Int × Int)} (h : q_rH st a o) (k1 : st' 192 a = st 192 a) (k2 : st' 193 a = st 193 a) (k3 : st' 194 a = st 194 a) : q_rH st' a o := by
  unfold q_rH at h ⊢
  rw [k1, k2, k3]; exact h
theorem q_rE_192 {st : z_St} {a : Int} {o : Option (Int × Int)} (h : q_rE st a o) : st 192 a = e_I 1000000000000000000 (o.map Prod.fst) := by
  cases o with
  | none => exact h.2
  | some p => exact h.1
theorem e_sum_01 {f : Nat → Int} {n : Nat} (h : ∀ i, i < n → 0 ≤ f i ∧ f i ≤ 1) : 0 ≤ e_sum f n ∧ e_sum f n ≤ n := by
  have := e_sum_bd (C := 1) h
  rw [Int.mul_one] at this
  exact this
def q_cs (st : z_St) (t : Nat) (a : Int) (j : Nat) : Int := if 0 < st 193 (20 * (t : Int) + j) ∧ (st 192 (20 * (t : Int) + j) < st 192 a ∨ (st 192 (20 * (t : Int) + j) = st 192 a ∧ st 193 (20 * (t : Int) + j) < st 193 a)) then 1 else 0
theorem s_drops_66 {st : z_St} {t : Nat} (ht : t ≤ 16) {beam most low v7 : Int} {k : Nat} (hk : k < 20) (hb : ∀ j : Nat, j < 20 → (0 ≤ st 192 (20 * (t : Int) + j) ∧ st 192 (20 * (t : Int) + j) ≤ 1000000000000000000) ∧ 0 ≤ st 193 (20 * (t : Int) + j) ∧ st 193 (20 * (t : Int) + j) ≤ 100000) :
    z_iter z_F (fun q9 : (Int × Int) => J_X12_drops_b66 t beam most low v7 (20 * (t : Int) + k) q9.1 q9.2 st) (0, 0) = some (e_sum (q_cs st t (20 * (t : Int) + k)) 20) := by
  have h := q_sums0 (B := fun q9 : (Int × Int) => J_X12_drops_b66 t beam most low v7 (20 * (t : Int) + k) q9.1 q9.2 st) 0 (q_cs st t (20 * (t : Int) + k)) 20 (by decide) (fun j hj => ?_) (fun x => ?_)
  · rw [Int.zero_add] at h; exact h
  · have hbj := hb j hj
    have hbk := hb k hk
    refine q_of ?_
    simp only [J_X12_drops_b66, J_X12_drops_110, J_X12_drops_111, q_g, q_b, q_let, q_ite, q_some, z32, z64, true_or, or_true, true_and, and_true]
    have hcs : q_cs st t (20 * (t : Int) + k) j = if 0 < st 193 (20 * (t : Int) + j) ∧ (st 192 (20 * (t : Int) + j) < st 192 (20 * (t : Int) + k) ∨ (st 192 (20 * (t : Int) + j) = st 192 (20 * (t : Int) + k) ∧ st 193 (20 * (t : Int) + j) < st 193 (20 * (t : Int) + k))) then 1 else 0 := rfl
    refine ⟨by omega, fun _ => ⟨by omega, by omega, fun hp => ?_, fun hp => ?_⟩, fun h9 => by omega⟩
    · refine q_eq (s_X12_isAhead (by omega) (by omega) ⟨rfl, rfl⟩ ⟨rfl, rfl⟩ (by omega)) ?_
      refine ⟨by split <;> decide, fun h0 => ?_, fun h0 => ?_⟩
      · rw [hcs, if_neg (fun h9 => by rw [if_pos h9.2] at h0; cases h0)]
      · rw [hcs, if_pos ⟨hp, by
          apply Classical.byContradiction
          intro h9; rw [if_neg h9] at h0; exact h0 rfl⟩]
    · rw [hcs, if_neg (fun h9 => hp h9.1)]
  · refine q_of ?_
    simp only [J_X12_drops_b66, q_g, q_b, q_let, q_ite, q_some, z32, z64, true_or, or_true, true_and, and_true]
    exact ⟨by decide, fun h9 => absurd h9 (by decide), fun _ => trivial⟩
theorem s_X12_drops {st0 : z_St} {t : Nat} (ht : t ≤ 16) {beam most : Int} (hbm : 0 ≤ beam ∧ beam ≤ 9223372036854775807) (hms : 1 ≤ most ∧ most ≤ 2147483647) {E : Nat → Option (Int × Int)} (hE : ∀ k, q_ob k (E k)) (h : ∀ k : Nat, k < 20 → q_rE st0 (20 * (t : Int) + k) (E k)) :
    q_ok (J_X12_drops t beam most st0) (fun st => (∀ x, x ≠ 194 → x ≠ 168 → st x = st0 x) ∧ (∀ j, j ≠ 36 → st 168 j = st0 168 j) ∧ (∀ j, (j < 20 * (t : Int) ∨ 20 * (t : Int) + 20 ≤ j) → st 194 j = st0 194 j) ∧ st 168 36 = st0 168 36 + (q_nd beam most E : Int) ∧ ∀ k : Nat, k < 20 → q_rH st (20 * (t : Int) + k) (q_kp beam most E k)) := by
  have hlb := q_low_bd hE
  have hlI := e_I_le (K := 1000000000000000000) hlb (by decide) (by decide)
  have hob : ∀ k : Nat, k < 20 → (0 ≤ st0 192 (20 * (t : Int) + k) ∧ st0 192 (20 * (t : Int) + k) ≤ 1000000000000000000) ∧ 0 ≤ st0 193 (20 * (t : Int) + k) ∧ st0 193 (20 * (t : Int) + k) ≤ 100000 := fun k hk => by
    have h1 := h k hk
    cases hEk : E k with
    | none => rw [hEk] at h1; rw [h1.1, h1.2]; decide
    | some p =>
      obtain ⟨x, n⟩ := p
      rw [hEk] at h1
      have := q_ob_at hk (hE k) x n hEk
      rw [h1.1, h1.2]; omega
  simp only [J_X12_drops, q_g, q_b, q_let, q_ite, q_some, z32, z64, true_or, or_true, true_and, and_true]
  refine q_eq (q_mins0 none (fun k => (E k).map Prod.fst) 20 (by decide) (fun k hk => ?_) (fun x => ?_)) ?_
  · refine q_of ?_
    simp only [J_X12_drops_b8, q_g, q_b, q_let, q_ite, q_some, z32, z64, true_or, or_true, true_and, and_true]
    have hb := e_bd_min (a := none) (b := e_mins (fun k => (E k).map Prod.fst) k) (B := 10000000000000) e_bd_none (e_bd_mins fun i hi => fun x hx => by
      cases hEi : E i with
      | none => rw [hEi] at hx; cases hx
      | some p =>
        obtain ⟨y, n⟩ := p
        rw [hEi] at hx
        have hy : some y = some x := hx
        cases hy
        have := hE i _ _ hEi
        omega)
    have hb2 : e_bd 10000000000000 ((E k).map Prod.fst) := fun x hx => by
      cases hEi : E k with
      | none => rw [hEi] at hx; cases hx
      | some p =>
        obtain ⟨y, n⟩ := p
        rw [hEi] at hx
        have hy : some y = some x := hx
        cases hy
        have := hE k _ _ hEi
        omega
    have c1 := e_I_le (K := 1000000000000000000) hb (by decide) (by decide)
    have c2 := e_I_le (K := 1000000000000000000) hb2 (by decide) (by decide)
    rw [q_rE_192 (h k hk)]
    refine ⟨by omega, fun _ => ⟨by omega, ?_⟩, fun h9 => by omega⟩
    refine q_eq (s_least (by omega)) ?_
    rw [e_min_N hb hb2 (by decide)]
  · refine q_of ?_
    simp only [J_X12_drops_b8, q_g, q_b, q_let, q_ite, q_some, z32, z64, true_or, or_true, true_and, and_true]
    exact ⟨by decide, fun h9 => absurd h9 (by decide), fun _ => trivial⟩
  have hlow : e_min none (e_mins (fun k => (E k).map Prod.fst) 20) = q_low E := rfl
  rw [hlow]
  refine q_for0 (fun k st => (∀ x, x ≠ 194 → x ≠ 168 → st x = st0 x) ∧ (∀ j, j ≠ 36 → st 168 j = st0 168 j) ∧ (∀ j, (j < 20 * (t : Int) ∨ 20 * (t : Int) + k ≤ j) → st 194 j = st0 194 j) ∧ st 168 36 = st0 168 36 + (e_cnt (fun k => (E k).isSome && (q_kp beam most E k).isNone) k : Int) ∧ ∀ k' : Nat, k' < k → q_rH st (20 * (t : Int) + k') (q_kp beam most E k')) 20 (by decide) ⟨fun _ _ _ => rfl, fun _ _ => rfl, fun _ _ => rfl, (Int.add_zero _).symm, fun k hk => by omega⟩ ?_ ?_
  · rintro k st hk ⟨i1, i2, i3, i4, i5⟩
    have e192 : st 192 = st0 192 := i1 192 (by decide) (by decide)
    have e193 : st 193 = st0 193 := i1 193 (by decide) (by decide)
    have hs01 : 0 ≤ e_sum (q_cs st t (20 * (t : Int) + k)) 20 ∧ e_sum (q_cs st t (20 * (t : Int) + k)) 20 ≤ 20 := e_sum_01 fun i hi => by unfold q_cs; split <;> decide
    have hcount : ∀ x n, E k = some (x, n) → e_sum (q_cs st t (20 * (t : Int) + k)) 20 = (q_ahd E k : Int) := fun x n hEk => by
      unfold q_ahd
      rw [e_cnt_sum]
      refine e_sum_congr fun j hj => ?_
      have hk1 := h k hk
      rw [hEk] at hk1
      have hj1 := h j hj
      unfold q_cs
      rw [e192, e193, hk1.1, hk1.2, hEk]
      cases hEj : E j with
      | none =>
        rw [hEj] at hj1
        rw [hj1.1]
        rw [if_neg (fun h9 => absurd h9.1 (by decide)), if_neg (fun h9 => nomatch h9)]
      | some p =>
        obtain ⟨y, m⟩ := p
        rw [hEj] at hj1
        have hm := q_ob_at hj (hE j) y m hEj
        rw [hj1.1, hj1.2]
        by_cases h9 : y < x ∨ (y = x ∧ m < n)
        · rw [if_pos ⟨by omega, h9⟩, if_pos (q_aB_iff.mpr h9)]
        · rw [if_neg (fun h8 => h9 h8.2), if_neg (fun h8 => h9 (q_aB_iff.mp h8))]
    have es : e_cnt (fun k => (E k).isSome && (q_kp beam most E k).isNone) (k + 1) = e_cnt (fun k => (E k).isSome && (q_kp beam most E k).isNone) k + (if ((E k).isSome && (q_kp beam most E k).isNone) = true then 1 else 0) := rfl
    -- what is written
    have w175 : ∀ (there s0 : Int), (E k = none ∧ there = 0 ∧ s0 = 0) ∨ (there = 1 ∧ ∃ x n, E k = some (x, n) ∧ ((s0 = 0 ∧ q_kp beam most E k = none) ∨ (s0 = 1 ∧ q_kp beam most E k = some (x, n)))) → q_ok (J_X12_drops_175 t beam most (e_I 1000000000000000000 (q_low E)) k (20 * (t : Int) + k) there s0 (20 * (t : Int) + k) st) (fun r => ∃ s', r = .inl ((k : Int) + 1, s') ∧ (∀ x, x ≠ 194 → x ≠ 168 → s' x = st0 x) ∧ (∀ j, j ≠ 36 → s' 168 j = st0 168 j) ∧ (∀ j, (j < 20 * (t : Int) ∨ 20 * (t : Int) + (k + 1 : Nat) ≤ j) → s' 194 j = st0 194 j) ∧ s' 168 36 = st0 168 36 + (e_cnt (fun k => (E k).isSome && (q_kp beam most E k).isNone) (k + 1) : Int) ∧ ∀ k' : Nat, k' < k + 1 → q_rH s' (20 * (t : Int) + k') (q_kp beam most E k')) := by
      intro there s0 hc
      have h01 : s0 = 0 ∨ s0 = 1 := by
        rcases hc with ⟨_, _, h9⟩ | ⟨_, x, n, _, h9 | h9⟩
        · exact Or.inl h9
        · exact Or.inl h9.1
        · exact Or.inr h9.1
      have fin : ∀ d : Int, d = (if ((E k).isSome && (q_kp beam most E k).isNone) = true then 1 else 0) → (∃ s', (Sum.inl ((k : Int) + 1, z_up (z_up st 194 (20 * (t : Int) + k) s0) 168 36 (z_up st 194 (20 * (t : Int) + k) s0 168 36 + d)) : (Int × z_St) ⊕ z_St) = .inl ((k : Int) + 1, s') ∧ (∀ x, x ≠ 194 → x ≠ 168 → s' x = st0 x) ∧ (∀ j, j ≠ 36 → s' 168 j = st0 168 j) ∧ (∀ j, (j < 20 * (t : Int) ∨ 20 * (t : Int) + (k + 1 : Nat) ≤ j) → s' 194 j = st0 194 j) ∧ s' 168 36 = st0 168 36 + (e_cnt (fun k => (E k).isSome && (q_kp beam most E k).isNone) (k + 1) : Int) ∧ ∀ k' : Nat, k' < k + 1 → q_rH s' (20 * (t : Int) + k') (q_kp beam most E k')) := by
        intro d hd
        refine ⟨_, rfl, fun x x1 x2 => by rw [q_up_row x2, q_up_row x1]; exact i1 x x1 x2, fun j hj => by rw [z_up_n (by omega), q_up_row (by decide)]; exact i2 j hj, fun j hj => by rw [q_up_row (by decide), q_up_at, if_neg (by omega)]; exact i3 j (by omega), ?_, fun k' hk' => ?_⟩
        · rw [z_up_at, q_up_row (by decide), i4, es, hd]
          split <;> omega
        · have er : ∀ j, z_up (z_up st 194 (20 * (t : Int) + k) s0) 168 36 (z_up st 194 (20 * (t : Int) + k) s0 168 36 + d) 194 j = if j = 20 * (t : Int) + k then s0 else st 194 j := fun j => by rw [q_up_row (by decide), q_up_at]
          have er2 : ∀ x, x = 192 ∨ x = 193 → z_up (z_up st 194 (20 * (t : Int) + k) s0) 168 36 (z_up st 194 (20 * (t : Int) + k) s0 168 36 + d) x = st x := fun x hx => by rw [q_up_row (by omega), q_up_row (by omega)]
          by_cases e : k' = k
          · subst e
            rcases hc with ⟨q1, _, q3⟩ | ⟨_, x, n, q1, q2 | q2⟩
            · have : q_kp beam most E k' = none := by unfold q_kp; rw [q1]
              rw [this]
              show _ = (0 : Int)
              rw [er, if_pos rfl]; exact q3
            · rw [q2.2]
              show _ = (0 : Int)
              rw [er, if_pos rfl]; exact q2.1
            · rw [q2.2]
              have hk1 := h k' hk
              rw [q1] at hk1
              refine ⟨by rw [er, if_pos rfl]; exact q2.1, ?_, ?_⟩
              · rw [er2 192 (Or.inl rfl), e192]; exact hk1.1
              · rw [er2 193 (Or.inr rfl), e193]; exact hk1.2
          · exact q_rH_of3 (i5 k' (by omega)) (by rw [er2 192 (Or.inl rfl)]) (by rw [er2 193 (Or.inr rfl)]) (by rw [er, if_neg (by omega)])
      simp only [J_X12_drops_175, J_X12_drops_200, J_X12_drops_201, q_g, q_b, q_let, q_ite, q_some, z32, z64, true_or, or_true, true_and, and_true]
      have eat : z_up st 194 (20 * (t : Int) + k) s0 194 (20 * (t : Int) + k) = s0 := z_up_at
      rw [eat]
      rcases hc with ⟨q1, q2, q3⟩ | ⟨q2, x, n, q1, q4⟩
      · refine ⟨⟨by omega, h01⟩, by omega, fun _ => fin 0 (by rw [q1]; rfl), fun h9 => by omega⟩
      · refine ⟨⟨by omega, h01⟩, by omega, fun h9 => by omega, fun _ => ⟨by omega, by omega, fun h9 => fin 1 ?_, fun h9 => fin 0 ?_⟩⟩
        · have : q_kp beam most E k = none := by rcases q4 with ⟨_, h8⟩ | ⟨h8, _⟩ <;> first | exact h8 | omega
          rw [q1, this]; rfl
        · have : q_kp beam most E k = some (x, n) := by rcases q4 with ⟨h8, _⟩ | ⟨_, h8⟩ <;> first | exact h8 | omega
          rw [q1, this]; rfl
    simp only [J_X12_drops_b44, q_g, q_b, q_let, q_ite, q_some, z32, z64, true_or, or_true, true_and, and_true]
    refine ⟨by omega, fun _ => ?_, fun h9 => by omega⟩
    refine q_eq (s_drops_66 ht hk (by rw [e192, e193]; exact hob)) ?_
    have hk1 := h k hk
    rw [e193]
    cases hEk : E k with
    | none =>
      rw [hEk] at hk1
      rw [hk1.1]
      refine ⟨by omega, by decide, fun h9 => absurd h9 (by decide), fun _ => ?_⟩
      simp only [J_X12_drops_135, J_X12_drops_174, q_g, q_b, q_let, q_ite, q_some, z32, z64, true_or, or_true, true_and, and_true]
      exact ⟨by decide, fun _ => w175 0 0 (Or.inl ⟨hEk, rfl, rfl⟩), fun h9 => by first | exact absurd rfl h9 | exact absurd trivial h9⟩
    | some p =>
      obtain ⟨x, n⟩ := p
      rw [hEk] at hk1
      have hx := q_ob_at hk (hE k) x n hEk
      obtain ⟨l, hl, hle⟩ := q_low_le hk hEk
      have hl0 := hlb l hl
      have hkp : q_kp beam most E k = if x - l ≤ beam ∧ (q_ahd E k : Int) < most then some (x, n) else none := by
        unfold q_kp; rw [hEk, hl]; rfl
      rw [hk1.2]
      refine ⟨by omega, by omega, fun _ => ?_, fun h9 => by omega⟩
      simp only [J_X12_drops_135, J_X12_drops_174, q_g, q_b, q_let, q_ite, q_some, z32, z64, true_or, or_true, true_and, and_true]
      rw [e192, hk1.1, hl, e_I_some, hcount x n hEk]
      rw [hcount x n hEk] at hs01
      have w175' := w175
      rw [hl, e_I_some] at w175'
      refine ⟨by decide, fun h9 => absurd h9 (by decide), fun _ => ⟨by omega, by omega, fun h1 => w175' 1 0 (Or.inr ⟨rfl, x, n, hEk, Or.inl ⟨rfl, by rw [hkp, if_neg (by omega)]⟩⟩), fun h1 => ⟨by omega, fun h2 => w175' 1 1 (Or.inr ⟨rfl, x, n, hEk, Or.inr ⟨rfl, by rw [hkp, if_pos ⟨by omega, h2⟩]⟩⟩), fun h2 => w175' 1 0 (Or.inr ⟨rfl, x, n, hEk, Or.inl ⟨rfl, by rw [hkp, if_neg (by omega)]⟩⟩)⟩⟩⟩
  · rintro st ⟨i1, i2, i3, i4, i5⟩
    simp only [J_X12_drops_b44, q_g, q_b, q_let, q_ite, q_some, z32, z64, true_or, or_true, true_and, and_true]
    exact ⟨by decide, fun h9 => absurd h9 (by decide), fun _ => ⟨_, rfl, i1, i2, i3, i4, i5⟩⟩
