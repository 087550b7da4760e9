-- THE CLASS'S SEARCH: dropDear, dropLate
theorem q_cE_141 {st : z_St} {a : Int} {o : Option (Int × Int)} (h : q_cE st a o) : st 141 a = e_I 1152921504606846976 (o.map Prod.fst) := by
  cases o with
  | none => exact h
  | some p => exact h.1
theorem q_mp_bd {o : Option (Int × Int)} (h : ∀ x n, o = some (x, n) → 0 ≤ x ∧ x ≤ 10000000000000 ∧ 1 ≤ n ∧ n ≤ 100000) : e_bd 10000000000000 (o.map Prod.fst) := fun x hx => by
  cases o with
  | none => cases hx
  | some p =>
    obtain ⟨y, n⟩ := p
    have hy : some y = some x := hx
    cases hy
    have := h _ _ rfl
    omega
/-- the search's ends of t, in the frame of the rest -/
def q_f3 (t : Nat) (st0 st : z_St) : Prop := (∀ x, x ≠ 140 → x ≠ 141 → x ≠ 143 → st x = st0 x) ∧ (∀ j, j ≠ 3 → st 140 j = st0 140 j) ∧ ∀ j, (j < 20 * (t : Int) ∨ 20 * (t : Int) + 20 ≤ j) → st 141 j = st0 141 j
theorem q_f3_trans {t : Nat} {a b c : z_St} (h : q_f3 t a b) (k : q_f3 t b c) : q_f3 t a c := ⟨fun x p q r => (k.1 x p q r).trans (h.1 x p q r), fun j p => (k.2.1 j p).trans (h.2.1 j p), fun j p => (k.2.2 j p).trans (h.2.2 j p)⟩
theorem s_X8_drop {st : z_St} {a : Int} (ha : 0 ≤ a ∧ a < 340) : J_X8_drop a st = some (z_up (z_up st 141 a 1152921504606846976) 140 3 (st 140 3 + 1)) := by
  refine q_of ?_
  simp only [J_X8_drop, q_g, q_b, q_let, q_ite, q_some, z32, z64, true_or, or_true, true_and, and_true]
  refine ⟨ha, ?_⟩
  rw [q_up_row (by decide)]
theorem s_X8_dropDear {st0 : z_St} {t : Nat} (ht : t ≤ 16) {beam : Int} (hbm : 0 ≤ beam ∧ beam ≤ 9223372036854775807) {E : Nat → Option (Int × Int)} (hE : ∀ k, q_ob k (E k)) (h : ∀ k : Nat, k < 20 → q_cE st0 (20 * (t : Int) + k) (E k)) :
    q_ok (J_X8_dropDear (20 * (t : Int)) beam st0) (fun st => q_f3 t st0 st ∧ st 140 3 = st0 140 3 + (q_n1 beam E 20 : Int) ∧ ∀ k : Nat, k < 20 → q_cE st (20 * (t : Int) + k) (q_e1 beam E k)) := by
  have hlb := q_low_bd hE
  have hlI := e_I_le (K := 1152921504606846976) hlb (by decide) (by decide)
  simp only [J_X8_dropDear, q_g, q_b, q_let, q_ite, q_some, z32, z64, true_or, or_true, true_and, and_true]
  refine q_eq (q_mins none (fun k => (E k).map Prod.fst) (20 * (t : Int)) 20 (by decide) (fun k hk => ?_) (fun x => ?_)) ?_
  · refine q_of ?_
    simp only [J_X8_dropDear_b8, q_g, q_b, q_let, q_ite, q_some, z32, z64, true_or, or_true, true_and, and_true]
    have hb := e_bd_min (a := none) (b := e_mins (fun k => (E k).map Prod.fst) k) (B := 10000000000000) e_bd_none (e_bd_mins fun i hi => q_mp_bd (q_ob_at (by omega) (hE i)))
    have hb2 := q_mp_bd (q_ob_at hk (hE k))
    have c1 := e_I_le (K := 1152921504606846976) hb (by decide) (by decide)
    have c2 := e_I_le (K := 1152921504606846976) hb2 (by decide) (by decide)
    rw [q_cE_141 (h k hk)]
    refine ⟨by omega, fun _ => ⟨by omega, by omega, ?_⟩, fun h9 => by omega⟩
    rw [e_min_N hb hb2 (by decide)]
  · refine q_of ?_
    simp only [J_X8_dropDear_b8, q_g, q_b, q_let, q_ite, q_some, z32, z64, true_or, or_true, true_and, and_true]
    exact ⟨by omega, fun h9 => by omega, fun _ => trivial⟩
  have hlow : e_min none (e_mins (fun k => (E k).map Prod.fst) 20) = q_low E := rfl
  rw [hlow]
  refine q_for (fun k st => q_f3 t st0 st ∧ st 140 3 = st0 140 3 + (q_n1 beam E k : Int) ∧ (∀ k' : Nat, k' < k → q_cE st (20 * (t : Int) + k') (q_e1 beam E k')) ∧ ∀ k' : Nat, k ≤ k' → k' < 20 → q_cE st (20 * (t : Int) + k') (E k')) (20 * (t : Int)) 20 (by decide) ⟨⟨fun _ _ _ _ => rfl, fun _ _ => rfl, fun _ _ => rfl⟩, (Int.add_zero _).symm, fun k hk => by omega, fun k _ hk => h k hk⟩ ?_ ?_
  · rintro k st hk ⟨⟨i1, i2, i3⟩, i4, i5, i6⟩
    have hk1 := i6 k (Nat.le_refl _) hk
    have es : q_n1 beam E (k + 1) = q_n1 beam E k + (if ((E k).isSome && (q_e1 beam E k).isNone) = true then 1 else 0) := rfl
    have stay : q_e1 beam E k = E k → ∃ s', (Sum.inl (20 * (t : Int) + k + 1, st) : (Int × z_St) ⊕ z_St) = .inl (20 * (t : Int) + k + 1, s') ∧ q_f3 t st0 s' ∧ s' 140 3 = st0 140 3 + (q_n1 beam E (k + 1) : Int) ∧ (∀ k' : Nat, k' < k + 1 → q_cE s' (20 * (t : Int) + k') (q_e1 beam E k')) ∧ ∀ k' : Nat, k + 1 ≤ k' → k' < 20 → q_cE s' (20 * (t : Int) + k') (E k') := fun he => by
      refine ⟨_, rfl, ⟨i1, i2, i3⟩, ?_, fun k' hk' => ?_, fun k' a b => i6 k' (by omega) b⟩
      · have : ((E k).isSome && (q_e1 beam E k).isNone) = false := by rw [he]; cases E k <;> rfl
        rw [es, this, i4]; rfl
      · by_cases e : k' = k
        · subst e; rw [he]; exact hk1
        · exact i5 k' (by omega)
    simp only [J_X8_dropDear_b40, J_X8_dropDear_84, q_g, q_b, q_let, q_ite, q_some, z32, z64, true_or, or_true, true_and, and_true]
    refine ⟨by omega, fun _ => ⟨by omega, ?_⟩, fun h9 => by omega⟩
    cases hEk : E k with
    | none =>
      rw [hEk] at hk1
      have z : st 141 (20 * (t : Int) + k) = 1152921504606846976 := hk1
      rw [z]
      refine ⟨by decide, fun h9 => absurd h9 (by decide), fun _ => stay ?_⟩
      unfold q_e1; rw [hEk]
    | some p =>
      obtain ⟨x, n⟩ := p
      rw [hEk] at hk1
      have hx := q_ob_at hk (hE k) x n hEk
      obtain ⟨l, hl, hle⟩ := q_low_le hk hEk
      have hl0 := hlb l hl
      have he1 : q_e1 beam E k = if x - l ≤ beam then some (x, n) else none := by unfold q_e1; rw [hEk, hl]; rfl
      rw [hk1.1, hl, e_I_some]
      refine ⟨by omega, fun _ => ⟨by omega, by omega, fun h1 => ?_, fun h1 => stay (by rw [he1, if_pos (by omega), hEk])⟩, fun h9 => by omega⟩
      rw [if_neg (by omega)] at he1
      refine q_eq (s_X8_drop (by omega)) ?_
      refine ⟨_, rfl, ⟨fun x x1 x2 x3 => by rw [q_up_row x1, q_up_row x2]; exact i1 x x1 x2 x3, fun j hj => by rw [z_up_n (by omega), q_up_row (by decide)]; exact i2 j hj, fun j hj => by rw [q_up_row (by decide), q_up_at, if_neg (by omega)]; exact i3 j hj⟩, ?_, fun k' hk' => ?_, fun k' a b => ?_⟩
      · have : ((E k).isSome && (q_e1 beam E k).isNone) = true := by rw [he1, hEk]; rfl
        rw [z_up_at, es, this, i4]
        show st0 140 3 + _ + 1 = st0 140 3 + ((q_n1 beam E k + 1 : Nat) : Int)
        omega
      · by_cases e : k' = k
        · subst e
          rw [he1]
          show _ = (1152921504606846976 : Int)
          rw [q_up_row (by decide), z_up_at]
        · exact q_cE_of (i5 k' (by omega)) (by rw [q_up_row (by decide), q_up_at, if_neg (by omega)]) (by rw [q_up_row (by decide), q_up_row (by decide)])
      · exact q_cE_of (i6 k' (by omega) b) (by rw [q_up_row (by decide), q_up_at, if_neg (by omega)]) (by rw [q_up_row (by decide), q_up_row (by decide)])
  · rintro st ⟨i1, i4, i5, i6⟩
    simp only [J_X8_dropDear_b40, q_g, q_b, q_let, q_ite, q_some, z32, z64, true_or, or_true, true_and, and_true]
    exact ⟨by omega, fun h9 => by omega, fun _ => ⟨_, rfl, i1, i4, i5⟩⟩
theorem s_X8_countAhead {st : z_St} {t : Nat} (ht : t ≤ 16) {E : Nat → Option (Int × Int)} (hE : ∀ k, k < 20 → ∀ x n, E k = some (x, n) → 0 ≤ x ∧ x ≤ 10000000000000 ∧ 1 ≤ n ∧ n ≤ 100000) (h : ∀ k : Nat, k < 20 → q_cE st (20 * (t : Int) + k) (E k)) {k : Nat} (hk : k < 20) {x n : Int} (hEk : E k = some (x, n)) :
    J_X8_countAhead (20 * (t : Int)) (20 * (t : Int) + k) st = some (q_ahd E k : Int) := by
  have hk1 := h k hk
  rw [hEk] at hk1
  have hx := hE k hk x n hEk
  refine q_of ?_
  simp only [J_X8_countAhead, q_g, q_b, q_let, q_ite, q_some, z32, z64, true_or, or_true, true_and, and_true]
  refine q_eq (q_sums 0 (fun j => if q_aB (E j) (E k) = true then 1 else 0) (20 * (t : Int)) 20 (by decide) (fun j hj => ?_) (fun x => ?_)) ?_
  · have hj1 := h j hj
    refine q_of ?_
    simp only [J_X8_countAhead_b5, J_X8_countAhead_36, J_X8_countAhead_75, J_X8_countAhead_76, J_X8_countAhead_103, J_X8_countAhead_107, J_X8_countAhead_108, q_g, q_b, q_let, q_ite, q_some, z32, z64, true_or, or_true, true_and, and_true]
    rw [hk1.1, hk1.2]
    cases hEj : E j with
    | none =>
      rw [hEj] at hj1
      have z : st 141 (20 * (t : Int) + j) = 1152921504606846976 := hj1
      have hq : q_aB none (E k) = false := rfl
      rw [z, hq]
      refine ⟨by omega, fun _ => ⟨by omega, by omega, by omega, fun h9 => by omega, fun _ => ⟨by omega, by omega, by omega, fun h9 => by omega, fun _ => ⟨by omega, by decide, fun h9 => absurd h9 (by decide), fun _ => rfl⟩⟩⟩, fun h9 => by omega⟩
    | some p =>
      obtain ⟨y, m⟩ := p
      rw [hEj] at hj1
      have hy := hE j hj y m hEj
      rw [hj1.1, hj1.2, hEk]
      have yes : (y < x ∨ (y = x ∧ m < n)) → (if q_aB (some (y, m)) (some (x, n)) = true then (1 : Int) else 0) = 1 := fun h9 => by rw [if_pos (q_aB_iff.mpr h9)]
      have no : ¬ (y < x ∨ (y = x ∧ m < n)) → (if q_aB (some (y, m)) (some (x, n)) = true then (1 : Int) else 0) = 0 := fun h9 => by rw [if_neg (fun h8 => h9 (q_aB_iff.mp h8))]
      refine ⟨by omega, fun _ => ⟨by omega, by omega, by omega, fun h1 => ⟨by omega, by omega, by omega, fun h2 => by omega, fun h2 => ⟨by omega, by omega, fun _ => ⟨by decide, fun h9 => absurd h9 (by decide), fun _ => by rw [yes (Or.inl h1)]⟩, fun h9 => by omega⟩⟩, fun h1 => ⟨by omega, by omega, by omega, fun h2 => ⟨by omega, by omega, by omega, fun h3 => ⟨by omega, by omega, fun _ => ⟨by decide, fun _ => ⟨by decide, fun h9 => absurd h9 (by decide), fun _ => by rw [yes (Or.inr ⟨h2, h3⟩)]⟩, fun h9 => by first | exact absurd rfl h9 | exact absurd trivial h9⟩, fun h9 => by omega⟩, fun h3 => ⟨by omega, by omega, fun _ => ⟨by decide, fun _ => ⟨by decide, fun _ => by rw [no (by omega)], fun h9 => by first | exact absurd rfl h9 | exact absurd trivial h9⟩, fun h9 => by first | exact absurd rfl h9 | exact absurd trivial h9⟩, fun h9 => by omega⟩⟩, fun h2 => ⟨by omega, by omega, fun _ => ⟨by decide, fun _ => ⟨by decide, fun _ => by rw [no (by omega)], fun h9 => by first | exact absurd rfl h9 | exact absurd trivial h9⟩, fun h9 => by first | exact absurd rfl h9 | exact absurd trivial h9⟩, fun h9 => by omega⟩⟩⟩, fun h9 => by omega⟩
  · refine q_of ?_
    simp only [J_X8_countAhead_b5, q_g, q_b, q_let, q_ite, q_some, z32, z64, true_or, or_true, true_and, and_true]
    exact ⟨by omega, fun h9 => by omega, fun _ => trivial⟩
  · rw [Int.zero_add]
    unfold q_ahd
    rw [e_cnt_sum]
