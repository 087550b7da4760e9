-- COUNTS, RANKS; the reference's best, weight, sum
def e_cnt (f : Nat → Bool) : Nat → Nat
  | 0 => 0
  | n + 1 => e_cnt f n + (if f n = true then 1 else 0)
theorem e_cnt_le {f : Nat → Bool} : ∀ n : Nat, e_cnt f n ≤ n := by
  intro n
  induction n with
  | zero => exact Nat.le_refl _
  | succ n ih => show e_cnt f n + _ ≤ _; split <;> omega
theorem e_cnt_congr {f h : Nat → Bool} : ∀ {n : Nat}, (∀ i, i < n → f i = h i) → e_cnt f n = e_cnt h n := by
  intro n
  induction n with
  | zero => intro _; rfl
  | succ n ih => intro k; show e_cnt f n + _ = e_cnt h n + _; rw [ih fun i hi => k i (by omega), k n (by omega)]
/-- the rows, so many, the WEIGHT of the i-th -/
def q_rows (g : z_St) : List Nat := q_rl (g 168 18).toNat 5556
def q_len (g : z_St) : Nat := (q_rows g).length
def q_wl (g : z_St) (i : Nat) : Option Int := ((q_rows g)[i]?).bind (fun n => q_wt g n)
theorem q_wl_at {g : z_St} {i n : Nat} (h : (q_rows g)[i]? = some n) : q_wl g i = q_wt g n := by unfold q_wl; rw [h]; rfl
theorem q_len_le {g : z_St} (hB : q_RB g) : q_len g ≤ 780 := q_rl_len _ (by have := hB.2.2.2.2.1.1; omega)
theorem q_rows_isRow {g : z_St} (hB : q_RB g) {i n : Nat} (h : (q_rows g)[i]? = some n) : q_isRow g n := by
  have hm := List.mem_of_getElem? h
  unfold q_rows q_rl at hm
  exact (q_rowB_iff hB.2.2.2.2.1.1).mp (List.mem_filter.mp hm).2
theorem q_rows_lt {g : z_St} {i n : Nat} (h : (q_rows g)[i]? = some n) : n < 5556 := by
  have hm := List.mem_of_getElem? h
  unfold q_rows q_rl at hm
  exact List.mem_range.mp (List.mem_filter.mp hm).1
theorem q_wl_bd {g : z_St} (hB : q_RB g) (i : Nat) : e_bd 10000000000000 (q_wl g i) := by
  cases h : (q_rows g)[i]? with
  | none => unfold q_wl; rw [h]; exact e_bd_none
  | some n => rw [q_wl_at h]; exact q_wt_bd hB (q_rows_isRow hB h)
theorem q_rowsOK_at {g st : z_St} (h : q_rowsOK g (q_rows g) st) {i : Nat} (hi : i < q_len g) : ∃ n : Nat, (q_rows g)[i]? = some n ∧ st 190 i = n ∧ st 189 i = e_I 1000000000000000000 (q_wl g i) := by
  have e : (q_rows g)[i]? = some (q_rows g)[i] := List.getElem?_eq_getElem hi
  have := h.2 i _ e
  exact ⟨_, e, this.1, by rw [q_wl_at e]; exact this.2⟩
/-- is the j-th row ahead of the k-th? -/
def q_ah (g : z_St) (k j : Nat) : Bool := decide (e_I 1000000000000000000 (q_wl g j) < e_I 1000000000000000000 (q_wl g k)) || (decide (e_I 1000000000000000000 (q_wl g j) = e_I 1000000000000000000 (q_wl g k)) && decide (j < k))
def q_rank (g : z_St) (k : Nat) : Nat := e_cnt (q_ah g k) (q_len g)
theorem s_best_38 {g st : z_St} (hB : q_RB g) (hR : q_rowsOK g (q_rows g) st) {k : Nat} (hk : k < q_len g) (v1 : Int) : q_ok (z_iter z_F (fun q9 : (Int × Int) => J_X12_best_b38 v1 (k : Int) q9.1 q9.2 st) (0, 0)) (fun r => r = (q_rank g k : Int)) := by
  have hl := q_len_le hB
  have hR1 : st 168 31 = (q_len g : Int) := hR.1
  have hk9 := e_I_bd (K := 1000000000000000000) (q_wl_bd hB k) (by decide) (by decide)
  obtain ⟨nk, -, -, ek⟩ := q_rowsOK_at hR hk
  refine q_loop (fun q => ∃ j : Nat, q.2 = (j : Int) ∧ j ≤ q_len g ∧ q.1 = (e_cnt (q_ah g k) j : Int)) (fun q => (781 - q.2).toNat) ⟨0, rfl, by omega, rfl⟩ (by show (781 - (0 : Int)).toNat < _; decide) ?_
  rintro ⟨u, v⟩ ⟨j, i1, i2, i3⟩
  dsimp only at i1 i3
  subst i1 i3
  have hc := e_cnt_le (f := q_ah g k) j
  simp only [J_X12_best_b38, J_X12_best, J_X12_best_10, J_X12_best_126, J_X12_best_88, J_X12_best_92, J_X12_best_93, q_g, q_b, q_let, q_ite, q_some, z32, z64, true_or, or_true, true_and, and_true]
  rw [hR1, ek]
  have hlt : j < q_len g → st 189 j = e_I 1000000000000000000 (q_wl g j) ∧ (0 ≤ e_I 1000000000000000000 (q_wl g j) ∧ e_I 1000000000000000000 (q_wl g j) ≤ 1000000000000000000) := fun h => by
    obtain ⟨_, -, -, e⟩ := q_rowsOK_at hR h
    have := e_I_bd (K := 1000000000000000000) (q_wl_bd hB j) (by decide) (by decide)
    exact ⟨e, by omega⟩
  have nxt : ∀ z : Int, j < q_len g → z = (if q_ah g k j = true then 1 else 0) → (∃ j' : Nat, (j : Int) + 1 = j' ∧ j' ≤ q_len g ∧ (e_cnt (q_ah g k) j : Int) + z = (e_cnt (q_ah g k) j' : Int)) ∧ (781 - ((j : Int) + 1)).toNat < (781 - (j : Int)).toNat := fun z hj hz => by
    refine ⟨⟨j + 1, by omega, by omega, ?_⟩, by omega⟩
    show _ = ((e_cnt (q_ah g k) j + (if q_ah g k j = true then 1 else 0) : Nat) : Int)
    rw [hz]
    split <;> omega
  have y1 : e_I 1000000000000000000 (q_wl g j) < e_I 1000000000000000000 (q_wl g k) → q_ah g k j = true := fun h => by
    unfold q_ah; simp [h]
  have y2 : e_I 1000000000000000000 (q_wl g j) = e_I 1000000000000000000 (q_wl g k) → (j : Int) < k → q_ah g k j = true := fun h h2 => by
    unfold q_ah
    have : j < k := by omega
    simp [h, this]
  have y3 : ¬ e_I 1000000000000000000 (q_wl g j) < e_I 1000000000000000000 (q_wl g k) → ¬ (e_I 1000000000000000000 (q_wl g j) = e_I 1000000000000000000 (q_wl g k) ∧ (j : Int) < k) → ¬ q_ah g k j = true := fun h h2 h3 => by
    unfold q_ah at h3
    simp only [Bool.or_eq_true, Bool.and_eq_true, decide_eq_true_eq] at h3
    omega
  refine ⟨by omega, fun hx => ?_, fun hx => ?_⟩
  · have hj : j < q_len g := by omega
    obtain ⟨ej, bj⟩ := hlt hj
    rw [ej]
    refine ⟨by omega, by omega, by omega, fun h1 => nxt 1 hj (by rw [if_pos (y1 h1)]), fun h1 => ⟨by omega, by omega, by omega, fun h2 => ⟨by omega, fun h3 => nxt 1 hj (by rw [if_pos (y2 h2 h3)]), fun h3 => nxt 0 hj (by rw [if_neg (y3 h1 fun h => h3 h.2)])⟩, fun h2 => nxt 0 hj (by rw [if_neg (y3 h1 fun h => h2 h.1)])⟩⟩
  · have : j = q_len g := by omega
    rw [this]; rfl
/-- the answer of best -/
def q_best (g : z_St) (x v : Int) : Prop := (v = -1 ∧ ∀ k : Nat, k < q_len g → q_wl g k ≠ none → (q_rank g k : Int) ≠ x) ∨ ∃ k n : Nat, (q_rows g)[k]? = some n ∧ q_wl g k ≠ none ∧ (q_rank g k : Int) = x ∧ v = n
/-- a question of the reference: what it leaves as it is -/
def q_K (g st0 st : z_St) : Prop := (∀ x, (x < 168 ∨ x = 199) → st x = st0 x) ∧ q_same g st
theorem q_K_of {g st0 st : z_St} (hS : q_same g st0) (h1 : ∀ x, (x < 168 ∨ (168 < x ∧ x < 183) ∨ x = 199) → st x = st0 x) (h2 : ∀ j, 1 ≤ j → j ≤ 22 → st 168 j = st0 168 j) : q_K g st0 st := ⟨fun x hx => h1 x (by omega), fun x a b => (h1 x (Or.inr (Or.inl (by omega)))).trans (hS.1 x a b), fun j a b => (h2 j a b).trans (hS.2 j a b)⟩
theorem q_up_0 {g st0 : z_St} {v : Int} (hS : q_same g st0) : q_same g (z_up st0 168 0 v) := q_same_up hS (by omega)
theorem s_holds_0 {st : z_St} : J_X12_holds 0 st = some (0, z_up st 168 0 0) := by rw [s_X12_holds (by decide)]; rfl
theorem s_holds_p {x : Int} {st : z_St} (h : 0 < x ∧ x < 10) : J_X12_holds x st = some (1, z_up st 168 0 x) := by rw [s_X12_holds (by omega), if_pos h.1]
theorem s_X12_best {g st0 : z_St} (hS : q_same g st0) (hB : q_RB g) {x1 : Int} (hx : -2147483648 ≤ x1 ∧ x1 ≤ 2147483647) : q_ok (J_X12_best x1 st0) (fun r => q_K g st0 r.2 ∧ r.2 168 0 = (if x1 < 0 then 1 else 0) ∧ (0 ≤ x1 → q_best g x1 r.1)) := by
  have hl := q_len_le hB
  simp only [J_X12_best, J_X12_best_10, q_g, q_b, q_let, q_ite, q_some, z32, z64, true_or, or_true, true_and, and_true]
  refine ⟨by omega, fun h => ?_, fun h => ?_⟩
  · refine q_eq (s_holds_p (by decide)) ?_
    dsimp only
    refine ⟨by decide, fun h9 => absurd h9 (by decide), fun _ => ⟨q_K_of hS (fun x a => q_up_row (by omega)) (fun j a b => z_up_n (by omega)), by rw [if_pos h, z_up_at], fun h9 => by omega⟩⟩
  · refine q_eq s_holds_0 ?_
    dsimp only
    refine ⟨by decide, fun _ => ?_, fun h9 => absurd rfl h9⟩
    refine q_mono (s_X12_laysRows (q_up_0 hS) hB) ?_
    rintro ⟨b, st⟩ ⟨a1, a2, a3, a4, a5⟩
    dsimp only at a1 a2 a3 a4 a5 ⊢
    have hR : q_rowsOK g (q_rows g) st := a4
    have hR1 : st 168 31 = (q_len g : Int) := hR.1
    have hK : q_K g st0 st := q_K_of hS (fun x a => by rw [a1 x (by omega), q_up_row (by omega)]) (fun j a b => by rw [a2 j (by omega), z_up_n (by omega)])
    have h00 : st 168 0 = 0 := by rw [a2 0 (by decide), z_up_at]
    rw [if_neg h]
    refine q_mono (P := fun y => match y with | .inl _ => ∀ k : Nat, k < q_len g → q_wl g k ≠ none → (q_rank g k : Int) ≠ x1 | .inr k => ∃ k' n : Nat, k = (k' : Int) ∧ (q_rows g)[k']? = some n ∧ q_wl g k' ≠ none ∧ (q_rank g k' : Int) = x1) ?_ ?_
    · refine q_loop (fun q => ∃ k : Nat, q = (k : Int) ∧ k ≤ q_len g ∧ ∀ j : Nat, j < k → q_wl g j ≠ none → (q_rank g j : Int) ≠ x1) (fun q => (781 - q).toNat) ⟨0, rfl, by omega, fun j hj => by omega⟩ (by show (781 - (0 : Int)).toNat < _; decide) ?_
      rintro v ⟨k, rfl, i2, i3⟩
      simp only [J_X12_best_b25, J_X12_best_126, q_g, q_b, q_let, q_ite, q_some, z32, z64, true_or, or_true, true_and, and_true]
      rw [hR1]
      have nxt : ¬ (q_wl g k ≠ none ∧ (q_rank g k : Int) = x1) → k < q_len g → (∃ k' : Nat, (k : Int) + 1 = k' ∧ k' ≤ q_len g ∧ ∀ j : Nat, j < k' → q_wl g j ≠ none → (q_rank g j : Int) ≠ x1) ∧ (781 - ((k : Int) + 1)).toNat < (781 - (k : Int)).toNat := fun hn hk => ⟨⟨k + 1, by omega, by omega, fun j hj h1 h2 => by
        by_cases e : j = k
        · subst e; exact hn ⟨h1, h2⟩
        · exact i3 j (by omega) h1 h2⟩, by omega⟩
      refine ⟨by omega, fun hlt => ?_, fun hge j hj => i3 j (by omega)⟩
      have hk : k < q_len g := by omega
      refine q_mono (s_best_38 hB hR hk x1) ?_
      rintro c rfl
      have hc := e_cnt_le (f := q_ah g k) (q_len g)
      obtain ⟨n, en, e190, e189⟩ := q_rowsOK_at hR hk
      have hb := e_I_bd (K := 1000000000000000000) (q_wl_bd hB k) (by decide) (by decide)
      rw [e189]
      have hrk : q_rank g k ≤ q_len g := hc
      refine ⟨by omega, by omega, fun hfin => ⟨by omega, fun he => ⟨k, n, rfl, en, fun h0 => ?_, he⟩, fun hne => nxt (fun h9 => hne h9.2) hk⟩, fun hinf => nxt (fun h9 => ?_) hk⟩
      · rw [h0] at hfin; exact absurd hfin (by decide)
      · rcases e_I_cases (K := 1000000000000000000) (q_wl g k) with ⟨e, _⟩ | ⟨x, e, e'⟩
        · exact h9.1 e
        · have := q_wl_bd hB k x e; omega
    · rintro y hy
      cases y with
      | inl u => exact ⟨((-1), st), rfl, hK, h00, fun _ => Or.inl ⟨rfl, hy⟩⟩
      | inr k =>
        obtain ⟨k', n, rfl, e1, e2, e3⟩ := hy
        have hk' : k' < q_len g := (List.getElem?_eq_some_iff.mp e1).1
        simp only [q_g, q_b, q_let, q_ite, q_some, z32, z64, true_or, or_true, true_and, and_true]
        exact ⟨by omega, hK, h00, fun _ => Or.inr ⟨k', n, e1, e2, e3, (hR.2 k' n e1).1⟩⟩
theorem s_X12_sum8 {g st : z_St} (hB : q_RB g) (hR : q_rowsOK g (q_rows g) st) : q_ok (z_iter z_F (fun q9 : (Int × Int) => J_X12_sum_b42 q9.1 q9.2 st) (0, 0)) (fun r => r = (e_cnt (fun k => (q_wl g k).isSome) (q_len g) : Int)) := by
  have hl := q_len_le hB
  have hR1 : st 168 31 = (q_len g : Int) := hR.1
  refine q_loop (fun q => ∃ j : Nat, q.2 = (j : Int) ∧ j ≤ q_len g ∧ q.1 = (e_cnt (fun k => (q_wl g k).isSome) j : Int)) (fun q => (781 - q.2).toNat) ⟨0, rfl, by omega, rfl⟩ (by show (781 - (0 : Int)).toNat < _; decide) ?_
  rintro ⟨u, v⟩ ⟨j, i1, i2, i3⟩
  dsimp only at i1 i3
  subst i1 i3
  have hc := e_cnt_le (f := fun k => (q_wl g k).isSome) j
  simp only [J_X12_sum_b42, J_X12_sum_69, q_g, q_b, q_let, q_ite, q_some, z32, z64, true_or, or_true, true_and, and_true]
  rw [hR1]
  refine ⟨by omega, fun hx => ?_, fun hx => ?_⟩
  · obtain ⟨n, en, e190, e189⟩ := q_rowsOK_at hR (show j < q_len g by omega)
    have hb := q_wl_bd hB j
    rw [e189]
    have e : e_cnt (fun k => (q_wl g k).isSome) (j + 1) = e_cnt (fun k => (q_wl g k).isSome) j + (if (q_wl g j).isSome = true then 1 else 0) := rfl
    cases hw : q_wl g j with
    | none =>
      rw [hw] at e
      rw [e_I_none]
      exact ⟨by omega, by omega, fun h9 => absurd h9 (by decide), fun _ => ⟨⟨j + 1, by omega, by omega, by rw [e]; simp⟩, by omega⟩⟩
    | some x =>
      have := hb x hw
      rw [hw] at e
      rw [e_I_some]
      exact ⟨by omega, by omega, fun _ => ⟨⟨j + 1, by omega, by omega, by rw [e]; simp⟩, by omega⟩, fun h9 => by omega⟩
  · have : j = q_len g := by omega
    rw [this]
