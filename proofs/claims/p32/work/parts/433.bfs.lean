-- THE ROWS BY BREADTH
def q_ch (w n : Nat) : List Nat := (List.range w).map (fun j => 10 * n + j + 1)
def q_L1 (w : Nat) : List Nat := q_ch w 0
def q_L2 (w : Nat) : List Nat := (q_L1 w).flatMap (q_ch w)
def q_L3 (w : Nat) : List Nat := (q_L2 w).flatMap (q_ch w)
def q_P (w : Nat) : List Nat := q_L1 w ++ q_L2 w ++ q_L3 w
theorem q_rl_all : (List.range 6).all (fun w => decide (q_rl w 5556 = q_L1 w ++ (q_P w).flatMap (q_ch w)) && (decide ((q_rl w 5556).take (q_P w).length = q_P w) && ((q_P w).all (fun n => Nat.blt n 1000) && (((q_rl w 5556).drop (q_P w).length).all (fun n => Nat.ble 1000 n) && Nat.ble (q_P w).length 155)))) = true := by decide +kernel
theorem q_flat {w : Nat} : ∀ {L : List Nat} {i n j : Nat}, L[i]? = some n → j < w → (L.flatMap (q_ch w))[w * i + j]? = some (10 * n + j + 1) := by
  intro L
  induction L with
  | nil => intro i n j h _; cases h
  | cons a L ih =>
    intro i n j h hj
    have hl : (q_ch w a).length = w := by unfold q_ch; rw [List.length_map, List.length_range]
    rw [List.flatMap_cons]
    cases i with
    | zero =>
      cases h
      rw [Nat.mul_zero, Nat.zero_add, List.getElem?_append_left (by omega)]
      unfold q_ch
      rw [List.getElem?_map, List.getElem?_range hj]
      rfl
    | succ i =>
      rw [List.getElem?_append_right (by rw [hl, Nat.mul_succ]; omega), hl, show w * (i + 1) + j - w = w * i + j by rw [Nat.mul_succ]; omega]
      exact ih h hj
theorem q_flat_len {w : Nat} : ∀ {L : List Nat}, (L.flatMap (q_ch w)).length = w * L.length := by
  intro L
  induction L with
  | nil => rfl
  | cons a L ih =>
    have hl : (q_ch w a).length = w := by unfold q_ch; rw [List.length_map, List.length_range]
    rw [List.flatMap_cons, List.length_append, ih, hl, List.length_cons, Nat.mul_succ]; omega
/-- the rows: parents are the first m; row i's children, the first rows -/
theorem q_rows_tree {w : Nat} (hw : w ≤ 5) : ∃ m : Nat, m ≤ 155 ∧ (q_rl w 5556).length = w * (m + 1) ∧ m ≤ (q_rl w 5556).length ∧ (∀ j, j < w → (q_rl w 5556)[j]? = some (j + 1)) ∧ (∀ i n, i < m → (q_rl w 5556)[i]? = some n → n < 1000 ∧ ∀ j, j < w → (q_rl w 5556)[w * (i + 1) + j]? = some (10 * n + j + 1)) ∧ ∀ i n, m ≤ i → (q_rl w 5556)[i]? = some n → 1000 ≤ n := by
  have h := List.all_eq_true.mp q_rl_all w (List.mem_range.mpr (by omega))
  simp only [Bool.and_eq_true, decide_eq_true_eq, Nat.ble_eq] at h
  obtain ⟨h1, h2, h3, h4, h5⟩ := h
  have hL1 : (q_L1 w).length = w := by unfold q_L1 q_ch; rw [List.length_map, List.length_range]
  have hlen : (q_rl w 5556).length = w * ((q_P w).length + 1) := by
    rw [h1, List.length_append, q_flat_len, hL1, Nat.mul_succ]; omega
  have hPl : (q_P w).length ≤ (q_rl w 5556).length := by
    have := congrArg List.length h2
    rw [List.length_take] at this
    omega
  refine ⟨(q_P w).length, h5, hlen, hPl, fun j hj => ?_, fun i n hi hn => ?_, fun i n hi hn => ?_⟩
  · rw [h1, List.getElem?_append_left (by omega)]
    unfold q_L1 q_ch
    rw [List.getElem?_map, List.getElem?_range hj]
    show some (10 * 0 + j + 1) = _
    rw [Nat.mul_zero, Nat.zero_add]
  · have e : (q_P w)[i]? = some n := by
      rw [← h2, List.getElem?_take]; rw [if_pos hi]; exact hn
    refine ⟨?_, fun j hj => ?_⟩
    · have := List.all_eq_true.mp h3 n (List.mem_of_getElem? e)
      exact Nat.blt_eq.mp this
    · rw [h1, List.getElem?_append_right (by rw [hL1, Nat.mul_succ]; omega), hL1, show w * (i + 1) + j - w = w * i + j by rw [Nat.mul_succ]; omega]
      exact q_flat e hj
  · have e : ((q_rl w 5556).drop (q_P w).length)[i - (q_P w).length]? = some n := by
      rw [List.getElem?_drop, show (q_P w).length + (i - (q_P w).length) = i by omega]; exact hn
    have := List.all_eq_true.mp h4 n (List.mem_of_getElem? e)
    exact Nat.ble_eq.mp this
-- digits of a child
set_option maxRecDepth 100000 in
theorem q_many_ch {n j : Nat} (h1 : 1 ≤ n) (h : n < 1000) (hj : j < 9) : q_many ((10 * n + j + 1 : Nat) : Int) = q_many n + 1 := by
  unfold q_many; omega
set_option maxRecDepth 100000 in
theorem q_dig_ch {n j : Nat} {k : Int} (h1 : 1 ≤ n) (h : n < 1000) (hj : j < 9) (hk : 0 ≤ k ∧ k < q_many n) : q_dig ((10 * n + j + 1 : Nat) : Int) k = q_dig n k := by
  unfold q_dig
  rw [q_many_ch h1 h hj]
  have hm : q_many n = if (n : Int) < 1 then 0 else if (n : Int) < 10 then 1 else if (n : Int) < 100 then 2 else if (n : Int) < 1000 then 3 else if (n : Int) < 10000 then 4 else 0 := rfl
  have h3 : q_many n = 1 ∨ q_many n = 2 ∨ q_many n = 3 := by omega
  have hk3 : k = 0 ∨ k = 1 ∨ k = 2 := by omega
  unfold q_ten
  rcases h3 with e | e | e <;> rcases hk3 with rfl | rfl | rfl <;> rw [e] at hk hm ⊢ <;> simp <;> omega
theorem q_dig_ch2 {n j : Nat} (h1 : 1 ≤ n) (h : n < 1000) (hj : j < 9) : q_dig ((10 * n + j + 1 : Nat) : Int) (q_many n) = j := by
  unfold q_dig
  rw [q_many_ch h1 h hj, show q_many n + 1 - 1 - q_many n = 0 by omega]
  show ((10 * n + j + 1 : Nat) : Int) / 1 % 10 - 1 = j
  omega
theorem q_dig_1 {j : Nat} (hj : j < 9) : q_many ((j + 1 : Nat) : Int) = 1 ∧ q_dig ((j + 1 : Nat) : Int) 0 = j := by
  have hm : q_many ((j + 1 : Nat) : Int) = 1 := by unfold q_many; omega
  refine ⟨hm, ?_⟩
  unfold q_dig
  rw [hm]
  show ((j + 1 : Nat) : Int) / 1 % 10 - 1 = j
  omega
-- what the first k WORDS take, PRICES and all
theorem q_F_congr {g : z_St} {d d' : Int → Int} : ∀ {k t : Nat}, (∀ j : Nat, j < k → d j = d' j) → q_F g d k t = q_F g d' k t := by
  intro k
  induction k with
  | zero => intro t _; cases t <;> rfl
  | succ k ih =>
    intro t h
    show e_mins _ t = e_mins _ t
    exact e_mins_congr fun i _ => by rw [ih (fun j hj => h j (by omega)), h k (by omega)]
theorem q_tl_congr {g : z_St} {d d' : Int → Int} {m m' : Int} : ∀ {k : Nat}, (k : Int) ≤ m → (k : Int) ≤ m' → (∀ j : Nat, j < k → d j = d' j) → q_tl g d m k = q_tl g d' m' k := by
  intro k
  induction k with
  | zero => intro _ _ _; rfl
  | succ k ih =>
    intro h1 h2 h
    show q_tl g d m k + _ = q_tl g d' m' k + _
    rw [ih (by omega) (by omega) (fun j hj => h j (by omega)), if_neg (show ¬ (k : Int) = m by omega), if_neg (show ¬ (k : Int) = m' by omega), h k (by omega)]
    by_cases e : k = 0
    · rw [if_pos e, if_pos e]
    · have := h (k - 1) (by omega)
      rw [show ((k - 1 : Nat) : Int) = (k : Int) - 1 by omega] at this
      rw [if_neg e, if_neg e, this]
/-- the ROW n as far as its last WORD, up to t -/
def q_A (g : z_St) (n : Int) (t : Nat) : Option Int := e_add (q_F g (q_dig n) (q_many n).toNat t) (some (q_tl g (q_dig n) 99 (q_many n).toNat))
theorem e_mins_0 {f : Nat → Option Int} : ∀ {t : Nat}, (∀ i, 1 ≤ i → i < t → f i = none) → e_mins f t = if t = 0 then none else f 0 := by
  intro t
  induction t with
  | zero => intro _; rfl
  | succ t ih =>
    intro h
    show e_min (e_mins f t) (f t) = f 0
    rw [ih (fun i a b => h i a (by omega))]
    by_cases e : t = 0
    · subst e; rfl
    · rw [if_neg e, h t (by omega) (by omega), e_min_none]
theorem q_A_1 {g : z_St} {j t : Nat} (hj : j < 5) : q_A g ((j + 1 : Nat) : Int) t = e_add (if t = 0 then none else q_tab g j 0 t) (some (q_dear g 5 j)) := by
  have h := q_dig_1 (j := j) (by omega)
  unfold q_A
  rw [h.1]
  show e_add (e_mins (fun f => e_add (q_F g (q_dig ((j + 1 : Nat) : Int)) 0 f) (q_tab g (q_dig ((j + 1 : Nat) : Int) 0) f t)) t) (some (0 + q_dear g 5 (q_dig ((j + 1 : Nat) : Int) 0))) = _
  rw [h.2, e_mins_0 (fun i a b => by cases i with
    | zero => omega
    | succ i => rfl), Int.zero_add]
  by_cases e : t = 0
  · rw [if_pos e, if_pos e]
  · rw [if_neg e, if_neg e]
    show e_add (e_add (some 0) (q_tab g j ((0 : Nat) : Int) t)) _ = e_add (q_tab g j 0 t) _
    congr 1
    show e_add (some 0) (q_tab g j 0 t) = _
    cases q_tab g j 0 t with
    | none => rfl
    | some x => show some (0 + x) = some x; rw [Int.zero_add]
theorem q_A_ch {g : z_St} {n j t : Nat} (hn : 1 ≤ n) (h : n < 1000) (hj : j < 5) : q_A g ((10 * n + j + 1 : Nat) : Int) t = e_add (e_mins (fun c => e_add (q_A g n c) (q_tab g j c t)) t) (some (q_dear g (q_dig n (q_many n - 1)) j)) := by
  have hm : q_many n = if (n : Int) < 1 then 0 else if (n : Int) < 10 then 1 else if (n : Int) < 100 then 2 else if (n : Int) < 1000 then 3 else if (n : Int) < 10000 then 4 else 0 := rfl
  have hmb : 1 ≤ q_many n ∧ q_many n ≤ 3 := by omega
  have e1 := q_many_ch hn h (j := j) (by omega)
  have e2 := q_dig_ch2 hn h (j := j) (by omega)
  have e3 : ∀ i : Nat, i < (q_many n).toNat → q_dig ((10 * n + j + 1 : Nat) : Int) i = q_dig n i := fun i hi => q_dig_ch hn h (by omega) (by omega)
  have hk : (q_many ((10 * n + j + 1 : Nat) : Int)).toNat = (q_many n).toNat + 1 := by omega
  unfold q_A
  rw [hk]
  show e_add (e_mins (fun f => e_add (q_F g (q_dig ((10 * n + j + 1 : Nat) : Int)) (q_many n).toNat f) (q_tab g (q_dig ((10 * n + j + 1 : Nat) : Int) ((q_many n).toNat : Nat)) f t)) t) (some (q_tl g (q_dig ((10 * n + j + 1 : Nat) : Int)) 99 (q_many n).toNat + q_dear g (if (q_many n).toNat = 0 then 5 else q_dig ((10 * n + j + 1 : Nat) : Int) (((q_many n).toNat : Int) - 1)) (if ((q_many n).toNat : Int) = 99 then 5 else q_dig ((10 * n + j + 1 : Nat) : Int) ((q_many n).toNat : Nat)))) = _
  have e4 := q_dig_ch hn h (j := j) (k := q_many n - 1) (by omega) (by omega)
  rw [show ((q_many n).toNat : Int) = q_many n by omega, e2, if_neg (show ¬ (q_many n).toNat = 0 by omega), if_neg (show ¬ q_many n = 99 by omega), e4, q_tl_congr (m' := 99) (d' := q_dig n) (by omega) (by omega) e3]
  rw [show some (q_tl g (q_dig n) 99 (q_many n).toNat + q_dear g (q_dig n (q_many n - 1)) j) = e_add (some (q_tl g (q_dig n) 99 (q_many n).toNat)) (some (q_dear g (q_dig n (q_many n - 1)) j)) from rfl, ← e_add_assoc, e_mins_add]
  congr 1
  exact e_mins_congr fun i _ => by rw [q_F_congr e3, e_add_assoc, e_add_comm (a := q_tab g j i t), ← e_add_assoc]
theorem q_wt_A {g : z_St} {n : Nat} (h1 : 1 ≤ q_many n) (hf : 0 ≤ g 168 2) : q_wt g n = e_add (q_A g n (g 168 2).toNat) (some (q_dear g (q_dig n (q_many n - 1)) 5)) := by
  have hmb := q_many_bd n
  unfold q_wt q_W q_A
  by_cases h0 : 0 < g 168 2
  · rw [if_pos h0, e_add_assoc]
    congr 1
    show some (q_tl g (q_dig n) (q_many n) (q_many n).toNat + q_dear g (if (q_many n).toNat = 0 then 5 else q_dig n (((q_many n).toNat : Int) - 1)) (if ((q_many n).toNat : Int) = q_many n then 5 else q_dig n ((q_many n).toNat : Nat))) = some (_ + _)
    rw [if_neg (show ¬ (q_many n).toNat = 0 by omega), if_pos (by omega), show ((q_many n).toNat : Int) - 1 = q_many n - 1 by omega, q_tl_congr (m' := 99) (d' := q_dig n) (by omega) (by omega) (fun _ _ => rfl)]
  · rw [if_neg h0, show (g 168 2).toNat = 0 by omega]
    obtain ⟨k, hk⟩ : ∃ k, (q_many n).toNat = k + 1 := ⟨(q_many n).toNat - 1, by omega⟩
    rw [hk]
    rfl
