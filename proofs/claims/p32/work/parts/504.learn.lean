-- learn
def q_ctC (c : z_St) (i j : Int) : z_St := z_up (z_up (z_up (z_up c (91 + i) j (c (91 + i) j + 1)) 97 i (c 97 i + 1)) 98 j (c 98 j + 1)) 89 3 (c 89 3 + 1)
def q_ctR (g : z_St) (a b : Int) : z_St := z_up (z_up g 182 (6 * a + b) (g 182 (6 * a + b) + 1)) 168 20 (g 168 20 + 1)
theorem s_X2_count {a b : Int} {st : z_St} (h : -1 ≤ a ∧ a < 5 ∧ -1 ≤ b ∧ b < 5) : J_X2_count a b st = some (q_ctC st (a + 1) (b + 1)) := by
  refine q_of ?_
  simp only [J_X2_count, q_g, q_b, q_let, q_ite, q_some, z32, z64, true_or, or_true, true_and, and_true]
  simp (disch := omega) only [q_up_row]
  exact ⟨by omega, by omega, by omega, by omega, by omega, by omega, by omega, rfl⟩
theorem s_X12_counts {a b : Int} {st : z_St} (h : 0 ≤ a ∧ a < 6 ∧ 0 ≤ b ∧ b < 6) : J_X12_counts a b st = some (q_ctR st a b) := by
  refine q_of ?_
  simp only [J_X12_counts, q_g, q_b, q_let, q_ite, q_some, z32, z64, true_or, or_true, true_and, and_true]
  simp (disch := omega) only [q_up_row]
  exact ⟨by omega, by omega, rfl⟩
set_option maxRecDepth 100000 in
theorem q_row_ctR {g : z_St} {a b x : Int} (h : 0 ≤ a ∧ a < 6 ∧ 0 ≤ b ∧ b < 6) (hx : 0 ≤ x ∧ x < 6) : q_row (q_ctR g a b) x = q_row g x + (if x = a then 1 else 0) := by
  unfold q_row q_ctR
  simp (disch := omega) only [q_up_row]
  simp only [q_up_at]
  by_cases e : x = a
  · subst e
    have hb : b = 0 ∨ b = 1 ∨ b = 2 ∨ b = 3 ∨ b = 4 ∨ b = 5 := by omega
    rcases hb with rfl | rfl | rfl | rfl | rfl | rfl
    · rw [Int.add_zero]; omega
    · omega
    · omega
    · omega
    · omega
    · omega
  · rw [if_neg e]; omega
set_option maxRecDepth 100000 in
theorem q_col_ctR {g : z_St} {a b x : Int} (h : 0 ≤ a ∧ a < 6 ∧ 0 ≤ b ∧ b < 6) (hx : 0 ≤ x ∧ x < 6) : q_col (q_ctR g a b) x = q_col g x + (if x = b then 1 else 0) := by
  unfold q_col q_ctR
  simp (disch := omega) only [q_up_row]
  simp only [q_up_at]
  by_cases e : x = b
  · subst e
    have hb : a = 0 ∨ a = 1 ∨ a = 2 ∨ a = 3 ∨ a = 4 ∨ a = 5 := by omega
    rcases hb with rfl | rfl | rfl | rfl | rfl | rfl
    · rw [show 6 * 0 + x = x by omega]; omega
    · rw [show 6 * 1 + x = 6 + x by omega]; omega
    · rw [show 6 * 2 + x = 12 + x by omega]; omega
    · rw [show 6 * 3 + x = 18 + x by omega]; omega
    · rw [show 6 * 4 + x = 24 + x by omega]; omega
    · rw [show 6 * 5 + x = 30 + x by omega]; omega
  · rw [if_neg e]; omega
theorem q_ix_inj {i j : Int} (hi : 0 ≤ i ∧ i < 6) (hj : 0 ≤ j ∧ j < 6) : q_ix i = q_ix j ↔ i = j := by
  unfold q_ix
  constructor
  · intro h; (repeat' split at h) <;> omega
  · rintro rfl; rfl
theorem q_G6_count {g c : z_St} (h : q_G6 g c) (h20 : g 168 20 < 3000) {a b i j : Int} (hi : 0 ≤ i ∧ i < 6) (hj : 0 ≤ j ∧ j < 6) (ha : q_ix i = a) (hb : q_ix j = b) : q_G6 (q_ctR g a b) (q_ctC c i j) := by
  obtain ⟨⟨⟨r1, r2⟩, r3, r4, r5, r6⟩, c1, c2, c3, c4, c5, c6⟩ := h
  have ha6 := q_ix_bd hi
  have hb6 := q_ix_bd hj
  rw [ha] at ha6
  rw [hb] at hb6
  have hab : 0 ≤ a ∧ a < 6 ∧ 0 ≤ b ∧ b < 6 := ⟨ha6.1, ha6.2, hb6.1, hb6.2⟩
  have e20 : q_ctR g a b 168 20 = g 168 20 + 1 := by unfold q_ctR; rw [z_up_at]
  refine ⟨⟨⟨?_, ?_⟩, ?_, fun k p q => ?_, fun x p q => ?_, fun x p q => ?_⟩, ?_, ?_, ?_, fun x y p q r s => ?_, fun x p q => ?_, fun x p q => ?_⟩
  · unfold q_ctR; simp (disch := omega) only [q_up_row, q_od_row, z_up_at, q_up_ne]; exact r1
  · unfold q_ctR; simp (disch := omega) only [q_up_row, q_od_row, z_up_at, q_up_ne]; exact r2
  · rw [e20]; omega
  · unfold q_ctR
    rw [q_up_row (by decide), q_up_at]
    have h1 := r4 k p q
    have h2 := r4 (6 * a + b) (by omega) (by omega)
    split <;> omega
  · rw [e20, q_row_ctR hab ⟨p, q⟩]
    have := r5 x p q
    split <;> omega
  · rw [e20, q_col_ctR hab ⟨p, q⟩]
    have := r6 x p q
    split <;> omega
  · rw [e20]; unfold q_ctC; rw [z_up_at, c1]
  · unfold q_ctC q_ctR; simp (disch := omega) only [q_up_row, q_od_row, z_up_at, q_up_ne]; exact c2
  · unfold q_ctC q_ctR; simp (disch := omega) only [q_up_row, q_od_row, z_up_at, q_up_ne]; exact c3
  · have h1 := c4 x y p q r s
    have h2 := c4 i j hi.1 hi.2 hj.1 hj.2
    have h3 := q_ix_inj (i := x) (j := i) ⟨p, q⟩ hi
    have h4 := q_ix_inj (i := y) (j := j) ⟨r, s⟩ hj
    have hx6 := q_ix_bd (i := x) ⟨p, q⟩
    have hy6 := q_ix_bd (i := y) ⟨r, s⟩
    unfold q_ctC q_ctR
    simp (disch := omega) only [q_up_row]
    rw [q_up_at (i := 182)]
    rw [ha] at h2 h3
    rw [hb] at h2 h4
    by_cases ex : x = i
    · subst ex
      rw [q_up_at]
      by_cases ey : y = j
      · subst ey; rw [if_pos rfl, if_pos (by rw [ha, hb]), h2]
      · rw [if_neg ey, if_neg (by omega)]; exact h1
    · rw [q_up_row (by omega), if_neg (by omega)]; exact h1
  · rw [q_row_ctR hab (q_ix_bd ⟨p, q⟩), ← c5 x p q]
    have h3 := q_ix_inj (i := x) (j := i) ⟨p, q⟩ hi
    rw [ha] at h3
    unfold q_ctC
    simp (disch := omega) only [q_up_row]
    rw [q_up_at]
    simp (disch := omega) only [q_up_row]
    by_cases ex : x = i
    · subst ex; rw [if_pos rfl, if_pos ha]
    · rw [if_neg ex, if_neg (fun h9 => ex (h3.mp h9)), Int.add_zero]
  · rw [q_col_ctR hab (q_ix_bd ⟨p, q⟩), ← c6 x p q]
    have h3 := q_ix_inj (i := x) (j := j) ⟨p, q⟩ hj
    rw [hb] at h3
    unfold q_ctC
    simp (disch := omega) only [q_up_row]
    rw [q_up_at]
    simp (disch := omega) only [q_up_row]
    by_cases ex : x = j
    · subst ex; rw [if_pos rfl, if_pos hb]
    · rw [if_neg ex, if_neg (fun h9 => ex (h3.mp h9)), Int.add_zero]
/-- the k-th pair of a row -/
def q_pa (n : Int) (k : Nat) : Int := if k = 0 then -1 else q_dig n ((k : Int) - 1)
def q_pb (n : Int) (k : Nat) : Int := if (k : Int) = q_many n then -1 else q_dig n k
def q_cn (n : Int) (c : z_St) : Nat → z_St
  | 0 => c
  | k + 1 => q_ctC (q_cn n c k) (q_pa n k + 1) (q_pb n k + 1)
def q_rn (n : Int) (g : z_St) : Nat → z_St
  | 0 => g
  | k + 1 => q_ctR (q_rn n g k) (q_ix (q_pa n k + 1)) (q_ix (q_pb n k + 1))
theorem q_pab {g : z_St} (hw : g 168 18 ≤ 5) {n : Int} (h : q_isRow g n) {k : Nat} (hk : (k : Int) ≤ q_many n) : (-1 ≤ q_pa n k ∧ q_pa n k < 5) ∧ -1 ≤ q_pb n k ∧ q_pb n k < 5 := by
  unfold q_pa q_pb
  constructor
  · split
    · omega
    · have := h.2 ((k : Int) - 1) (by omega) (by omega); omega
  · split
    · omega
    · have := h.2 k (by omega) (by omega); omega
theorem q_cn_row {g : z_St} (hw : g 168 18 ≤ 5) {n : Int} (h : q_isRow g n) {c : z_St} : ∀ {k : Nat}, (k : Int) ≤ q_many n + 1 → ∀ x, x ≠ 89 → ¬ (91 ≤ x ∧ x ≤ 98) → q_cn n c k x = c x := by
  intro k
  induction k with
  | zero => intro _ x _ _; rfl
  | succ k ih =>
    intro hk x h1 h2
    have hp := q_pab hw h (k := k) (by omega)
    show q_ctC (q_cn n c k) _ _ x = _
    unfold q_ctC
    rw [q_up_row (by omega), q_up_row (by omega), q_up_row (by omega), q_up_row (by omega)]
    exact ih (by omega) x h1 h2
theorem q_cn_89 {n : Int} {c : z_St} : ∀ {k : Nat} {j : Int}, j ≠ 3 → (∀ i, i < k → -1 ≤ q_pa n i) → q_cn n c k 89 j = c 89 j := by
  intro k
  induction k with
  | zero => intro j _ _; rfl
  | succ k ih =>
    intro j hj hp
    have := hp k (by omega)
    show q_ctC (q_cn n c k) _ _ 89 j = _
    unfold q_ctC
    rw [q_up_ne hj, q_up_row (by decide), q_up_row (by decide), q_up_row (by omega)]
    exact ih hj (fun i hi => hp i (by omega))
theorem q_rn_row {n : Int} {g : z_St} : ∀ {k : Nat}, (∀ x, x ≠ 182 → x ≠ 168 → q_rn n g k x = g x) ∧ (∀ j, j ≠ 20 → q_rn n g k 168 j = g 168 j) ∧ q_rn n g k 168 20 = g 168 20 + k := by
  intro k
  induction k with
  | zero => exact ⟨fun _ _ _ => rfl, fun _ _ => rfl, by show g 168 20 = _; omega⟩
  | succ k ih =>
    obtain ⟨i1, i2, i3⟩ := ih
    refine ⟨fun x h1 h2 => ?_, fun j hj => ?_, ?_⟩
    · show q_ctR (q_rn n g k) _ _ x = _
      unfold q_ctR
      rw [q_up_row h2, q_up_row h1]; exact i1 x h1 h2
    · show q_ctR (q_rn n g k) _ _ 168 j = _
      unfold q_ctR
      rw [q_up_ne hj, q_up_row (by decide)]; exact i2 j hj
    · show q_ctR (q_rn n g k) _ _ 168 20 = _
      unfold q_ctR
      rw [z_up_at, i3]; omega
theorem q_G6_n {g c g0 : z_St} (hG : q_G6 g c) (hw : g0 168 18 ≤ 5) {n : Int} (h : q_isRow g0 n) : ∀ {k : Nat}, (k : Int) ≤ q_many n + 1 → g 168 20 + k ≤ 3000 → q_G6 (q_rn n g k) (q_cn n c k) := by
  intro k
  induction k with
  | zero => intro _ _; exact hG
  | succ k ih =>
    intro hk h20
    have hp := q_pab hw h (k := k) (by omega)
    have := (q_rn_row (n := n) (g := g) (k := k)).2.2
    exact q_G6_count (ih (by omega) (by omega)) (by omega) (by omega) (by omega) rfl rfl
theorem s_learn_c {g c : z_St} (hw : g 168 18 ≤ 5) {n : Int} (h : q_isRow g n) (hr : q_rd 158 n c) : z_iter z_F (fun q9 : (Int × z_St) => J_X11_learn_b15 q9.1 q9.2) (0, c) = some (q_cn n c ((q_many n).toNat + 1)) := by
  have hmb := q_many_bd n
  have hr1 := h.1
  refine q_of ?_
  refine q_for0 (fun k s => s = q_cn n c k) ((q_many n).toNat + 1) (by omega) rfl ?_ ?_
  · rintro k s hk rfl
    have hfr := q_cn_row hw h (c := c) (k := k) (by omega)
    have hr9 : q_rd 158 n (q_cn n c k) := ⟨by rw [hfr 158 (by decide) (by decide)]; exact hr.1, fun j a b => by rw [hfr (158 + 1) (by decide) (by decide)]; exact hr.2 j a b⟩
    have c1 := s_X6_wordAt (k := (k : Int) - 1) hr9 (by omega)
    have c2 := s_X6_wordAt (k := (k : Int)) hr9 (by omega)
    have hp := q_pab hw h (k := k) (by omega)
    have e1 : (if 0 ≤ (k : Int) - 1 ∧ (k : Int) - 1 < q_many n then q_dig n ((k : Int) - 1) else -1) = q_pa n k := by
      unfold q_pa
      by_cases e : k = 0
      · rw [if_pos e, if_neg (by omega)]
      · rw [if_neg e, if_pos (by omega)]
    have e2 : (if 0 ≤ (k : Int) ∧ (k : Int) < q_many n then q_dig n (k : Int) else -1) = q_pb n k := by
      unfold q_pb
      by_cases e : (k : Int) = q_many n
      · rw [if_pos e, if_neg (by omega)]
      · rw [if_neg e, if_pos (by omega)]
    rw [e1] at c1
    rw [e2] at c2
    simp only [J_X11_learn_b15, q_g, q_b, q_let, q_ite, q_some, z32, z64, true_or, or_true, true_and, and_true]
    rw [hr9.1]
    refine ⟨by omega, fun h9 => by omega, fun _ => q_eq c1 (q_eq c2 (q_eq (s_X2_count (by omega)) ⟨_, rfl, rfl⟩))⟩
  · rintro s rfl
    have hfr := q_cn_row hw h (c := c) (k := (q_many n).toNat + 1) (by omega)
    simp only [J_X11_learn_b15, q_g, q_b, q_let, q_ite, q_some, z32, z64, true_or, or_true, true_and, and_true]
    rw [hfr 158 (by decide) (by decide), hr.1]
    exact ⟨by omega, fun _ => ⟨_, rfl, rfl⟩, fun h9 => by omega⟩
theorem s_learn_r {g b : z_St} (hw : g 168 18 ≤ 5) {n : Int} (h : q_isRow g n) (hr : ∀ k, 0 ≤ k → k < q_many n → b 186 k = q_dig n k) : z_iter z_F (fun q9 : (Int × z_St) => J_X12_learn_b30 (q_many n) q9.1 q9.2) (0, b) = some (q_rn n b ((q_many n).toNat + 1)) := by
  have hmb := q_many_bd n
  have hr1 := h.1
  refine q_of ?_
  refine q_for0 (fun k s => s = q_rn n b k) ((q_many n).toNat + 1) (by omega) rfl ?_ ?_
  · rintro k s hk rfl
    have hfr := q_rn_row (n := n) (g := b) (k := k)
    have hp := q_pab hw h (k := k) (by omega)
    have w67 : ∀ x y : Int, x = q_ix (q_pa n k + 1) → y = q_ix (q_pb n k + 1) → q_ok (J_X12_learn_67 (q_many n) k y x (q_rn n b k)) (fun r => ∃ s', r = .inl ((k : Int) + 1, s') ∧ s' = q_rn n b (k + 1)) := fun x y hx hy => by
      have h1 := q_ix_bd (i := q_pa n k + 1) (by omega)
      have h2 := q_ix_bd (i := q_pb n k + 1) (by omega)
      simp only [J_X12_learn_67, q_g, q_b, q_let, q_ite, q_some, z32, z64, true_or, or_true, true_and, and_true]
      subst hx hy
      exact q_eq (s_X12_counts (by omega)) ⟨_, rfl, rfl⟩
    have w52 : ∀ x : Int, x = q_ix (q_pa n k + 1) → q_ok (J_X12_learn_52 (q_many n) k x (q_rn n b k)) (fun r => ∃ s', r = .inl ((k : Int) + 1, s') ∧ s' = q_rn n b (k + 1)) := fun x hx => by
      simp only [J_X12_learn_52, q_g, q_b, q_let, q_ite, q_some, z32, z64, true_or, or_true, true_and, and_true]
      refine ⟨by omega, fun he => w67 _ _ hx ?_, fun hne => ⟨by omega, w67 _ _ hx ?_⟩⟩
      · unfold q_pb; rw [if_pos he]; rfl
      · rw [hfr.1 186 (by decide) (by decide), hr k (by omega) (by omega)]
        have := h.2 k (by omega) (by omega)
        unfold q_pb q_ix
        rw [if_neg hne, if_neg (by omega)]; omega
    simp only [J_X12_learn_b30, q_g, q_b, q_let, q_ite, q_some, z32, z64, true_or, or_true, true_and, and_true]
    refine ⟨by omega, fun h9 => by omega, fun _ => ⟨by omega, fun h0 => w52 _ ?_, fun h0 => ⟨by omega, w52 _ ?_⟩⟩⟩
    · unfold q_pa; rw [if_pos (by omega)]; rfl
    · rw [hfr.1 186 (by decide) (by decide), hr ((k : Int) - 1) (by omega) (by omega)]
      have := h.2 ((k : Int) - 1) (by omega) (by omega)
      unfold q_pa q_ix
      rw [if_neg (show ¬ k = 0 by omega), if_neg (by omega)]; omega
  · rintro s rfl
    simp only [J_X12_learn_b30, q_g, q_b, q_let, q_ite, q_some, z32, z64, true_or, or_true, true_and, and_true]
    exact ⟨by omega, fun _ => ⟨_, rfl, rfl⟩, fun h9 => by omega⟩
