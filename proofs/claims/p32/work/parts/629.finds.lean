-- FINDS: the search beside the best row
set_option maxRecDepth 100000 in
theorem q_row_cases {g : z_St} (hB : q_RB g) {m : Nat} (h : q_isRow g m) : (∃ j : Nat, j < g 168 18 ∧ m = j + 1 ∧ q_many m = 1 ∧ q_dig m (q_many m - 1) = j) ∨ ∃ m' j : Nat, q_isRow g m' ∧ m' < 1000 ∧ j < g 168 18 ∧ m = 10 * m' + j + 1 ∧ q_many m = q_many m' + 1 ∧ q_dig m (q_many m - 1) = j := by
  have hw1 := hB.2.2.2.2.1.1
  have hmb := q_many_bd m
  have h1 := h.1
  have hm : q_many m = if (m : Int) < 1 then 0 else if (m : Int) < 10 then 1 else if (m : Int) < 100 then 2 else if (m : Int) < 1000 then 3 else if (m : Int) < 10000 then 4 else 0 := rfl
  have hl := h.2 (q_many m - 1) (by omega) (by omega)
  have el : q_dig m (q_many m - 1) = (m : Int) % 10 - 1 := by
    unfold q_dig
    rw [show q_many m - 1 - (q_many m - 1) = 0 by omega]
    show (m : Int) / 1 % 10 - 1 = _
    rw [Int.ediv_one]
  by_cases e : q_many m = 1
  · refine Or.inl ⟨m - 1, by omega, by omega, e, ?_⟩
    rw [el]; omega
  · have em : m = 10 * (m / 10) + (m % 10 - 1) + 1 := by omega
    have e2 := q_many_ch (n := m / 10) (j := m % 10 - 1) (by omega) (by omega) (by omega)
    rw [← em] at e2
    refine Or.inr ⟨m / 10, m % 10 - 1, ⟨by omega, fun k a b => ?_⟩, by omega, by omega, em, e2, by rw [el]; omega⟩
    have := q_dig_ch (n := m / 10) (j := m % 10 - 1) (k := k) (by omega) (by omega) (by omega) ⟨a, b⟩
    rw [← em] at this
    rw [← this]
    exact h.2 k a (by omega)
theorem q_lp_mem {c : Nat → Option (Int × Int)} {p : Int × Int} : ∀ {n : Nat}, q_lp c n = some p → ∃ i, i < n ∧ c i = some p := by
  intro n
  induction n with
  | zero => intro h; cases h
  | succ n ih =>
    intro h
    have h' : q_put (q_lp c n) (c n) = some p := h
    cases hc : c n with
    | none =>
      rw [hc, q_put_none] at h'
      obtain ⟨i, a, b⟩ := ih h'
      exact ⟨i, by omega, b⟩
    | some q =>
      obtain ⟨x, y⟩ := q
      rw [hc] at h'
      cases ho : q_lp c n with
      | none =>
        rw [ho] at h'
        exact ⟨n, by omega, by rw [hc]; exact h'⟩
      | some r =>
        obtain ⟨u, v⟩ := r
        rw [ho] at h'
        have h2 : (if x < u ∨ (x = u ∧ y < v) then some (x, y) else some (u, v)) = some p := h'
        by_cases hlt : x < u ∨ (x = u ∧ y < v)
        · rw [if_pos hlt] at h2; exact ⟨n, by omega, by rw [hc]; exact h2⟩
        · rw [if_neg hlt] at h2
          obtain ⟨i, a, b⟩ := ih (ho.trans h2)
          exact ⟨i, by omega, b⟩
/-- not behind, WEIGHT before number -/
def q_lx (x n a m : Int) : Prop := x < a ∨ (x = a ∧ n ≤ m)
theorem q_lp_le {c : Nat → Option (Int × Int)} {a m : Int} {i : Nat} : ∀ {n : Nat}, i < n → c i = some (a, m) → ∃ x k, q_lp c n = some (x, k) ∧ q_lx x k a m := by
  intro n
  induction n with
  | zero => intro h; omega
  | succ n ih =>
    intro h hc
    show ∃ x k, q_put (q_lp c n) (c n) = some (x, k) ∧ _
    by_cases e : i = n
    · subst e
      rw [hc]
      cases ho : q_lp c i with
      | none => exact ⟨a, m, rfl, Or.inr ⟨rfl, Int.le_refl _⟩⟩
      | some r =>
        obtain ⟨u, v⟩ := r
        show ∃ x k, (if a < u ∨ (a = u ∧ m < v) then some (a, m) else some (u, v)) = some (x, k) ∧ _
        by_cases hlt : a < u ∨ (a = u ∧ m < v)
        · rw [if_pos hlt]; exact ⟨a, m, rfl, Or.inr ⟨rfl, Int.le_refl _⟩⟩
        · rw [if_neg hlt]; exact ⟨u, v, rfl, by unfold q_lx; omega⟩
    · obtain ⟨x, k, e1, e2⟩ := ih (by omega) hc
      rw [e1]
      cases hn : c n with
      | none => exact ⟨x, k, rfl, e2⟩
      | some r =>
        obtain ⟨u, v⟩ := r
        show ∃ x' k', (if u < x ∨ (u = x ∧ v < k) then some (u, v) else some (x, k)) = some (x', k') ∧ _
        unfold q_lx at e2 ⊢
        by_cases hlt : u < x ∨ (u = x ∧ v < k)
        · rw [if_pos hlt]; exact ⟨u, v, rfl, by omega⟩
        · rw [if_neg hlt]; exact ⟨x, k, rfl, e2⟩
/-- what is kept is a row's, and says no less than the row takes -/
def q_sd (g : z_St) (s k : Nat) (o : Option (Int × Int)) : Prop := ∀ x n, o = some (x, n) → k < 20 ∧ ∃ m : Nat, n = m ∧ q_isRow g m ∧ q_many m = ((k / 5 + 1 : Nat) : Int) ∧ q_dig m (q_many m - 1) = ((k % 5 : Nat) : Int) ∧ ∃ a, q_A g m s = some a ∧ a ≤ x
theorem q_E_sd {g : z_St} (hB : q_RB g) {H : Nat → Nat → Option (Int × Int)} {t : Nat} (ht : 1 ≤ t) (hH : ∀ s k, 1 ≤ s → s < t → q_sd g s k (H s k)) (k : Nat) : q_sd g t k (q_E g H t k) := by
  have hw1 := hB.2.2.2.2.1.1
  intro x n h
  unfold q_E at h
  by_cases hc : k % 5 < (g 168 18).toNat ∧ k < 20
  · rw [if_pos hc] at h
    by_cases h5 : k < 5
    · rw [if_pos h5] at h
      unfold q_one1 at h
      have hd := q_dig_1 (j := k) (by omega)
      have hA := q_A_1 (g := g) (j := k) (t := t) (by omega)
      rw [if_neg (by omega)] at hA
      cases hq : q_tab g (k : Int) 0 t with
      | none => rw [hq] at h; cases h
      | some y =>
        rw [hq] at h hA
        have h2 := Prod.mk.inj (Option.some.inj h)
        refine ⟨hc.2, k + 1, by omega, q_isRow_1 hB (by omega), by rw [hd.1]; omega, ?_, _, hA, by omega⟩
        rw [hd.1, show (1 : Int) - 1 = 0 from rfl, hd.2]; omega
    · rw [if_neg h5] at h
      obtain ⟨j, hj, hjc⟩ := q_lp_mem h
      unfold q_cand q_ext at hjc
      cases hh : H (1 + j / 5) (5 * (k / 5 - 1) + j % 5) with
      | none => rw [hh] at hjc; cases hjc
      | some p =>
        obtain ⟨x0, n0⟩ := p
        rw [hh] at hjc
        dsimp only at hjc
        cases hq : q_tab g ((k % 5 : Nat) : Int) ((1 + j / 5 : Nat) : Int) t with
        | none => rw [hq] at hjc; cases hjc
        | some y =>
          rw [hq] at hjc
          have h2 := Prod.mk.inj (Option.some.inj hjc)
          obtain ⟨_, m, rfl, i2, i3, i4, a, i5, i6⟩ := hH (1 + j / 5) (5 * (k / 5 - 1) + j % 5) (by omega) (by omega) x0 n0 hh
          rw [show (5 * (k / 5 - 1) + j % 5) / 5 + 1 = k / 5 by omega] at i3
          rw [show (5 * (k / 5 - 1) + j % 5) % 5 = j % 5 by omega] at i4
          have hlt := q_many_lt (n := m) (by omega) (by omega)
          obtain ⟨a', e1, e2⟩ := q_A_more hB (w := k % 5) (f := 1 + j / 5) (t := t) i2 (by omega) (by omega) (by omega) i5 hq
          have hd := q_dig_ch2 (n := m) (j := k % 5) (by omega) hlt.2 (by omega)
          have hm := q_many_ch (n := m) (j := k % 5) (by omega) hlt.2 (by omega)
          rw [i4] at e2
          refine ⟨hc.2, 10 * m + k % 5 + 1, by omega, q_isRow_ch hB i2 hlt.2 (by omega), by omega, ?_, a', e1, by omega⟩
          rw [hm, show q_many m + 1 - 1 = q_many m by omega]; exact hd
  · rw [if_neg hc] at h; cases h
theorem q_Hs_sd {g : z_St} (hB : q_RB g) {beam most : Int} : ∀ (T s k : Nat), 1 ≤ s → s ≤ T → q_sd g s k (q_Hs g beam most T s k) := by
  intro T
  induction T with
  | zero => intro s k a b; omega
  | succ T ih =>
    intro s k a b
    by_cases e : s = T + 1
    · subst e
      rw [q_Hs_at]
      have key := q_E_sd hB (H := q_Hs g beam most T) (t := T + 1) (by omega) (fun s k a b => ih s k a (by omega)) k
      rcases q_kp_or (beam := beam) (most := most) (E := q_Et g beam most T) (k := k) with h | h
      · rw [h]; intro x n h; cases h
      · rw [h]; exact key
    · rw [q_Hs_lt (by omega)]; exact ih s k a (by omega)
theorem q_fin_sd {g : z_St} (hB : q_RB g) {beam most y n : Int} (h : q_fin g beam most = some (y, n)) : q_isRow g n ∧ ∃ z, q_wt g n = some z ∧ z ≤ y := by
  have hf1 := hB.1.1
  obtain ⟨k, hk, hc⟩ := q_lp_mem h
  unfold q_fc at hc
  cases hh : q_Hs g beam most (g 168 2).toNat (g 168 2).toNat k with
  | none => rw [hh] at hc; cases hc
  | some p =>
    obtain ⟨x, n'⟩ := p
    rw [hh] at hc
    have h2 := Prod.mk.inj (Option.some.inj hc)
    have hf : 1 ≤ (g 168 2).toNat := by
      by_cases e : (g 168 2).toNat = 0
      · rw [e] at hh; cases hh
      · omega
    obtain ⟨_, m, rfl, i2, i3, i4, a, i5, i6⟩ := q_Hs_sd hB (g 168 2).toNat (g 168 2).toNat k hf (Nat.le_refl _) x n' hh
    rw [← h2.2]
    have e := q_wt_A (g := g) (n := m) (by omega) (by omega)
    rw [i5, i4] at e
    exact ⟨i2, _, e, by omega⟩
/-- with nothing dropped every row is kept, or one that is ahead of it -/
theorem q_Hs_cp {g : z_St} (hB : q_RB g) {beam most : Int} : ∀ (T : Nat), q_dr g beam most T = 0 → ∀ (s m : Nat) (a : Int), 1 ≤ s → s ≤ T → q_isRow g m → q_A g m s = some a → ∃ (k : Nat) (x n : Int), k < 20 ∧ q_many m = ((k / 5 + 1 : Nat) : Int) ∧ q_dig m (q_many m - 1) = ((k % 5 : Nat) : Int) ∧ q_Hs g beam most T s k = some (x, n) ∧ q_lx x n a m := by
  have hw1 := hB.2.2.2.2.1.1
  intro T
  induction T with
  | zero => intro _ s m a h1 h2; omega
  | succ T ih =>
    intro hd s m a h1 h2 hr ha
    have hdT := q_dr_bd (g := g) (beam := beam) (most := most) T
    have hds : q_dr g beam most (T + 1) = q_dr g beam most T + (q_nd beam most (q_Et g beam most T) : Int) := rfl
    have hd0 : q_dr g beam most T = 0 := by omega
    have hn0 : q_nd beam most (q_Et g beam most T) = 0 := by omega
    by_cases e : s = T + 1
    · subst e
      have keep : ∀ k, k < 20 → ∀ p, q_Et g beam most T k = some p → q_Hs g beam most (T + 1) (T + 1) k = some p := fun k hk p hp => by
        rw [q_Hs_at]
        rcases q_kp_or (beam := beam) (most := most) (E := q_Et g beam most T) (k := k) with h | h
        · exfalso
          obtain ⟨z1, z2⟩ := e_cnt_lt (h := fun k => (q_Et g beam most T k).isSome && (q_kp beam most (q_Et g beam most T) k).isNone) (f := fun _ => false) (n := 20) (a := k) (fun i hi hq => by cases hq)
          have z3 := z2 hk (by show ((q_Et g beam most T k).isSome && (q_kp beam most (q_Et g beam most T) k).isNone) = true; rw [hp, h]; rfl) (fun hq => by cases hq)
          unfold q_nd at hn0
          omega
        · rw [h]; exact hp
      have fin : ∀ (k : Nat) (x n : Int), k < 20 → q_many m = ((k / 5 + 1 : Nat) : Int) → q_dig m (q_many m - 1) = ((k % 5 : Nat) : Int) → q_Et g beam most T k = some (x, n) → q_lx x n a m → ∃ (k : Nat) (x n : Int), k < 20 ∧ q_many m = ((k / 5 + 1 : Nat) : Int) ∧ q_dig m (q_many m - 1) = ((k % 5 : Nat) : Int) ∧ q_Hs g beam most (T + 1) (T + 1) k = some (x, n) ∧ q_lx x n a m := fun k x n p1 p2 p3 p4 p5 => ⟨k, x, n, p1, p2, p3, keep k p1 _ p4, p5⟩
      rcases q_row_cases hB hr with ⟨j, j1, rfl, j3, j4⟩ | ⟨m', j, j1, j2, j3, rfl, j5, j6⟩
      · have hA := q_A_1 (g := g) (j := j) (t := T + 1) (by omega)
        rw [if_neg (by omega), ha] at hA
        obtain ⟨y, z, e1, e2, e3⟩ := e_add_some hA.symm
        refine fin j a ((j : Int) + 1) (by omega) (by rw [j3]; omega) (by rw [j4]; omega) ?_ (Or.inr ⟨rfl, by omega⟩)
        show q_E g (q_Hs g beam most T) (T + 1) j = _
        unfold q_E
        rw [if_pos (by omega), if_pos (by omega)]
        unfold q_one1
        rw [e1]
        cases e2
        rw [e3]
      · have hm' := q_many_bd m'
        have hr' := j1.1
        rw [q_A_ch (by omega) j2 (by omega)] at ha
        obtain ⟨y, z, e1, e2, e3⟩ := e_add_some ha
        obtain ⟨c, hc, e4⟩ := e_mins_eq e1
        obtain ⟨a', s', e5, e6, e7⟩ := e_add_some e4
        have hc1 : 1 ≤ c := by
          by_cases h0 : c = 0
          · subst h0; rw [q_A_0 hr'] at e5; cases e5
          · omega
        obtain ⟨k', x', n', p1, p2, p3, p4, p5⟩ := ih hd0 c m' a' hc1 (by omega) j1 e5
        have hz : z = q_dear g (q_dig m' (q_many m' - 1)) j := (Option.some.inj e2).symm
        have hkk : q_many ((10 * m' + j + 1 : Nat) : Int) = ((k' / 5 + 2 : Nat) : Int) := by omega
        have hmb := q_many_bd ((10 * m' + j + 1 : Nat) : Int)
        have hcand : q_cand g (q_Hs g beam most T) (T + 1) (5 * (k' / 5 + 1) + j) (5 * (c - 1) + k' % 5) = some (x' + s' + z, 10 * n' + j + 1) := by
          unfold q_cand
          rw [show (5 * (k' / 5 + 1) + j) % 5 = j by omega, show (5 * (c - 1) + k' % 5) % 5 = k' % 5 by omega, show 1 + (5 * (c - 1) + k' % 5) / 5 = c by omega, show 5 * ((5 * (k' / 5 + 1) + j) / 5 - 1) + k' % 5 = k' by omega, p4, e6]
          unfold q_ext
          rw [hz, p3]
        obtain ⟨x, n, r1, r2⟩ := q_lp_le (n := 5 * (T + 1 - 1)) (i := 5 * (c - 1) + k' % 5) (by omega) hcand
        refine fin (5 * (k' / 5 + 1) + j) x n (by omega) (by omega) (by rw [j6]; omega) ?_ (by unfold q_lx at *; omega)
        show q_E g (q_Hs g beam most T) (T + 1) (5 * (k' / 5 + 1) + j) = _
        unfold q_E
        rw [if_pos (by omega), if_neg (by omega)]
        exact r1
    · obtain ⟨k, x, n, p1, p2, p3, p4, p5⟩ := ih hd0 s m a h1 (by omega) hr ha
      exact ⟨k, x, n, p1, p2, p3, by rw [q_Hs_lt (by omega)]; exact p4, p5⟩
theorem q_fin_cp {g : z_St} (hB : q_RB g) {beam most : Int} (hd : q_dr g beam most (g 168 2).toNat = 0) {m : Nat} {z : Int} (hr : q_isRow g m) (hz : q_wt g m = some z) : ∃ y n, q_fin g beam most = some (y, n) ∧ q_lx y n z m := by
  have hf1 := hB.1.1
  have hr1 := hr.1
  rw [q_wt_A hr1 (by omega)] at hz
  obtain ⟨a, b, e1, e2, e3⟩ := e_add_some hz
  have hf : 1 ≤ (g 168 2).toNat := by
    by_cases e : (g 168 2).toNat = 0
    · rw [e, q_A_0 hr1] at e1; cases e1
    · omega
  obtain ⟨k, x, n, p1, p2, p3, p4, p5⟩ := q_Hs_cp hB _ hd _ m a hf (Nat.le_refl _) hr e1
  have hc : q_fc g (q_Hs g beam most (g 168 2).toNat) (g 168 2).toNat k = some (x + q_dear g ((k % 5 : Nat) : Int) 5, n) := by
    unfold q_fc; rw [p4]
  obtain ⟨y, n', r1, r2⟩ := q_lp_le (n := 20) (i := k) p1 hc
  refine ⟨y, n', r1, ?_⟩
  have hb : b = q_dear g (q_dig m (q_many m - 1)) 5 := (Option.some.inj e2).symm
  rw [p3] at hb
  unfold q_lx at *
  omega
/-- with nothing dropped the search finds the best row -/
theorem q_fin_best {g : z_St} (hB : q_RB g) {beam most : Int} (hd : q_dr g beam most (g 168 2).toNat = 0) {b n : Nat} (hb : q_bestRow g b n) : ∃ y, q_wt g n = some y ∧ q_fin g beam most = some (y, (n : Int)) := by
  obtain ⟨y, e1, e2, e3⟩ := q_row_best hB hb
  obtain ⟨x, k, r1, r2⟩ := q_fin_cp hB hd (q_rows_isRow hB hb.1) e1
  obtain ⟨f1, z, f2, f3⟩ := q_fin_sd hB r1
  refine ⟨y, e1, ?_⟩
  rw [r1]
  unfold q_lx at r2
  rcases e3 k f1 with h | ⟨z', h1, h2, h3, h4⟩
  · rw [h] at f2; cases f2
  · rw [h1] at f2
    have : z' = z := Option.some.inj f2
    have h5 : y = x := by omega
    have h6 : k = n := by omega
    rw [h5, h6]
theorem q_fin_none {g : z_St} (hB : q_RB g) {beam most : Int} (hn : q_bw g = none) : q_fin g beam most = none := by
  cases h : q_fin g beam most with
  | none => rfl
  | some p =>
    obtain ⟨y, n⟩ := p
    obtain ⟨f1, z, f2, f3⟩ := q_fin_sd hB h
    rw [q_row_none hB hn f1] at f2; cases f2
