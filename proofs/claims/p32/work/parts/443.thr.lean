-- A PATH THROUGH AN ARC IS A ROW'S
/-- the least WEIGHT of all -/
def q_bw (g : z_St) : Option Int := e_mins (q_wl g) (q_len g)
set_option maxRecDepth 100000 in
theorem q_row_lt {g : z_St} (hB : q_RB g) {n : Nat} (h : q_isRow g n) : n < 5556 := by
  have hw1 := hB.2.2.2.2.1.1
  have hb := q_many_bd n
  have hm : q_many n = if (n : Int) < 1 then 0 else if (n : Int) < 10 then 1 else if (n : Int) < 100 then 2 else if (n : Int) < 1000 then 3 else if (n : Int) < 10000 then 4 else 0 := rfl
  by_cases h4 : q_many n = 4
  · have h0 := h.2 0 (by omega) (by omega)
    have h1 := h.2 1 (by omega) (by omega)
    have h2 := h.2 2 (by omega) (by omega)
    have h3 := h.2 3 (by omega) (by omega)
    unfold q_dig at h0 h1 h2 h3
    rw [h4] at h0 h1 h2 h3
    rw [show (4 : Int) - 1 - 0 = 3 by rfl, show q_ten 3 = 1000 from rfl] at h0
    rw [show (4 : Int) - 1 - 1 = 2 by rfl, show q_ten 2 = 100 from rfl] at h1
    rw [show (4 : Int) - 1 - 2 = 1 by rfl, show q_ten 1 = 10 from rfl] at h2
    rw [show (4 : Int) - 1 - 3 = 0 by rfl, show q_ten 0 = 1 from rfl] at h3
    omega
  · have := h.1
    omega
theorem q_row_ix {g : z_St} (hB : q_RB g) {n : Nat} (h : q_isRow g n) : ∃ i : Nat, (q_rows g)[i]? = some n := by
  refine List.getElem?_of_mem ?_
  unfold q_rows q_rl
  exact List.mem_filter.mpr ⟨List.mem_range.mpr (q_row_lt hB h), (q_rowB_iff hB.2.2.2.2.1.1).mpr h⟩
theorem q_isRow_1 {g : z_St} (hB : q_RB g) {w : Nat} (hw : w < g 168 18) : q_isRow g ((w + 1 : Nat) : Int) := by
  have hw1 := hB.2.2.2.2.1.1
  have h := q_dig_1 (j := w) (by omega)
  refine ⟨by omega, fun k a b => ?_⟩
  have : k = 0 := by omega
  subst this
  rw [h.2]; omega
theorem q_isRow_ch {g : z_St} (hB : q_RB g) {n w : Nat} (h : q_isRow g n) (hn : n < 1000) (hw : w < g 168 18) : q_isRow g ((10 * n + w + 1 : Nat) : Int) := by
  have hw1 := hB.2.2.2.2.1.1
  have hb := q_many_bd n
  have h1 := h.1
  have e := q_many_ch (n := n) (j := w) (by omega) hn (by omega)
  refine ⟨by omega, fun k a b => ?_⟩
  by_cases hk : k < q_many n
  · rw [q_dig_ch (by omega) hn (by omega) ⟨a, hk⟩]; exact h.2 k a hk
  · have : k = q_many n := by omega
    subst this
    rw [q_dig_ch2 (by omega) hn (by omega)]; omega
theorem q_many_lt {n : Nat} (h : q_many n ≤ 3) (h1 : 1 ≤ q_many n) : 1 ≤ n ∧ n < 1000 := by
  have hb := q_many_bd n
  have hm : q_many n = if (n : Int) < 1 then 0 else if (n : Int) < 10 then 1 else if (n : Int) < 100 then 2 else if (n : Int) < 1000 then 3 else if (n : Int) < 10000 then 4 else 0 := rfl
  omega
theorem e_add_some {a b : Option Int} {x : Int} (h : e_add a b = some x) : ∃ y z, a = some y ∧ b = some z ∧ x = y + z := by
  cases a with
  | none => cases h
  | some y => cases b with
    | none => cases h
    | some z => exact ⟨y, z, rfl, rfl, (Option.some.inj h).symm⟩
/-- one WORD more -/
theorem q_A_more {g : z_St} (hB : q_RB g) {n w f t : Nat} {a s : Int} (h : q_isRow g n) (hm : q_many n ≤ 3) (hw : w < g 168 18) (hf : f < t) (ha : q_A g n f = some a) (hs : q_tab g w f t = some s) :
    ∃ a', q_A g ((10 * n + w + 1 : Nat) : Int) t = some a' ∧ a' ≤ a + s + q_dear g (q_dig n (q_many n - 1)) w := by
  have hw1 := hB.2.2.2.2.1.1
  have hn := q_many_lt hm h.1
  rw [q_A_ch hn.1 hn.2 (by omega)]
  have h1 := e_mins_le (f := fun c => e_add (q_A g n c) (q_tab g w c t)) hf
  obtain ⟨y, hy, hle⟩ := h1 (a + s) (by show e_add (q_A g n f) (q_tab g w f t) = _; rw [ha, hs]; rfl)
  rw [hy]
  exact ⟨_, rfl, by omega⟩
theorem q_ld_row {g : z_St} (hB : q_RB g) : ∀ {o w f t : Nat} {x s : Int}, o ≤ 3 → w < g 168 18 → f < t → q_ld g o w f = some x → q_tab g w f t = some s → ∃ n : Nat, q_isRow g n ∧ q_many n = (o : Int) + 1 ∧ q_dig n o = w ∧ ∃ a, q_A g n t = some a ∧ a ≤ x + s := by
  have hw1 := hB.2.2.2.2.1.1
  intro o
  induction o with
  | zero =>
    intro w f t x s _ hw hf hx hs
    unfold q_ld at hx
    have f0 : f = 0 := by
      apply Classical.byContradiction
      intro h; rw [if_neg h] at hx; cases hx
    subst f0
    rw [if_pos rfl] at hx
    cases hx
    have h := q_dig_1 (j := w) (by omega)
    refine ⟨w + 1, q_isRow_1 hB hw, h.1, h.2, ?_⟩
    rw [q_A_1 (by omega), if_neg (by omega)]
    rw [show ((0 : Nat) : Int) = 0 from rfl] at hs
    rw [hs]
    exact ⟨_, rfl, by omega⟩
  | succ o ih =>
    intro w f t x s ho hw hf hx hs
    rw [q_ld_succ] at hx
    obtain ⟨v, hv, hx⟩ := e_mins_eq hx
    obtain ⟨b, d, hb, hd, rfl⟩ := e_add_some hx
    cases hd
    obtain ⟨c, hc, hb⟩ := e_mins_eq hb
    obtain ⟨x1, s1, hx1, hs1, rfl⟩ := e_add_some hb
    obtain ⟨n, n1, n2, n3, a, n4, n5⟩ := ih (by omega) (by omega) hc hx1 hs1
    obtain ⟨a', k1, k2⟩ := q_A_more hB n1 (by omega) hw hf n4 hs
    rw [show q_many n - 1 = o by omega, n3] at k2
    have hn := q_many_lt (n := n) (by omega) n1.1
    have e := q_many_ch (n := n) (j := w) hn.1 hn.2 (by omega)
    have e2 := q_dig_ch2 (n := n) (j := w) hn.1 hn.2 (by omega)
    rw [n2] at e2
    refine ⟨10 * n + w + 1, q_isRow_ch hB n1 hn.2 hw, by omega, ?_, a', k1, by omega⟩
    rw [show ((o + 1 : Nat) : Int) = (o : Int) + 1 by omega]; exact e2
theorem q_bh_row {g : z_St} (hB : q_RB g) : ∀ {m n w t : Nat} {a y : Int}, q_isRow g n → q_many n + m ≤ 4 → q_dig n (q_many n - 1) = w → t ≤ g 168 2 → q_A g n t = some a → q_bh g m w t = some y → ∃ (i : Nat) (z : Int), i < q_len g ∧ q_wl g i = some z ∧ z ≤ a + y := by
  have hw1 := hB.2.2.2.2.1.1
  have hf1 := hB.1.1
  intro m
  induction m with
  | zero =>
    intro n w t a y h1 h2 h3 h4 h5 h6
    unfold q_bh at h6
    have ht : (t : Int) = g 168 2 := by
      apply Classical.byContradiction
      intro h; rw [if_neg h] at h6; cases h6
    rw [if_pos ht] at h6
    cases h6
    obtain ⟨i, hi⟩ := q_row_ix hB h1
    refine ⟨i, a + q_dear g w 5, (List.getElem?_eq_some_iff.mp hi).1, ?_, Int.le_refl _⟩
    rw [q_wl_at hi, q_wt_A h1.1 hf1.1, h3, show (g 168 2).toNat = t by omega, h5]
    rfl
  | succ m ih =>
    intro n w t a y h1 h2 h3 h4 h5 h6
    rw [q_bh_s] at h6
    obtain ⟨k, hk, h6⟩ := e_mins_eq h6
    obtain ⟨v, hv, h6⟩ := e_mins_eq h6
    unfold q_bhv at h6
    obtain ⟨b, d, hb, hd, rfl⟩ := e_add_some h6
    cases hd
    obtain ⟨y1, s, hy1, hs, rfl⟩ := e_add_some hb
    obtain ⟨a', k1, k2⟩ := q_A_more hB (w := v) (f := t) (t := t + 1 + k) h1 (by omega) (by omega) (by omega) h5 hs
    rw [h3] at k2
    have hn := q_many_lt (n := n) (by omega) h1.1
    have e := q_many_ch (n := n) (j := v) hn.1 hn.2 (by omega)
    have e2 := q_dig_ch2 (n := n) (j := v) hn.1 hn.2 (by omega)
    obtain ⟨i, z, i1, i2, i3⟩ := ih (n := 10 * n + v + 1) (w := v) (t := t + 1 + k) (a := a') (q_isRow_ch hB h1 hn.2 (by omega)) (by omega) (by rw [e, show q_many n + 1 - 1 = q_many n by omega]; exact e2) (by omega) k1 hy1
    exact ⟨i, z, i1, i2, by omega⟩
theorem q_thr_row {g : z_St} (hB : q_RB g) {w f t : Nat} {x : Int} (hw : w < g 168 18) (hf : f < t) (ht : t ≤ g 168 2) (h : q_thr g w f t = some x) : ∃ b, q_bw g = some b ∧ b ≤ x := by
  unfold q_thr at h
  obtain ⟨u, s, hu, hs, rfl⟩ := e_add_some h
  obtain ⟨o, ho, hu⟩ := e_mins_eq hu
  obtain ⟨x1, y, hx1, hy, rfl⟩ := e_add_some hu
  obtain ⟨m, hm, hy⟩ := e_mins_eq hy
  obtain ⟨n, n1, n2, n3, a, n4, n5⟩ := q_ld_row hB (by omega) hw hf hx1 hs
  obtain ⟨i, z, i1, i2, i3⟩ := q_bh_row hB (m := m) (n := n) (w := w) (t := t) n1 (by omega) (by rw [n2, show (o : Int) + 1 - 1 = o by omega]; exact n3) ht n4 hy
  obtain ⟨b, hb, hle⟩ := e_mins_le (f := q_wl g) i1 z i2
  exact ⟨b, hb, by omega⟩
/-- the SLACK -/
def q_sl (g : z_St) (w f t : Nat) : Option Int := (q_thr g w f t).map (fun x => x - e_I 0 (q_bw g))
theorem q_sl_bd {g : z_St} (hB : q_RB g) {w f t : Nat} (hw : w < g 168 18) (hf : f < t) (ht : t ≤ g 168 2) : e_bd 10000000000000 (q_sl g w f t) := by
  intro y hy
  unfold q_sl at hy
  cases hx : q_thr g w f t with
  | none => rw [hx] at hy; cases hy
  | some x =>
    rw [hx] at hy
    obtain ⟨b, hb, hle⟩ := q_thr_row hB hw hf ht hx
    have h1 := q_thr_bd hB hw (by omega) ht x hx
    rw [hb] at hy
    have h2 : 0 ≤ b := by
      obtain ⟨i, hi, hbi⟩ := e_mins_eq hb
      exact (q_wl_bd hB i b hbi).1
    have h3 : some (x - e_I 0 (some b)) = some y := hy
    rw [e_I_some] at h3
    have h4 := Option.some.inj h3
    omega
theorem q_bw_of {g : z_St} {k : Nat} {x : Int} (hk : k < q_len g) (hx : q_wl g k = some x) (h : ∀ (i : Nat) (y : Int), i < q_len g → q_wl g i = some y → x ≤ y) : q_bw g = some x := by
  obtain ⟨b, hb, hle⟩ := e_mins_le (f := q_wl g) hk x hx
  obtain ⟨i, hi, hbi⟩ := e_mins_eq hb
  have := h i b hi hbi
  have e : b = x := by omega
  subst e
  exact hb
theorem q_bw_first {g : z_St} {b : Int} (h : q_first g (q_rows g) b) : (b = -1 ∧ q_bw g = none ∧ ∀ i, i < q_len g → q_wl g i = none) ∨ ∃ (k n : Nat) (x : Int), b = (k : Int) ∧ (q_rows g)[k]? = some n ∧ q_wl g k = some x ∧ q_bw g = some x ∧ ∀ (i : Nat) (y : Int), i < q_len g → q_wl g i = some y → x ≤ y ∧ (i < k → x < y) := by
  have hg : ∀ i, i < q_len g → (q_rows g)[i]? = some (q_rows g)[i]! ∧ q_wl g i = q_wt g (q_rows g)[i]! := fun i hi => by
    have e : (q_rows g)[i]? = some (q_rows g)[i]! := by rw [List.getElem!_eq_getElem?_getD, List.getElem?_eq_getElem hi]; rfl
    exact ⟨e, q_wl_at e⟩
  rcases h with ⟨rfl, h⟩ | ⟨k, n, x, rfl, h1, h2, h3⟩
  · have hall : ∀ i, i < q_len g → q_wl g i = none := fun i hi => by rw [(hg i hi).2]; exact h i _ (hg i hi).1
    exact Or.inl ⟨rfl, e_mins_allnone hall, hall⟩
  · have hk := (List.getElem?_eq_some_iff.mp h1).1
    have hwx : q_wl g k = some x := by rw [q_wl_at h1]; exact h2
    have hall : ∀ (i : Nat) (y : Int), i < q_len g → q_wl g i = some y → x ≤ y ∧ (i < k → x < y) := fun i y hi hy => h3 i _ y (hg i hi).1 (by rw [← (hg i hi).2]; exact hy)
    exact Or.inr ⟨k, n, x, rfl, h1, hwx, q_bw_of hk hwx (fun i y a b => (hall i y a b).1), hall⟩
theorem q_bw_least {g : z_St} {o : Option Int} (h : q_least g o) : o = q_bw g := by
  rcases h with ⟨rfl, h⟩ | ⟨k, x, rfl, h1, h2, h3⟩
  · exact (e_mins_allnone h).symm
  · exact (q_bw_of h1 h2 h3).symm
