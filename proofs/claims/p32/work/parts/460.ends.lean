-- THE SEARCH: what the ends are
def q_put (o c : Option (Int × Int)) : Option (Int × Int) := match c with
  | none => o
  | some (x, n) => match o with
    | none => some (x, n)
    | some (y, m) => if x < y ∨ (x = y ∧ n < m) then some (x, n) else some (y, m)
def q_lp (c : Nat → Option (Int × Int)) : Nat → Option (Int × Int)
  | 0 => none
  | n + 1 => q_put (q_lp c n) (c n)
theorem q_put_none {o : Option (Int × Int)} : q_put o none = o := rfl
theorem q_lp_skip {c : Nat → Option (Int × Int)} {a : Nat} : ∀ {b : Nat}, a ≤ b → (∀ i, a ≤ i → i < b → c i = none) → q_lp c b = q_lp c a := by
  intro b
  induction b with
  | zero => intro h _; rw [show a = 0 by omega]
  | succ b ih =>
    intro h k
    by_cases e : a = b + 1
    · rw [e]
    · show q_put (q_lp c b) (c b) = _
      rw [k b (by omega) (by omega), q_put_none]
      exact ih (by omega) (fun i p q => k i p (by omega))
/-- bounds of an end of the slot k -/
def q_ob (k : Nat) (o : Option (Int × Int)) : Prop := ∀ x n, o = some (x, n) → 0 ≤ x ∧ x ≤ ((k / 5 + 1 : Nat) : Int) * 700000000000 ∧ 1 ≤ n ∧ n < if k < 5 then 10 else if k < 10 then 100 else if k < 15 then 1000 else 10000
theorem q_ob_none {k : Nat} : q_ob k none := fun x n h => nomatch h
theorem q_ob_put {k : Nat} {o c : Option (Int × Int)} (ho : q_ob k o) (hc : q_ob k c) : q_ob k (q_put o c) := by
  cases c with
  | none => exact ho
  | some p =>
    obtain ⟨x, n⟩ := p
    cases o with
    | none => exact hc
    | some q =>
      obtain ⟨y, m⟩ := q
      show q_ob k (if x < y ∨ (x = y ∧ n < m) then some (x, n) else some (y, m))
      split
      · exact hc
      · exact ho
theorem q_ob_lp {k : Nat} {c : Nat → Option (Int × Int)} : ∀ {n : Nat}, (∀ i, i < n → q_ob k (c i)) → q_ob k (q_lp c n) := by
  intro n
  induction n with
  | zero => intro _; exact q_ob_none
  | succ n ih => intro h; exact q_ob_put (ih fun i hi => h i (by omega)) (h n (by omega))
def q_ext (g : z_St) (w last : Nat) (o : Option (Int × Int)) (tab : Option Int) : Option (Int × Int) := match o with
  | none => none
  | some (x, n) => match tab with
    | none => none
    | some y => some (x + y + q_dear g last w, 10 * n + w + 1)
def q_cand (g : z_St) (H : Nat → Nat → Option (Int × Int)) (t k j : Nat) : Option (Int × Int) := q_ext g (k % 5) (j % 5) (H (1 + j / 5) (5 * (k / 5 - 1) + j % 5)) (q_tab g ((k % 5 : Nat) : Int) ((1 + j / 5 : Nat) : Int) t)
def q_one1 (g : z_St) (w t : Nat) : Option (Int × Int) := match q_tab g w 0 t with
  | none => none
  | some y => some (y + q_dear g 5 w, (w : Int) + 1)
def q_E (g : z_St) (H : Nat → Nat → Option (Int × Int)) (t k : Nat) : Option (Int × Int)   := if k % 5 < (g 168 18).toNat ∧ k < 20 then (if k < 5 then q_one1 g k t else q_lp (q_cand g H t k) (5 * (t - 1))) else none
def q_low (E : Nat → Option (Int × Int)) : Option Int := e_mins (fun k => (E k).map Prod.fst) 20
def q_aB (a b : Option (Int × Int)) : Bool := match a, b with
  | some (y, m), some (x, n) => decide (y < x) || (decide (y = x) && decide (m < n))
  | _, _ => false
def q_ahd (E : Nat → Option (Int × Int)) (k : Nat) : Nat := e_cnt (fun j => q_aB (E j) (E k)) 20
def q_kp (beam most : Int) (E : Nat → Option (Int × Int)) (k : Nat) : Option (Int × Int) := match E k with
  | none => none
  | some (x, n) => if x - e_I 0 (q_low E) ≤ beam ∧ (q_ahd E k : Int) < most then some (x, n) else none
def q_Hs (g : z_St) (beam most : Int) : Nat → Nat → Nat → Option (Int × Int)
  | 0 => fun _ _ => none
  | T + 1 => fun s k => if s = T + 1 then q_kp beam most (q_E g (q_Hs g beam most T) (T + 1)) k else q_Hs g beam most T s k
/-- the ends of T + 1 before any is dropped -/
def q_Et (g : z_St) (beam most : Int) (T : Nat) : Nat → Option (Int × Int) := q_E g (q_Hs g beam most T) (T + 1)
def q_nd (beam most : Int) (E : Nat → Option (Int × Int)) : Nat := e_cnt (fun k => (E k).isSome && (q_kp beam most E k).isNone) 20
def q_dr (g : z_St) (beam most : Int) : Nat → Int
  | 0 => 0
  | T + 1 => q_dr g beam most T + (q_nd beam most (q_Et g beam most T) : Int)
def q_fc (g : z_St) (H : Nat → Nat → Option (Int × Int)) (T k : Nat) : Option (Int × Int) := match H T k with
  | none => none
  | some (x, n) => some (x + q_dear g ((k % 5 : Nat) : Int) 5, n)
def q_fin (g : z_St) (beam most : Int) : Option (Int × Int) := q_lp (q_fc g (q_Hs g beam most (g 168 2).toNat) (g 168 2).toNat) 20
theorem q_one1_ob {g : z_St} (hB : q_RB g) {w t : Nat} (hw : w < g 168 18) (ht : t ≤ g 168 2) : q_ob w (q_one1 g w t) := by
  have hw1 := hB.2.2.2.2.1.1
  intro x n h
  unfold q_one1 at h
  cases hq : q_tab g w 0 t with
  | none => rw [hq] at h; cases h
  | some y =>
    rw [hq] at h
    have h1 := Option.some.inj h
    have h2 := Prod.mk.inj h1
    have h3 := q_tab_bd hB (w := w) (f := 0) (t := t) (by omega) y hq
    have h4 := q_dear_w hB hw hw
    rw [if_pos (by omega)]
    omega
theorem q_ext_ob {g : z_St} (hB : q_RB g) {k w last : Nat} {o : Option (Int × Int)} {f t : Int} (hk : k < 15) (ho : q_ob k o) (hw : w < g 168 18) (hl : last < g 168 18) (hf : 0 ≤ f) (ht : t ≤ g 168 2) : q_ob (5 * (k / 5 + 1) + w) (q_ext g w last o (q_tab g w f t)) := by
  have hw1 := hB.2.2.2.2.1.1
  intro x n h
  unfold q_ext at h
  cases o with
  | none => cases h
  | some p =>
    obtain ⟨x0, n0⟩ := p
    cases hq : q_tab g w f t with
    | none => rw [hq] at h; cases h
    | some y =>
      rw [hq] at h
      have h2 := Prod.mk.inj (Option.some.inj h)
      have h3 := q_tab_bd hB (w := w) (f := f) (t := t) (by omega) y hq
      have h4 := q_dear_w hB hl hw
      have h5 := ho x0 n0 rfl
      rw [show (5 * (k / 5 + 1) + w) / 5 + 1 = k / 5 + 1 + 1 by omega]
      rw [Int.natCast_add]
      refine ⟨by omega, by omega, by omega, ?_⟩
      by_cases h9 : k < 5
      · rw [if_pos h9] at h5; rw [if_neg (by omega), if_pos (by omega)]; omega
      · by_cases h8 : k < 10
        · rw [if_neg h9, if_pos h8] at h5; rw [if_neg (by omega), if_neg (by omega), if_pos (by omega)]; omega
        · rw [if_neg h9, if_neg h8, if_pos hk] at h5; rw [if_neg (by omega), if_neg (by omega), if_neg (by omega)]; omega
/-- bounds of all that is kept -/
def q_Hb (g : z_St) (H : Nat → Nat → Option (Int × Int)) : Prop := ∀ s k, q_ob k (H s k) ∧ (¬ k % 5 < (g 168 18).toNat → H s k = none)
theorem q_E_ob {g : z_St} (hB : q_RB g) {H : Nat → Nat → Option (Int × Int)} (hH : q_Hb g H) {t k : Nat} (ht : t ≤ g 168 2) : q_ob k (q_E g H t k) ∧ (¬ k % 5 < (g 168 18).toNat → q_E g H t k = none) := by
  have hw1 := hB.2.2.2.2.1.1
  refine ⟨?_, fun h => by unfold q_E; rw [if_neg (by omega)]⟩
  unfold q_E
  by_cases h1 : k % 5 < (g 168 18).toNat ∧ k < 20
  · rw [if_pos h1]
    by_cases h2 : k < 5
    · rw [if_pos h2]; exact q_one1_ob hB (by omega) ht
    · rw [if_neg h2]
      refine q_ob_lp fun j hj => ?_
      unfold q_cand
      by_cases h3 : j % 5 < (g 168 18).toNat
      · have := q_ext_ob hB (k := 5 * (k / 5 - 1) + j % 5) (w := k % 5) (last := j % 5) (f := ((1 + j / 5 : Nat) : Int)) (t := t) (by omega) (hH (1 + j / 5) _).1 (by omega) (by omega) (by omega) ht
        rw [show 5 * ((5 * (k / 5 - 1) + j % 5) / 5 + 1) + k % 5 = k by omega] at this
        exact this
      · rw [(hH _ _).2 (by omega)]
        exact q_ob_none
  · rw [if_neg h1]; exact q_ob_none
theorem q_kp_or {beam most : Int} {E : Nat → Option (Int × Int)} {k : Nat} : q_kp beam most E k = none ∨ q_kp beam most E k = E k := by
  unfold q_kp
  cases h : E k with
  | none => exact Or.inl rfl
  | some p =>
    obtain ⟨x, n⟩ := p
    show (if _ then _ else _) = _ ∨ (if _ then _ else _) = _
    split
    · exact Or.inr rfl
    · exact Or.inl rfl
theorem q_Hs_b {g : z_St} (hB : q_RB g) {beam most : Int} : ∀ {T : Nat}, T ≤ g 168 2 → q_Hb g (q_Hs g beam most T) := by
  intro T
  induction T with
  | zero => intro _ s k; exact ⟨q_ob_none, fun _ => rfl⟩
  | succ T ih =>
    intro hT s k
    have hE := q_E_ob hB (ih (by omega)) (t := T + 1) (k := k) hT
    show q_ob k (if s = T + 1 then _ else _) ∧ (_ → (if s = T + 1 then _ else _) = none)
    by_cases e : s = T + 1
    · rw [if_pos e]
      rcases q_kp_or (beam := beam) (most := most) (E := q_E g (q_Hs g beam most T) (T + 1)) (k := k) with h | h
      · rw [h]; exact ⟨q_ob_none, fun _ => rfl⟩
      · rw [h]; exact hE
    · rw [if_neg e]; exact ih (by omega) s k
theorem q_low_bd {E : Nat → Option (Int × Int)} (h : ∀ k, q_ob k (E k)) : e_bd 10000000000000 (q_low E) := by
  refine e_bd_mins fun k hk => ?_
  intro x hx
  cases hE : E k with
  | none => rw [hE] at hx; cases hx
  | some p =>
    obtain ⟨y, n⟩ := p
    rw [hE] at hx
    have h1 : some y = some x := hx
    cases h1
    have := h k _ _ hE
    omega
theorem q_low_le {E : Nat → Option (Int × Int)} {k : Nat} {x n : Int} (hk : k < 20) (h : E k = some (x, n)) : ∃ l, q_low E = some l ∧ l ≤ x := e_mins_le (f := fun k => (E k).map Prod.fst) hk x (by show (E k).map Prod.fst = _; rw [h]; rfl)
/-- the reference's end at the cell a -/
def q_rE (st : z_St) (a : Int) (o : Option (Int × Int)) : Prop := match o with
  | none => st 193 a = 0 ∧ st 192 a = 1000000000000000000
  | some (x, n) => st 192 a = x ∧ st 193 a = n
theorem s_X12_comes {st0 : z_St} {a W N : Int} {o c : Option (Int × Int)} (ha : 0 ≤ a ∧ a < 340) (hr : q_rE st0 a o) (ho : ∀ x n, o = some (x, n) → 0 ≤ x ∧ x ≤ 10000000000000 ∧ 1 ≤ n ∧ n ≤ 100000) (hW : 0 ≤ W ∧ W ≤ 4000000000000000000) (hN : 1 ≤ N ∧ N ≤ 100000) (hc : (c = none ∧ 1000000000000000000 ≤ W) ∨ (c = some (W, N) ∧ W < 1000000000000000000)) :
    q_ok (J_X12_comes a W N st0) (fun st => (∀ x, x ≠ 192 → x ≠ 193 → st x = st0 x) ∧ (∀ j, j ≠ a → st 192 j = st0 192 j ∧ st 193 j = st0 193 j) ∧ q_rE st a (q_put o c)) := by
  -- what is written
  have w55 : ∀ s0 : Int, (s0 = 0 ∧ q_put o c = o) ∨ (s0 = 1 ∧ q_put o c = some (W, N)) → q_ok (J_X12_comes_55 a W N s0 st0) (fun st => (∀ x, x ≠ 192 → x ≠ 193 → st x = st0 x) ∧ (∀ j, j ≠ a → st 192 j = st0 192 j ∧ st 193 j = st0 193 j) ∧ q_rE st a (q_put o c)) := by
    intro s0 h
    simp only [J_X12_comes_55, J_X12_comes_77, J_X12_comes_99, q_g, q_b, q_let, q_ite, q_some, z32, z64, true_or, or_true, true_and, and_true]
    rcases h with ⟨rfl, h⟩ | ⟨rfl, h⟩
    · refine ⟨by decide, fun _ => ⟨ha, ha, by decide, fun _ => ⟨ha, ha, fun x x1 x2 => by rw [q_up_row x2, q_up_row x1], fun j hj => ⟨by rw [q_up_row (by decide), q_up_at, if_neg hj], by rw [q_up_at, if_neg hj, q_up_row (by decide)]⟩, ?_⟩, fun h9 => by first | exact absurd rfl h9 | exact absurd trivial h9⟩, fun h9 => by first | exact absurd rfl h9 | exact absurd trivial h9⟩
      rw [h]
      have e1 : (z_up (z_up st0 192 a (st0 192 a)) 193 a (z_up st0 192 a (st0 192 a) 193 a)) 192 a = st0 192 a := by rw [q_up_row (by decide), z_up_at]
      have e2 : (z_up (z_up st0 192 a (st0 192 a)) 193 a (z_up st0 192 a (st0 192 a) 193 a)) 193 a = st0 193 a := by rw [z_up_at, q_up_row (by decide)]
      unfold q_rE at hr ⊢
      rw [e1, e2]
      exact hr
    · refine ⟨by decide, fun h9 => absurd h9 (by decide), fun _ => ⟨ha, by decide, fun h9 => absurd h9 (by decide), fun _ => ⟨ha, fun x x1 x2 => by rw [q_up_row x2, q_up_row x1], fun j hj => ⟨by rw [q_up_row (by decide), q_up_at, if_neg hj], by rw [q_up_at, if_neg hj, q_up_row (by decide)]⟩, ?_⟩⟩⟩
      rw [h]
      exact ⟨by rw [q_up_row (by decide), z_up_at], by rw [z_up_at]⟩
  simp only [J_X12_comes, J_X12_comes_50, J_X12_comes_54, q_g, q_b, q_let, q_ite, q_some, z32, z64, true_or, or_true, true_and, and_true]
  cases o with
  | none =>
    obtain ⟨r1, r2⟩ := hr
    rw [r1, r2]
    refine ⟨by omega, fun hlt => ⟨ha, by decide, fun _ => w55 1 (Or.inr ⟨rfl, ?_⟩), fun h9 => by first | exact absurd rfl h9 | exact absurd trivial h9⟩, fun hge => w55 0 (Or.inl ⟨rfl, ?_⟩)⟩
    · rcases hc with ⟨_, h⟩ | ⟨h, _⟩
      · omega
      · rw [h]; rfl
    · rcases hc with ⟨h, _⟩ | ⟨_, h⟩
      · rw [h]; rfl
      · omega
  | some p =>
    obtain ⟨y, m⟩ := p
    obtain ⟨r1, r2⟩ := hr
    have hob := ho y m rfl
    rw [r1, r2]
    refine ⟨by omega, fun hlt => ?_, fun hge => w55 0 (Or.inl ⟨rfl, ?_⟩)⟩
    · have hcs : c = some (W, N) := by
        rcases hc with ⟨_, h⟩ | ⟨h, _⟩
        · omega
        · exact h
      have hput : q_put (some (y, m)) c = if W < y ∨ (W = y ∧ N < m) then some (W, N) else some (y, m) := by rw [hcs]; rfl
      refine ⟨ha, by omega, fun h9 => by omega, fun _ => ⟨ha, by omega, fun h1 => w55 1 (Or.inr ⟨rfl, by rw [hput, if_pos (Or.inl h1)]⟩), fun h1 => ⟨ha, by omega, fun h2 => ⟨ha, by omega, fun h3 => w55 1 (Or.inr ⟨rfl, by rw [hput, if_pos (Or.inr ⟨h2, h3⟩)]⟩), fun h3 => w55 0 (Or.inl ⟨rfl, by rw [hput, if_neg (by omega)]⟩)⟩, fun h2 => w55 0 (Or.inl ⟨rfl, by rw [hput, if_neg (by omega)]⟩)⟩⟩⟩
    · rcases hc with ⟨h, _⟩ | ⟨_, h⟩
      · rw [h]; rfl
      · omega
