-- THE SEARCH: what the ends are
def q_put (o c : Option (Int × Int)) : Option (Int × Int) := match c with
  | none => o
  | some (x, n) => match o with
    | none => some (x, n)
    | some (y, m) => if x < y ∨ (x = y ∧ n < m) then some (x, n) else some (y, m)
def q_lp (c : Nat → Option (Int × Int)) : Nat → Option (Int × Int)
  | 0 => none
  | n + 1 => q_put (q_lp c n) (c n)
theorem q_put_none {o : Option (Int × Int)} : q_put o none = o := rfl
theorem q_lp_skip {c : Nat → Option (Int × Int)} {a : Nat} : ∀ {b : Nat}, a ≤ b → (∀ i, a ≤ i → i < b → c i = none) → q_lp c b = q_lp c a := by
  intro b
  induction b with
  | zero => intro h _; rw [show a = 0 by omega]
  | succ b ih =>
    intro h k
    by_cases e : a = b + 1
    · rw [e]
    · show q_put (q_lp c b) (c b) = _
      rw [k b (by omega) (by omega), q_put_none]
      exact ih (by omega) (fun i p q => k i p (by omega))
/-- bounds of an end of the slot k -/
def q_ob (k : Nat) (o : Option (Int × Int)) : Prop := ∀ x n, o = some (x, n) → 0 ≤ x ∧ x ≤ ((k / 5 + 1 : Nat) : Int) * 700000000000 ∧ 1 ≤ n ∧ n < if k < 5 then 10 else if k < 10 then 100 else if k < 15 then 1000 else 10000
theorem q_ob_none {k : Nat} : q_ob k none := fun x n h => nomatch h
theorem q_ob_put {k : Nat} {o c : Option (Int × Int)} (ho : q_ob k o) (hc : q_ob k c) : q_ob k (q_put o c) := by
  cases c with
  | none => exact ho
  | some p =>
    obtain ⟨x, n⟩ := p
    cases o with
    | none => exact hc
    | some q =>
      obtain ⟨y, m⟩ := q
      show q_ob k (if x < y ∨ (x = y ∧ n < m) then some (x, n) else some (y, m))
      split
      · exact hc
      · exact ho
theorem q_ob_lp {k : Nat} {c : Nat → Option (Int × Int)} : ∀ {n : Nat}, (∀ i, i < n → q_ob k (c i)) → q_ob k (q_lp c n) := by
  intro n
  induction n with
  | zero => intro _; exact q_ob_none
  | succ n ih => intro h; exact q_ob_put (ih fun i hi => h i (by omega)) (h n (by omega))
def q_ext (g : z_St) (w last : Nat) (o : Option (Int × Int)) (tab : Option Int) : Option (Int × Int) := match o with
  | none => none
  | some (x, n) => match tab with
    | none => none
    | some y => some (x + y + q_dear g last w, 10 * n + w + 1)
def q_cand (g : z_St) (H : Nat → Nat → Option (Int × Int)) (t k j : Nat) : Option (Int × Int) := q_ext g (k % 5) (j % 5) (H (1 + j / 5) (5 * (k / 5 - 1) + j % 5)) (q_tab g ((k % 5 : Nat) : Int) ((1 + j / 5 : Nat) : Int) t)
def q_one1 (g : z_St) (w t : Nat) : Option (Int × Int) := match q_tab g w 0 t with
  | none => none
  | some y => some (y + q_dear g 5 w, (w : Int) + 1)
def q_E (g : z_St) (H : Nat → Nat → Option (Int × Int)) (t k : Nat) : Option (Int × Int) := if k % 5 < (g 168 18).toNat then (if k < 5 then q_one1 g k t else q_lp (q_cand g H t k) (5 * (t - 1))) else none
def q_low (E : Nat → Option (Int × Int)) : Option Int := e_mins (fun k => (E k).map Prod.fst) 20
def q_aB (a b : Option (Int × Int)) : Bool := match a, b with
  | some (y, m), some (x, n) => decide (y < x) || (decide (y = x) && decide (m < n))
  | _, _ => false
def q_ahd (E : Nat → Option (Int × Int)) (k : Nat) : Nat := e_cnt (fun j => q_aB (E j) (E k)) 20
def q_kp (beam most : Int) (E : Nat → Option (Int × Int)) (k : Nat) : Option (Int × Int) := match E k with
  | none => none
  | some (x, n) => if x - e_I 0 (q_low E) ≤ beam ∧ (q_ahd E k : Int) < most then some (x, n) else none
def q_Hs (g : z_St) (beam most : Int) : Nat → Nat → Nat → Option (Int × Int)
  | 0 => fun _ _ => none
  | T + 1 => fun s k => if s = T + 1 then q_kp beam most (q_E g (q_Hs g beam most T) (T + 1)) k else q_Hs g beam most T s k
/-- the ends of T + 1 before any is dropped -/
def q_Et (g : z_St) (beam most : Int) (T : Nat) : Nat → Option (Int × Int) := q_E g (q_Hs g beam most T) (T + 1)
def q_nd (beam most : Int) (E : Nat → Option (Int × Int)) : Nat := e_cnt (fun k => (E k).isSome && (q_kp beam most E k).isNone) 20
def q_dr (g : z_St) (beam most : Int) : Nat → Int
  | 0 => 0
  | T + 1 => q_dr g beam most T + (q_nd beam most (q_Et g beam most T) : Int)
def q_fc (g : z_St) (H : Nat → Nat → Option (Int × Int)) (T k : Nat) : Option (Int × Int) := match H T k with
  | none => none
  | some (x, n) => some (x + q_dear g ((k % 5 : Nat) : Int) 5, n)
def q_fin (g : z_St) (beam most : Int) : Option (Int × Int) := q_lp (q_fc g (q_Hs g beam most (g 168 2).toNat) (g 168 2).toNat) 20
theorem q_one1_ob {g : z_St} (hB : q_RB g) {w t : Nat} (hw : w < g 168 18) (ht : t ≤ g 168 2) : q_ob w (q_one1 g w t) := by
  have hw1 := hB.2.2.2.2.1.1
  intro x n h
  unfold q_one1 at h
  cases hq : q_tab g w 0 t with
  | none => rw [hq] at h; cases h
  | some y =>
    rw [hq] at h
    have h1 := Option.some.inj h
    have h2 := Prod.mk.inj h1
    have h3 := q_tab_bd hB (w := w) (f := 0) (t := t) (by omega) y hq
    have h4 := q_dear_w hB hw hw
    rw [if_pos (by omega)]
    omega
theorem q_ext_ob {g : z_St} (hB : q_RB g) {k w last : Nat} {o : Option (Int × Int)} {f t : Int} (hk : k < 15) (ho : q_ob k o) (hw : w < g 168 18) (hl : last < g 168 18) (hf : 0 ≤ f) (ht : t ≤ g 168 2) : q_ob (5 * (k / 5 + 1) + w) (q_ext g w last o (q_tab g w f t)) := by
  have hw1 := hB.2.2.2.2.1.1
  intro x n h
  unfold q_ext at h
  cases o with
  | none => cases h
  | some p =>
    obtain ⟨x0, n0⟩ := p
    cases hq : q_tab g w f t with
    | none => rw [hq] at h; cases h
    | some y =>
      rw [hq] at h
      have h2 := Prod.mk.inj (Option.some.inj h)
      have h3 := q_tab_bd hB (w := w) (f := f) (t := t) (by omega) y hq
      have h4 := q_dear_w hB hl hw
      have h5 := ho x0 n0 rfl
      rw [show (5 * (k / 5 + 1) + w) / 5 + 1 = k / 5 + 1 + 1 by omega]
      rw [Int.natCast_add]
      refine ⟨by omega, by omega, by omega, ?_⟩
      by_cases h9 : k < 5
      · rw [if_pos h9] at h5; rw [if_neg (by omega), if_pos (by omega)]; omega
      · by_cases h8 : k < 10
        · rw [if_neg h9, if_pos h8] at h5; rw [if_neg (by omega), if_neg (by omega), if_pos (by omega)]; omega
        · rw [if_neg h9, if_neg h8, if_pos hk] at h5; rw [if_neg (by omega), if_neg (by omega), if_neg (by omega)]; omega
/-- bounds of all that is kept -/
def q_Hb (g : z_St) (H : Nat → Nat → Option (Int × Int)) : Prop := ∀ s k, q_ob k (H s k) ∧ (¬ k % 5 < (g 168 18).toNat → H s k = none)
theorem q_E_ob {g : z_St} (hB : q_RB g) {H : Nat → Nat → Option (Int × Int)} (hH : q_Hb g H) {t k : Nat} (hk : k < 20) (ht : t ≤ g 168 2) : q_ob k (q_E g H t k) := by
  have hw1 := hB.2.2.2.2.1.1
  unfold q_E
  by_cases h1 : k % 5 < (g 168 18).toNat
  · rw [if_pos h1]
    by_cases h2 : k < 5
    · rw [if_pos h2]; exact q_one1_ob hB (by omega) ht
    · rw [if_neg h2]
      refine q_ob_lp fun j hj => ?_
      unfold q_cand
      by_cases h3 : j % 5 < (g 168 18).toNat
      · have := q_ext_ob hB (k := 5 * (k / 5 - 1) + j % 5) (w := k % 5) (last := j % 5) (f := ((1 + j / 5 : Nat) : Int)) (t := t) (by omega) (hH (1 + j / 5) _).1 (by omega) (by omega) (by omega) ht
        rw [show 5 * ((5 * (k / 5 - 1) + j % 5) / 5 + 1) + k % 5 = k by omega] at this
        exact this
      · rw [(hH _ _).2 (by omega)]
        exact q_ob_none
  · rw [if_neg h1]; exact q_ob_none
theorem q_kp_or {beam most : Int} {E : Nat → Option (Int × Int)} {k : Nat} : q_kp beam most E k = none ∨ q_kp beam most E k = E k := by
  unfold q_kp
  cases h : E k with
  | none => exact Or.inl rfl
  | some p =>
    obtain ⟨x, n⟩ := p
    show (if _ then _ else _) = _ ∨ (if _ then _ else _) = _
    split
    · exact Or.inr rfl
    · exact Or.inl rfl
theorem q_Hs_b {g : z_St} (hB : q_RB g) {beam most : Int} : ∀ {T : Nat}, T ≤ g 168 2 → ∀ s k, k < 20 → q_ob k (q_Hs g beam most T s k) ∧ (¬ k % 5 < (g 168 18).toNat → q_Hs g beam most T s k = none) := by
  sorry
