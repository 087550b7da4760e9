-- THE BEST PATH: how a WORD is said; the reference's laysRest, sayingOf, laysSounds
theorem q_ford {α β : Type} {B : Int × α → Option ((Int × α) ⊕ β)} {P : β → Prop} {s : α} (I : Nat → α → Prop) (hi : Int) (n : Nat) (hn : n < 900000) (h0 : I 0 s) (hs : ∀ (k : Nat) (s : α), k < n → I k s → q_ok (B (hi - k, s)) (fun r => ∃ s', r = .inl (hi - k + -1, s') ∧ I (k + 1) s')) (he : ∀ s : α, I n s → q_ok (B (hi - n, s)) (fun r => ∃ y, r = .inr y ∧ P y)) : q_ok (z_iter z_F B (hi, s)) P := by
  refine q_loop (fun q => ∃ k : Nat, k ≤ n ∧ q.1 = hi - k ∧ I k q.2) (fun q => (n - (hi - q.1)).toNat) ⟨0, Nat.zero_le _, by show hi = _; omega, h0⟩ (by show ((n : Int) - (hi - hi)).toNat < _; omega) ?_
  rintro ⟨v, s⟩ ⟨k, hk, hv, hI⟩
  dsimp only at hv hI
  subst hv
  by_cases h : k < n
  · refine q_mono (hs k s h hI) ?_
    rintro r ⟨s', rfl, hI'⟩
    refine ⟨⟨k + 1, h, ?_, hI'⟩, ?_⟩
    · show hi - (k : Int) + -1 = _; omega
    · show ((n : Int) - (hi - (hi - k + -1))).toNat < ((n : Int) - (hi - (hi - k))).toNat
      omega
  · have : k = n := by omega
    subst this
    refine q_mono (he s hI) ?_
    rintro r ⟨y, rfl, hy⟩
    exact hy
def q_le2 (a b : Option Int) : Bool := match b with
  | none => true
  | some y => match a with
    | none => false
    | some x => decide (x ≤ y)
theorem q_le2_I {K B : Int} {a b : Option Int} (ha : e_bd B a) (hb : e_bd B b) (hK : B < K) : q_le2 a b = true ↔ e_I K a ≤ e_I K b := by
  unfold q_le2
  cases b with
  | none =>
    refine ⟨fun _ => ?_, fun _ => rfl⟩
    cases a with
    | none => exact Int.le_refl _
    | some x => have := ha x rfl; show x ≤ K; omega
  | some y =>
    have hy := hb y rfl
    cases a with
    | none => refine ⟨fun h => (nomatch h), fun h => ?_⟩; have h2 : K ≤ y := h; omega
    | some x => show decide (x ≤ y) = true ↔ x ≤ y; rw [decide_eq_true_eq]
/-- which SOUND of the SAYING is said i FRAMES behind f -/
def q_ks (g : z_St) (sa t : Int) (D : Nat) : Nat → Nat
  | 0 => 0
  | i + 1 => q_ks g sa t D i + (if q_le2 (q_Tl g sa t ((g 179 sa).toNat - (q_ks g sa t D i + 1)) (D - i - 1)) (q_Tl g sa t ((g 179 sa).toNat - q_ks g sa t D i) (D - i - 1)) = true then 1 else 0)
theorem q_ks_spec {g : z_St} {sa t : Int} {D : Nat} {v : Int} (h : q_Tl g sa t (g 179 sa).toNat D = some v) : ∀ i, i ≤ D → q_ks g sa t D i ≤ (g 179 sa).toNat ∧ (∃ u, q_Tl g sa t ((g 179 sa).toNat - q_ks g sa t D i) (D - i) = some u) ∧ (i < D → q_ks g sa t D i < (g 179 sa).toNat) := by
  have key : ∀ i, i ≤ D → q_ks g sa t D i ≤ (g 179 sa).toNat → (∃ u, q_Tl g sa t ((g 179 sa).toNat - q_ks g sa t D i) (D - i) = some u) → (i < D → q_ks g sa t D i < (g 179 sa).toNat) := fun i hi h1 ⟨u, hu⟩ hlt => by
    apply Classical.byContradiction
    intro h9
    rw [show (g 179 sa).toNat - q_ks g sa t D i = 0 by omega, show D - i = (D - i - 1) + 1 by omega] at hu
    unfold q_Tl at hu
    rw [q_G_1] at hu; cases hu
  intro i
  induction i with
  | zero => intro hi; exact ⟨Nat.zero_le _, ⟨v, h⟩, key 0 hi (Nat.zero_le _) ⟨v, h⟩⟩
  | succ i ih =>
    intro hi
    obtain ⟨h1, ⟨u, hu⟩, h3⟩ := ih (by omega)
    have h3 := h3 (by omega)
    have e1 : (g 179 sa).toNat - q_ks g sa t D i = ((g 179 sa).toNat - (q_ks g sa t D i + 1)) + 1 := by omega
    have e2 : D - i = (D - (i + 1)) + 1 := by omega
    rw [e1, e2, q_Tl_s] at hu
    obtain ⟨y, z, hy, _, _⟩ := e_add_some hu
    have hk : q_ks g sa t D (i + 1) = q_ks g sa t D i + (if q_le2 (q_Tl g sa t ((g 179 sa).toNat - (q_ks g sa t D i + 1)) (D - i - 1)) (q_Tl g sa t ((g 179 sa).toNat - q_ks g sa t D i) (D - i - 1)) = true then 1 else 0) := rfl
    rw [show D - i - 1 = D - (i + 1) by omega] at hk
    have both : q_ks g sa t D (i + 1) ≤ (g 179 sa).toNat ∧ ∃ u, q_Tl g sa t ((g 179 sa).toNat - q_ks g sa t D (i + 1)) (D - (i + 1)) = some u := by
      by_cases hle : q_le2 (q_Tl g sa t ((g 179 sa).toNat - (q_ks g sa t D i + 1)) (D - (i + 1))) (q_Tl g sa t ((g 179 sa).toNat - q_ks g sa t D i) (D - (i + 1))) = true
      · rw [if_pos hle] at hk
        rw [hk]
        refine ⟨by omega, ?_⟩
        cases hg : q_Tl g sa t ((g 179 sa).toNat - (q_ks g sa t D i + 1)) (D - (i + 1)) with
        | some x => exact ⟨x, rfl⟩
        | none =>
          rw [hg, ← e1] at hy
          rw [hg] at hle
          rw [e_min_none] at hy
          rw [hy] at hle
          cases hle
      · rw [if_neg hle] at hk
        rw [hk]
        refine ⟨by omega, ?_⟩
        rw [Nat.add_zero]
        cases hs : q_Tl g sa t ((g 179 sa).toNat - q_ks g sa t D i) (D - (i + 1)) with
        | some x => exact ⟨x, rfl⟩
        | none => rw [hs] at hle; exact absurd rfl hle
    exact ⟨both.1, both.2, key (i + 1) hi both.1 both.2⟩
/-- which SAYING is said -/
def q_chs (g : z_St) (w f t : Int) : Int := if g 178 w = 2 ∧ e_I 1000000000000000000 (q_take g (2 * w + 1) f t) + g 181 (2 * w + 1) < e_I 1000000000000000000 (q_take g (2 * w) f t) + g 181 (2 * w) then 1 else 0
/-- what is told of a FRAME: the k-th WORD, i FRAMES behind its first one -/
def q_tv (g : z_St) (d : Int → Int) (m k i : Nat) (c : Int) : Int :=
  let f := q_Tk g d m k
  let t := q_Tk g d m (k + 1)
  let ch := q_chs g (d k) f t
  let p := q_ks g (2 * d k + ch) t (t - f) i
  if c = 0 then k else if c = 1 then d k else if c = 2 then ch else if c = 3 then p else if c = 4 then g 180 (4 * (2 * d k + ch) + p) else q_form g (2 * d k + ch) p
theorem q_chs_bd {g : z_St} {w f t : Int} : 0 ≤ q_chs g w f t ∧ q_chs g w f t ≤ 1 := by unfold q_chs; split <;> decide
/-- the SAYING that is said can be said there -/
theorem q_chs_some {g : z_St} (hB : q_RB g) {w f t : Int} (h : 0 ≤ w ∧ w < g 168 18 ∧ 0 ≤ f ∧ f < t ∧ t ≤ g 168 2) {x : Int} (hx : q_tab g w f t = some x) : q_chs g w f t < g 178 w ∧ ∃ u, q_take g (2 * w + q_chs g w f t) f t = some u ∧ x = u + g 181 (2 * w + q_chs g w f t) := by
  have hw0 := hB.2.2.2.2.1
  have hw1 := hw0.1
  have hw2 := hw0.2.1 w (by omega) (by omega)
  have hw3 := hw0.2.2.1 w (by omega) (by omega)
  have hp0 := (hw0.2.2.2.2.1 (2 * w) (by omega) (by omega)).2
  have hp1 := (hw0.2.2.2.2.1 (2 * w + 1) (by omega) (by omega)).2
  have b0 := q_take_bd hB.1 hB.2.1 hB.2.2.1 (q_said_of hw0 (w := w) (k := 0) (by omega)) (f := f) (t := t) (by omega)
  rw [show 2 * w + 0 = 2 * w by omega] at b0
  have e0 : q_tabk g w f t 1 = e_add (q_take g (2 * w) f t) (some (g 181 (2 * w))) := by
    show e_min none (e_add (q_take g (2 * w + ((0 : Nat) : Int)) f t) (some (g 181 (2 * w + ((0 : Nat) : Int))))) = _
    rw [show 2 * w + ((0 : Nat) : Int) = 2 * w by omega]; rfl
  unfold q_tab at hx
  by_cases h1 : g 178 w = 1
  · rw [h1] at hx
    have hx : q_tabk g w f t 1 = some x := hx
    rw [e0] at hx
    obtain ⟨u, z, hu, hz, rfl⟩ := e_add_some hx
    cases hz
    have hc : q_chs g w f t = 0 := by unfold q_chs; rw [if_neg (by omega)]
    rw [hc, show 2 * w + 0 = 2 * w by omega]
    exact ⟨by omega, u, hu, rfl⟩
  · have h2 : g 178 w = 2 := by omega
    have b1 := q_take_bd hB.1 hB.2.1 hB.2.2.1 (q_said_of hw0 (w := w) (k := 1) (by omega)) (f := f) (t := t) (by omega)
    rw [h2] at hx
    have hx : e_min (q_tabk g w f t 1) (e_add (q_take g (2 * w + ((1 : Nat) : Int)) f t) (some (g 181 (2 * w + ((1 : Nat) : Int))))) = some x := hx
    rw [e0, show 2 * w + ((1 : Nat) : Int) = 2 * w + 1 by omega] at hx
    unfold q_chs
    cases ht0 : q_take g (2 * w) f t with
    | none => cases ht1 : q_take g (2 * w + 1) f t with
      | none => rw [ht0, ht1] at hx; cases hx
      | some u1 =>
        have hu1 := b1 u1 ht1
        rw [ht0, ht1] at hx
        have hx : some (u1 + g 181 (2 * w + 1)) = some x := hx
        cases hx
        rw [if_pos ⟨h2, by rw [e_I_some, e_I_none]; omega⟩, ht1]
        exact ⟨by omega, u1, rfl, rfl⟩
    | some u0 =>
      have hu0 := b0 u0 ht0
      cases ht1 : q_take g (2 * w + 1) f t with
      | none =>
        rw [ht0, ht1] at hx
        have hx : some (u0 + g 181 (2 * w)) = some x := hx
        cases hx
        rw [if_neg (fun h9 => by rw [e_I_some, e_I_none] at h9; omega), show 2 * w + 0 = 2 * w by omega, ht0]
        exact ⟨by omega, u0, rfl, rfl⟩
      | some u1 =>
        have hu1 := b1 u1 ht1
        rw [ht0, ht1] at hx
        have hx : (if u0 + g 181 (2 * w) ≤ u1 + g 181 (2 * w + 1) then some (u0 + g 181 (2 * w)) else some (u1 + g 181 (2 * w + 1))) = some x := by
          rw [← hx]
          show _ = some (if _ then _ else _)
          split <;> rfl
        by_cases hc : u0 + g 181 (2 * w) ≤ u1 + g 181 (2 * w + 1)
        · rw [if_pos hc] at hx
          cases hx
          rw [if_neg (fun h9 => by rw [e_I_some, e_I_some] at h9; omega), show 2 * w + 0 = 2 * w by omega, ht0]
          exact ⟨by omega, u0, rfl, rfl⟩
        · rw [if_neg hc] at hx
          cases hx
          rw [if_pos ⟨h2, by rw [e_I_some, e_I_some]; omega⟩, ht1]
          exact ⟨by omega, u1, rfl, rfl⟩
theorem s_X12_sayingOf {g st : z_St} (hS : q_same g st) (hB : q_RB g) (hT : q_tabOK g (fun _ _ => True) st) {w f t : Int} (h : 0 ≤ w ∧ w < g 168 18 ∧ 0 ≤ f ∧ f < t ∧ t ≤ g 168 2) : J_X12_sayingOf w f t st = some (q_chs g w f t) := by
  have hf1 := hB.1.1
  have hw0 := hB.2.2.2.2.1
  have hw1 := hw0.1
  have hw2 := hw0.2.1 w (by omega) (by omega)
  have hw3 := hw0.2.2.1 w (by omega) (by omega)
  have hp0 := (hw0.2.2.2.2.1 (2 * w) (by omega) (by omega)).2
  have hp1 := (hw0.2.2.2.2.1 (2 * w + 1) (by omega) (by omega)).2
  refine q_of ?_
  simp only [J_X12_sayingOf, J_X12_sayingOf_70, J_X12_sayingOf_71, J_X12_sayingOf_83, q_g, q_b, q_let, q_ite, q_some, z32, z64, true_or, or_true, true_and, and_true]
  rw [hS.1 178 (by decide) (by decide), hS.1 181 (by decide) (by decide)]
  have hk := (hT w f t (by omega) (by omega) (by omega) (by omega) (by omega) trivial).2
  unfold q_chs
  refine ⟨by omega, by omega, fun h2 => ?_, fun h2 => ?_⟩
  · have k0 := hk 0 (by omega) (by omega)
    have k1 := hk 1 (by omega) (by omega)
    rw [show 2 * w + 0 = 2 * w by omega] at k0
    have b0 := q_take_bd hB.1 hB.2.1 hB.2.2.1 (q_said_of hw0 (w := w) (k := 0) (by omega)) (f := f) (t := t) (by omega)
    have b1 := q_take_bd hB.1 hB.2.1 hB.2.2.1 (q_said_of hw0 (w := w) (k := 1) (by omega)) (f := f) (t := t) (by omega)
    rw [show 2 * w + 0 = 2 * w by omega] at b0
    have c0 := e_I_le (K := 1000000000000000000) b0 (by decide) (by decide)
    have c1 := e_I_le (K := 1000000000000000000) b1 (by decide) (by decide)
    refine q_eq s_X12_span ?_
    refine ⟨by omega, by omega, by omega, ?_⟩
    refine q_eq s_X12_span ?_
    rw [k0, k1]
    refine ⟨by omega, by omega, by omega, by omega, fun hlt => ?_, fun hge => ?_⟩
    · rw [if_pos ⟨h2, hlt⟩]
      exact ⟨by decide, fun h9 => absurd h9 (by decide), fun _ => rfl⟩
    · rw [if_neg (fun h9 => hge h9.2)]
      exact ⟨by decide, fun _ => rfl, fun h9 => by first | exact absurd rfl h9 | exact absurd trivial h9⟩
  · rw [if_neg (fun h9 => h2 h9.1)]
    exact ⟨by decide, fun _ => rfl, fun h9 => by first | exact absurd rfl h9 | exact absurd trivial h9⟩
