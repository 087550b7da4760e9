-- WHAT A SAYING TAKES: the reference's laysSaying
/-- the least of the first k SOUNDS over d FRAMES; c k d: the k-th SOUND's COST at the d-th FRAME -/
def q_G (c : Nat → Nat → Int) : Nat → Nat → Option Int
  | 0, 0 => some 0
  | 0, _ + 1 => none
  | _ + 1, 0 => none
  | k + 1, d + 1 => e_add (e_min (q_G c (k + 1) d) (q_G c k d)) (some (c k d))
theorem q_G_bd {c : Nat → Nat → Int} {C : Int} (hC : 0 ≤ C) : ∀ (d k : Nat), (∀ k' d', k' < k → d' < d → 0 ≤ c k' d' ∧ c k' d' ≤ C) → e_bd (d * C) (q_G c k d) := by
  intro d
  induction d with
  | zero =>
    intro k h x hx
    cases k with
    | zero => cases hx; simp
    | succ k => cases hx
  | succ d ih =>
    intro k h
    cases k with
    | zero => intro x hx; cases hx
    | succ k =>
      have h1 := ih (k + 1) (fun k' d' a b => h k' d' a (by omega))
      have h2 := ih k (fun k' d' a b => h k' d' (by omega) (by omega))
      have h3 : e_bd C (some (c k d)) := fun x hx => by cases hx; exact h k d (by omega) (by omega)
      have h4 := e_bd_add (e_bd_min h1 h2) h3
      have e : ((d + 1 : Nat) : Int) * C = d * C + C := by rw [Int.natCast_add, Int.add_mul]; simp
      rw [e]; exact h4
theorem q_same_of {g st0 st : z_St} (h : q_same g st0) (k : ∀ x, 168 ≤ x → x ≤ 182 → st x = st0 x) : q_same g st := ⟨fun x a b => by rw [k x (by omega) b]; exact h.1 x a b, fun j a b => by rw [k 168 (by decide) (by decide)]; exact h.2 j a b⟩
/-- the COST of the SOUND at the place k of the SAYING sa at the FRAME f + d -/
def q_c (g : z_St) (sa f : Int) (k d : Nat) : Int := q_cost g (f + d) (g 180 (4 * sa + k)) (q_form g sa k)
/-- a SAYING that can be said -/
def q_said (g : z_St) (sa : Int) : Prop := (0 ≤ sa ∧ sa ≤ 9) ∧ (1 ≤ g 179 sa ∧ g 179 sa ≤ 4) ∧ ∀ p, 0 ≤ p → p < g 179 sa → 0 ≤ g 180 (4 * sa + p) ∧ g 180 (4 * sa + p) < g 168 11
theorem q_said_of {g : z_St} (hw : q_Rw g) {w k : Int} (h : 0 ≤ w ∧ w < 5 ∧ 0 ≤ k ∧ k < g 178 w) : q_said g (2 * w + k) := by
  have h1 := hw.2.1 w (by omega) (by omega)
  have h2 := hw.2.2.2.2.2.2 w k (by omega) (by omega) (by omega) (by omega)
  have h3 := hw.2.2.2.2.1 (2 * w + k) (by omega) (by omega)
  refine ⟨by omega, by omega, fun p p0 p1 => ⟨(hw.2.2.2.2.2.1 (4 * (2 * w + k) + p) (by omega) (by omega)).1, h2.2 p p0 p1⟩⟩
theorem q_c_bd {g : z_St} (hf : q_Rf g) (hs : q_Rs g) (hn : q_Rn g) {sa f : Int} {k d : Nat} (hsa : q_said g sa) (h : 0 ≤ f ∧ f + d ≤ 15 ∧ k < g 179 sa) : 0 ≤ q_c g sa f k d ∧ q_c g sa f k d ≤ 30000000000 := by
  have h1 := hsa.2.2 k (by omega) (by omega)
  have hc := hn.1
  have h2 := hn.2.2.2.1 (g 180 (4 * sa + k)) (by omega) (by omega)
  have h3 := q_form_bd (g := g) (sa := sa) (p := (k : Int)) h2.1
  exact q_cost_bd hf hs hn (by omega)
theorem s_laysSaying_in {g st0 : z_St} (hS : q_same g st0) (hf : q_Rf g) (hs : q_Rs g) (hn : q_Rn g) (hw : q_Rw g) {sa f : Int} (hsa : q_said g sa) (h : 0 ≤ f ∧ f ≤ g 168 2) {k : Nat} (hk : k ≤ g 179 sa)
    (h0 : ∀ k' d' : Nat, k' < k → f + d' ≤ g 168 2 → st0 185 (17 * k' + (f + d')) = e_I 1000000000000000000 (q_G (q_c g sa f) k' d')) :
    q_ok (z_iter z_F (fun q9 : (Int × z_St) => J_X12_laysSaying_b15 sa f (k : Int) q9.1 q9.2) (f, st0)) (fun st => (∀ x, x ≠ 185 → st x = st0 x) ∧ ∀ k' d' : Nat, k' ≤ k → f + d' ≤ g 168 2 → st 185 (17 * k' + (f + d')) = e_I 1000000000000000000 (q_G (q_c g sa f) k' d')) := by
  have hf1 := hf.1
  have hl := hsa.2.1
  have hsa1 := hsa.1
  refine q_loop (fun q => ∃ d : Nat, q.1 = f + d ∧ f + d ≤ g 168 2 + 1 ∧ (∀ x, x ≠ 185 → q.2 x = st0 x) ∧ (∀ k' d' : Nat, k' < k → f + d' ≤ g 168 2 → q.2 185 (17 * k' + (f + d')) = e_I 1000000000000000000 (q_G (q_c g sa f) k' d')) ∧ ∀ d' : Nat, d' < d → q.2 185 (17 * k + (f + d')) = e_I 1000000000000000000 (q_G (q_c g sa f) k d')) (fun q => (17 - q.1).toNat) ⟨0, by show f = _; omega, by omega, fun _ _ => rfl, h0, fun d' h => by omega⟩ (by show (17 - f).toNat < _; omega) ?_
  rintro ⟨v, st⟩ ⟨d, i1, i2, i3, i4, i5⟩
  dsimp only at i1 i2 i3 i4 i5
  subst i1
  have hS2 : q_same g st := q_same_of hS (fun x a b => i3 x (by omega))
  have e2 := hS2.2 2 (by decide) (by decide)
  have eX : ∀ x : Int, x ≠ 185 → ∀ v j, (z_up st 185 j v) x = st0 x := fun x hx v j => by rw [q_up_row hx]; exact i3 x hx
  -- what a step leaves
  have fin : ∀ v : Int, f + d ≤ g 168 2 → v = e_I 1000000000000000000 (q_G (q_c g sa f) k d) → ((0 ≤ 17 * (k : Int) + (f + d) ∧ 17 * (k : Int) + (f + d) < 85) ∧ ((∃ d' : Nat, f + (d : Int) + 1 = f + d' ∧ f + d' ≤ g 168 2 + 1 ∧ (∀ x, x ≠ 185 → z_up st 185 (17 * (k : Int) + (f + d)) v x = st0 x) ∧ (∀ k' d' : Nat, k' < k → f + d' ≤ g 168 2 → z_up st 185 (17 * (k : Int) + (f + d)) v 185 (17 * k' + (f + d')) = e_I 1000000000000000000 (q_G (q_c g sa f) k' d')) ∧ ∀ d'' : Nat, d'' < d' → z_up st 185 (17 * (k : Int) + (f + d)) v 185 (17 * k + (f + d'')) = e_I 1000000000000000000 (q_G (q_c g sa f) k d'')) ∧ (17 - (f + (d : Int) + 1)).toNat < (17 - (f + d)).toNat)) := by
    intro v hd hv
    refine ⟨by omega, ⟨d + 1, by omega, by omega, fun x hx => eX x hx _ _, fun k' d' a b => ?_, fun d'' a => ?_⟩, by omega⟩
    · rw [q_up_at, if_neg (by omega)]; exact i4 k' d' a b
    · rw [q_up_at]
      by_cases e : d'' = d
      · subst e; rw [if_pos rfl]; exact hv
      · rw [if_neg (by omega)]; exact i5 d'' (by omega)
  simp only [J_X12_laysSaying_b15, J_X12_laysSaying, J_X12_laysSaying_135, J_X12_laysSaying_137, J_X12_laysSaying_38, J_X12_laysSaying_41, q_g, q_b, q_let, q_ite, q_some, z32, z64, true_or, or_true, true_and, and_true]
  rw [e2]
  refine ⟨by omega, fun hx => ?_, fun hx => ?_⟩
  · refine ⟨i3, fun k' d' a b => ?_⟩
    by_cases e : k' = k
    · subst e; exact i5 d' (by omega)
    · exact i4 k' d' (by omega) b
  · refine ⟨by omega, fun hk0 => ⟨by omega, fun hd0 => ?_, fun hd0 => ?_⟩, fun hk0 => ?_⟩
    · refine ⟨by omega, fun h9 => absurd h9 (by omega), fun _ => fin 0 (by omega) ?_⟩
      have a1 : k = 0 := by omega
      have a2 : d = 0 := by omega
      subst a1 a2; rfl
    · refine ⟨by omega, fun h9 => absurd h9 (by omega), fun _ => fin _ (by omega) ?_⟩
      have a1 : k = 0 := by omega
      obtain ⟨d9, rfl⟩ : ∃ d9, d = d9 + 1 := ⟨d - 1, by omega⟩
      subst a1; rfl
    · obtain ⟨k9, rfl⟩ : ∃ k9, k = k9 + 1 := ⟨k - 1, by omega⟩
      refine ⟨by omega, fun _ => ⟨by omega, fun hd0 => ?_, fun hd0 => fin _ (by omega) ?_⟩, fun h9 => absurd h9 (by omega)⟩
      · obtain ⟨d9, rfl⟩ : ∃ d9, d = d9 + 1 := ⟨d - 1, by omega⟩
        have r1 := i5 d9 (by omega)
        have r2 := i4 k9 d9 (by omega) (by omega)
        have b1 := q_G_bd (c := q_c g sa f) (C := 30000000000) (by decide) d9 (k9 + 1) (fun k' d' a b => q_c_bd hf hs hn hsa (by omega))
        have b2 := q_G_bd (c := q_c g sa f) (C := 30000000000) (by decide) d9 k9 (fun k' d' a b => q_c_bd hf hs hn hsa (by omega))
        have b1 := e_bd_le (C := 600000000000) (by omega) b1
        have b2 := e_bd_le (C := 600000000000) (by omega) b2
        have b3 := e_bd_min b1 b2
        have m3 := e_min_I (K := 1000000000000000000) b1 b2 (by decide)
        rw [show 17 * ((k9 + 1 : Nat) : Int) + (f + ((d9 + 1 : Nat) : Int)) - 1 = 17 * ((k9 + 1 : Nat) : Int) + (f + d9) by omega, show 17 * (((k9 + 1 : Nat) : Int) - 1) + (f + ((d9 + 1 : Nat) : Int)) - 1 = 17 * (k9 : Int) + (f + d9) by omega, r1, r2]
        refine ⟨by omega, by omega, ?_⟩
        have c1 : ∀ o : Option Int, e_bd 600000000000 o → 0 ≤ e_I 1000000000000000000 o ∧ e_I 1000000000000000000 o ≤ 1000000000000000000 := fun o ho => by
          cases o with
          | none => exact ⟨by decide, by decide⟩
          | some x => have := ho x rfl; rw [e_I_some]; omega
        have c2 := c1 _ b1
        have c3 := c1 _ b2
        refine q_eq (s_X12_least (by omega)) ?_
        rw [← m3]
        have c4 := c1 _ b3
        have hG : q_G (q_c g sa f) (k9 + 1) (d9 + 1) = e_add (e_min (q_G (q_c g sa f) (k9 + 1) d9) (q_G (q_c g sa f) k9 d9)) (some (q_c g sa f k9 d9)) := rfl
        refine ⟨by omega, fun hlt => ?_, fun hge => fin _ (by omega) ?_⟩
        · have p1 := hsa.2.2 k9 (by omega) (by omega)
          have p2 := hn.2.2.2.1 (g 180 (4 * sa + k9)) (by omega) (by have := hn.1; omega)
          have p3 := q_form_bd (g := g) (sa := sa) (p := (k9 : Int)) p2.1
          refine ⟨by omega, ?_⟩
          rw [show ((k9 + 1 : Nat) : Int) - 1 = k9 by omega, show 4 * sa + ((k9 + 1 : Nat) : Int) - 1 = 4 * sa + k9 by omega, show f + ((d9 + 1 : Nat) : Int) - 1 = f + d9 by omega, hS2.1 180 (by decide) (by decide)]
          refine q_eq (s_X12_formOf hS2 hn hw (by omega)) ?_
          refine q_eq (s_X12_costOf hS2 hf hs hn (by have := hn.1; omega)) ?_
          refine fin _ (by omega) ?_
          rw [hG]
          rcases e_I_cases (K := 1000000000000000000) (e_min (q_G (q_c g sa f) (k9 + 1) d9) (q_G (q_c g sa f) k9 d9)) with ⟨_, e⟩ | ⟨x, e, e'⟩
          · omega
          · rw [e', e]; rfl
        · rw [hG]
          rcases e_I_cases (K := 1000000000000000000) (e_min (q_G (q_c g sa f) (k9 + 1) d9) (q_G (q_c g sa f) k9 d9)) with ⟨e, _⟩ | ⟨x, e, e'⟩
          · rw [e]; rfl
          · have := b3 x e; omega
      · have a2 : d = 0 := by omega
        subst a2; rfl
/-- what a SAYING takes over the FRAMES from f up to t -/
def q_take (g : z_St) (sa f t : Int) : Option Int := q_G (q_c g sa f) (g 179 sa).toNat (t - f).toNat
theorem q_take_bd {g : z_St} (hf : q_Rf g) (hs : q_Rs g) (hn : q_Rn g) {sa f t : Int} (hsa : q_said g sa) (h : 0 ≤ f ∧ t ≤ g 168 2) : e_bd 600000000000 (q_take g sa f t) := by
  have hf1 := hf.1
  have b1 := q_G_bd (c := q_c g sa f) (C := 30000000000) (by decide) (t - f).toNat (g 179 sa).toNat (fun k' d' a b => q_c_bd hf hs hn hsa (by omega))
  exact e_bd_le (by omega) b1
theorem s_X12_laysSaying {g st0 : z_St} (hS : q_same g st0) (hf : q_Rf g) (hs : q_Rs g) (hn : q_Rn g) (hw : q_Rw g) {sa f : Int} (hsa : q_said g sa) (h : 0 ≤ f ∧ f ≤ g 168 2) :
    q_ok (J_X12_laysSaying sa f st0) (fun st => (∀ x, x ≠ 185 → x ≠ 183 → st x = st0 x) ∧ (∀ y, ¬ (289 * sa + 17 * f + f < y ∧ y ≤ 289 * sa + 17 * f + g 168 2) → st 183 y = st0 183 y) ∧ ∀ t, f < t → t ≤ g 168 2 → st 183 (289 * sa + 17 * f + t) = e_I 1000000000000000000 (q_take g sa f t)) := by
  have hf1 := hf.1
  have hl := hsa.2.1
  have hsa1 := hsa.1
  simp only [J_X12_laysSaying, q_g, q_b, q_let, q_ite, q_some, z32, z64, true_or, or_true, true_and, and_true]
  refine q_mono (P := fun st => (∀ x, x ≠ 185 → st x = st0 x) ∧ ∀ k' d' : Nat, k' ≤ g 179 sa → f + d' ≤ g 168 2 → st 185 (17 * k' + (f + d')) = e_I 1000000000000000000 (q_G (q_c g sa f) k' d')) ?_ ?_
  · refine q_loop (fun q => ∃ k : Nat, q.1 = (k : Int) ∧ k ≤ g 179 sa + 1 ∧ (∀ x, x ≠ 185 → q.2 x = st0 x) ∧ ∀ k' d' : Nat, k' < k → f + d' ≤ g 168 2 → q.2 185 (17 * k' + (f + d')) = e_I 1000000000000000000 (q_G (q_c g sa f) k' d')) (fun q => (5 - q.1).toNat) ⟨0, rfl, by omega, fun _ _ => rfl, fun k' d' a => by omega⟩ (by show (5 - (0 : Int)).toNat < _; decide) ?_
    rintro ⟨v, st⟩ ⟨k, i1, i2, i3, i4⟩
    dsimp only at i1 i2 i3 i4
    subst i1
    have hS2 : q_same g st := q_same_of hS (fun x a b => i3 x (by omega))
    simp only [J_X12_laysSaying_b2, q_g, q_b, q_let, q_ite, q_some, z32, z64, true_or, or_true, true_and, and_true]
    rw [hS2.1 179 (by decide) (by decide)]
    refine ⟨by omega, by omega, fun hx => ⟨i3, fun k' d' a b => i4 k' d' (by omega) b⟩, fun hx => ?_⟩
    refine q_mono (s_laysSaying_in hS2 hf hs hn hw hsa h (by omega) i4) ?_
    rintro st2 ⟨a1, a2⟩
    exact ⟨⟨k + 1, by omega, by omega, fun x hx => (a1 x hx).trans (i3 x hx), fun k' d' a b => a2 k' d' (by omega) b⟩, by omega⟩
  · rintro st1 ⟨a1, a2⟩
    refine q_loop (fun q => f + 1 ≤ q.1 ∧ q.1 ≤ g 168 2 + 1 ∧ (∀ x, x ≠ 183 → q.2 x = st1 x) ∧ (∀ y, ¬ (289 * sa + 17 * f + f < y ∧ y ≤ 289 * sa + 17 * f + g 168 2) → q.2 183 y = st0 183 y) ∧ ∀ t, f < t → t < q.1 → q.2 183 (289 * sa + 17 * f + t) = e_I 1000000000000000000 (q_take g sa f t)) (fun q => (18 - q.1).toNat) ⟨by show f + 1 ≤ f + 1; omega, by show f + 1 ≤ _; omega, fun _ _ => rfl, fun y _ => by show st1 183 y = _; rw [a1 183 (by decide)], fun t b1 b2 => by have b2 : t < f + 1 := b2; omega⟩ (by show (18 - (f + 1)).toNat < _; omega) ?_
    rintro ⟨v, st⟩ ⟨i1, i2, i3, i4, i5⟩
    dsimp only at i1 i2 i3 i4 i5
    have hS1 : q_same g st1 := q_same_of hS (fun x a b => a1 x (by omega))
    have hS2 : q_same g st := q_same_of hS1 (fun x a b => i3 x (by omega))
    simp only [J_X12_laysSaying_b167, q_g, q_b, q_let, q_ite, q_some, z32, z64, true_or, or_true, true_and, and_true]
    rw [hS2.2 2 (by decide) (by decide), hS2.1 179 (by decide) (by decide)]
    refine ⟨by omega, fun hx => ⟨fun x h1 h2 => (i3 x h2).trans (a1 x h1), i4, fun t b1 b2 => i5 t b1 (by omega)⟩, fun hx => ?_⟩
    refine q_eq s_X12_span ⟨by omega, by omega, by omega, ⟨by omega, by omega, fun x hx => by rw [q_up_row hx]; exact i3 x hx, fun y hy => ?_, fun t b1 b2 => ?_⟩, by omega⟩
    · rw [q_up_at, if_neg (by omega)]; exact i4 y hy
    · rw [q_up_at]
      by_cases e : t = v
      · subst e
        rw [if_pos rfl, i3 185 (by decide)]
        have := a2 (g 179 sa).toNat (t - f).toNat (by omega) (by omega)
        rw [show ((g 179 sa).toNat : Int) = g 179 sa by omega, show f + ((t - f).toNat : Int) = t by omega] at this
        exact this
      · rw [if_neg (by omega)]; exact i5 t b1 (by omega)
