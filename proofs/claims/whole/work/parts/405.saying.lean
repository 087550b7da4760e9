-- WHAT A SAYING TAKES: the reference's laysSaying
/-- the least of the first k SOUNDS over d FRAMES; c k d: the k-th SOUND's COST at the d-th FRAME -/
def q_G (c : Nat → Nat → Int) : Nat → Nat → Option Int
  | 0, 0 => some 0
  | 0, _ + 1 => none
  | _ + 1, 0 => none
  | k + 1, d + 1 => e_add (e_min (q_G c (k + 1) d) (q_G c k d)) (some (c k d))
theorem q_G_bd {c : Nat → Nat → Int} {C : Int} (hC : 0 ≤ C) : ∀ (d k : Nat), (∀ k' d', k' < k → d' < d → 0 ≤ c k' d' ∧ c k' d' ≤ C) → e_bd (d * C) (q_G c k d) := by
  intro d
  induction d with
  | zero =>
    intro k h x hx
    cases k with
    | zero => cases hx; simp
    | succ k => cases hx
  | succ d ih =>
    intro k h
    cases k with
    | zero => intro x hx; cases hx
    | succ k =>
      have h1 := ih (k + 1) (fun k' d' a b => h k' d' a (by omega))
      have h2 := ih k (fun k' d' a b => h k' d' (by omega) (by omega))
      have h3 : e_bd C (some (c k d)) := fun x hx => by cases hx; exact h k d (by omega) (by omega)
      have h4 := e_bd_add (e_bd_min h1 h2) h3
      have e : ((d + 1 : Nat) : Int) * C = d * C + C := by rw [Int.natCast_add, Int.add_mul]; simp
      rw [e]; exact h4
theorem q_same_of {g st0 st : z_St} (h : q_same g st0) (k : ∀ x, 168 ≤ x → x ≤ 182 → st x = st0 x) : q_same g st := ⟨fun x a b => by rw [k x (by omega) b]; exact h.1 x a b, fun j a b => by rw [k 168 (by decide) (by decide)]; exact h.2 j a b⟩
/-- the COST of the SOUND at the place k of the SAYING sa at the FRAME f + d -/
def q_c (g : z_St) (sa f : Int) (k d : Nat) : Int := q_cost g (f + d) (g 180 (4 * sa + k)) (q_form g sa k)
/-- a SAYING that can be said -/
def q_said (g : z_St) (sa : Int) : Prop := (0 ≤ sa ∧ sa ≤ 9) ∧ (1 ≤ g 179 sa ∧ g 179 sa ≤ 4) ∧ ∀ p, 0 ≤ p → p < g 179 sa → 0 ≤ g 180 (4 * sa + p) ∧ g 180 (4 * sa + p) < g 168 11
theorem q_said_of {g : z_St} (hw : q_Rw g) {w k : Int} (h : 0 ≤ w ∧ w < 5 ∧ 0 ≤ k ∧ k < g 178 w) : q_said g (2 * w + k) := by
  have h1 := hw.2.1 w (by omega) (by omega)
  have h2 := hw.2.2.2.2.2.2 w k (by omega) (by omega) (by omega) (by omega)
  have h3 := hw.2.2.2.2.1 (2 * w + k) (by omega) (by omega)
  refine ⟨by omega, by omega, fun p p0 p1 => ⟨(hw.2.2.2.2.2.1 (4 * (2 * w + k) + p) (by omega) (by omega)).1, h2.2 p p0 p1⟩⟩
theorem q_c_bd {g : z_St} (hf : q_Rf g) (hs : q_Rs g) (hn : q_Rn g) {sa f : Int} {k d : Nat} (hsa : q_said g sa) (h : 0 ≤ f ∧ f + d ≤ 15 ∧ k < g 179 sa) : 0 ≤ q_c g sa f k d ∧ q_c g sa f k d ≤ 30000000000 := by
  have h1 := hsa.2.2 k (by omega) (by omega)
  have hc := hn.1
  have h2 := hn.2.2.2.1 (g 180 (4 * sa + k)) (by omega) (by omega)
  have h3 := q_form_bd (g := g) (sa := sa) (p := (k : Int)) h2.1
  exact q_cost_bd hf hs hn (by omega)
theorem s_laysSaying_in {g st0 : z_St} (hS : q_same g st0) (hf : q_Rf g) (hs : q_Rs g) (hn : q_Rn g) (hw : q_Rw g) {sa f : Int} (hsa : q_said g sa) (h : 0 ≤ f ∧ f ≤ g 168 2) {k : Nat} (hk : k ≤ g 179 sa)
    (h0 : ∀ k' d' : Nat, k' < k → f + d' ≤ g 168 2 → st0 185 (17 * k' + (f + d')) = e_I 1000000000000000000 (q_G (q_c g sa f) k' d')) :
    q_ok (z_iter z_F (fun q9 : (Int × z_St) => J_X12_laysSaying_b15 sa f (k : Int) q9.1 q9.2) (f, st0)) (fun st => (∀ x, x ≠ 185 → st x = st0 x) ∧ ∀ k' d' : Nat, k' ≤ k → f + d' ≤ g 168 2 → st 185 (17 * k' + (f + d')) = e_I 1000000000000000000 (q_G (q_c g sa f) k' d')) := by
  have hf1 := hf.1
  have hl := hsa.2.1
  refine q_loop (fun q => ∃ d : Nat, q.1 = f + d ∧ f + d ≤ g 168 2 + 1 ∧ (∀ x, x ≠ 185 → q.2 x = st0 x) ∧ (∀ k' d' : Nat, k' < k → f + d' ≤ g 168 2 → q.2 185 (17 * k' + (f + d')) = e_I 1000000000000000000 (q_G (q_c g sa f) k' d')) ∧ ∀ d' : Nat, d' < d → q.2 185 (17 * k + (f + d')) = e_I 1000000000000000000 (q_G (q_c g sa f) k d')) (fun q => (17 - q.1).toNat) ⟨0, by show f = _; omega, by omega, fun _ _ => rfl, h0, fun d' h => by omega⟩ (by show (17 - f).toNat < _; omega) ?_
  rintro ⟨v, st⟩ ⟨d, i1, i2, i3, i4, i5⟩
  dsimp only at i1 i2 i3 i4 i5
  subst i1
  have hS2 : q_same g st := q_same_of hS (fun x a b => i3 x (by omega))
  have e2 := hS2.2 2 (by decide) (by decide)
  have eX : ∀ x : Int, x ≠ 185 → ∀ v j, (z_up st 185 j v) x = st0 x := fun x hx v j => by rw [q_up_row hx]; exact i3 x hx
  -- what a step leaves
  have fin : ∀ v : Int, f + d ≤ g 168 2 → v = e_I 1000000000000000000 (q_G (q_c g sa f) k d) → ((0 ≤ 17 * (k : Int) + (f + d) ∧ 17 * (k : Int) + (f + d) < 85) ∧ ((∃ d' : Nat, f + (d : Int) + 1 = f + d' ∧ f + d' ≤ g 168 2 + 1 ∧ (∀ x, x ≠ 185 → z_up st 185 (17 * (k : Int) + (f + d)) v x = st0 x) ∧ (∀ k' d' : Nat, k' < k → f + d' ≤ g 168 2 → z_up st 185 (17 * (k : Int) + (f + d)) v 185 (17 * k' + (f + d')) = e_I 1000000000000000000 (q_G (q_c g sa f) k' d')) ∧ ∀ d'' : Nat, d'' < d' → z_up st 185 (17 * (k : Int) + (f + d)) v 185 (17 * k + (f + d'')) = e_I 1000000000000000000 (q_G (q_c g sa f) k d'')) ∧ (17 - (f + (d : Int) + 1)).toNat < (17 - (f + d)).toNat)) := by
    intro v hd hv
    refine ⟨by omega, ⟨d + 1, by omega, by omega, fun x hx => eX x hx _ _, fun k' d' a b => ?_, fun d'' a => ?_⟩, by omega⟩
    · rw [q_up_at, if_neg (by omega)]; exact i4 k' d' a b
    · rw [q_up_at]
      by_cases e : d'' = d
      · subst e; rw [if_pos rfl]; exact hv
      · rw [if_neg (by omega)]; exact i5 d'' (by omega)
  simp only [J_X12_laysSaying_b15, J_X12_laysSaying, J_X12_laysSaying_135, J_X12_laysSaying_137, J_X12_laysSaying_38, J_X12_laysSaying_41, q_g, q_b, q_let, q_ite, q_some, z32, z64, true_or, or_true, true_and, and_true]
  rw [e2]
  refine ⟨by omega, fun hx => ?_, fun hx => ?_⟩
  · refine ⟨i3, fun k' d' a b => ?_⟩
    by_cases e : k' = k
    · subst e; exact i5 d' (by omega)
    · exact i4 k' d' (by omega) b
  · sorry
