-- THE WEIGHT OF A ROW: the reference's weightOf
theorem e_min_far2 {a b : Option Int} {B x : Int} (ha : e_bd B a) (hb : e_bd B b) (hx : 0 ≤ x ∧ x ≤ 100000000000000) (hB : B ≤ 100000000000000) : (if e_I 1000000000000000000 a < x + e_I 1000000000000000000 b then e_I 1000000000000000000 a else x + e_I 1000000000000000000 b) = e_I 1000000000000000000 (e_min a (e_add (some x) b)) := by
  cases a with
  | none => cases b with
    | none =>
      show (if (1000000000000000000 : Int) < x + 1000000000000000000 then (1000000000000000000 : Int) else x + 1000000000000000000) = 1000000000000000000
      split <;> omega
    | some y =>
      have := hb y rfl
      show (if (1000000000000000000 : Int) < x + y then (1000000000000000000 : Int) else x + y) = x + y
      split <;> omega
  | some z => cases b with
    | none =>
      have := ha z rfl
      show (if z < x + 1000000000000000000 then z else x + 1000000000000000000) = z
      split <;> omega
    | some y =>
      have := ha z rfl
      have := hb y rfl
      show (if z < x + y then z else x + y) = (if z ≤ x + y then z else x + y)
      (repeat' split) <;> omega
theorem e_I_bd {B K : Int} {o : Option Int} (h : e_bd B o) (hK : 0 ≤ K) (hB : B ≤ K) : 0 ≤ e_I K o ∧ e_I K o ≤ K := by
  cases o with
  | none => exact ⟨hK, Int.le_refl _⟩
  | some x => have := h x rfl; rw [e_I_some]; omega
/-- the least that the first k WORDS of the row d take over the FRAMES up to t -/
def q_F (g : z_St) (d : Int → Int) : Nat → Nat → Option Int
  | 0, 0 => some 0
  | 0, _ + 1 => none
  | k + 1, t => e_mins (fun f => e_add (q_F g d k f) (q_tab g (d k) f t)) t
theorem q_F_bd {g : z_St} (hB : q_RB g) {d : Int → Int} : ∀ (k t : Nat), (∀ j : Nat, j < k → 0 ≤ d j ∧ d j < 5) → t ≤ g 168 2 → e_bd (k * 600000010000) (q_F g d k t) := by
  intro k
  induction k with
  | zero =>
    intro t _ _ x hx
    cases t with
    | zero => cases hx; simp
    | succ t => cases hx
  | succ k ih =>
    intro t hd ht
    refine e_bd_mins fun f hf => ?_
    have h1 := ih f (fun j hj => hd j (by omega)) (by omega)
    have h2 := q_tab_bd hB (w := d k) (f := (f : Int)) (t := (t : Int)) (by have := hd k (by omega); omega)
    have := e_bd_add h1 h2
    rw [show ((k + 1 : Nat) : Int) * 600000010000 = k * 600000010000 + 600000010000 by omega]
    exact this
theorem s_weightOf_37 {g st : z_St} (hS : q_same g st) (hB : q_RB g) (hT : q_tabOK g (fun _ _ => True) st) {d : Int → Int} {many : Int} {k t : Nat} {s0 : Int} (hk : k ≤ many) (hm : many ≤ 4) (ht : t ≤ g 168 2) (hd : ∀ j : Int, 0 ≤ j → j < many → (0 ≤ d j ∧ d j < g 168 18) ∧ st 186 j = d j)
    (h0 : ∀ k' t' : Nat, k' < k → t' ≤ g 168 2 → st 188 (17 * k' + t') = e_I 1000000000000000000 (q_F g d k' t')) (hs0 : s0 = if k = 0 ∧ t = 0 then 0 else 1000000000000000000) :
    q_ok (z_iter z_F (fun q9 : (Int × Int) => J_X12_weightOf_b37 many (k : Int) (t : Int) q9.1 q9.2 st) (s0, 0)) (fun r => r = e_I 1000000000000000000 (q_F g d k t)) := by
  have hf1 := hB.1.1
  have hw1 := hB.2.2.2.2.1.1
  cases k with
  | zero =>
    have hval : s0 = e_I 1000000000000000000 (q_F g d 0 t) := by
      rw [hs0]
      cases t with
      | zero => rfl
      | succ t => rw [if_neg (by omega)]; rfl
    refine q_loop (fun q => q.1 = s0 ∧ q.2 = 0) (fun q => 1) ⟨rfl, rfl⟩ (by decide) ?_
    rintro ⟨u, v⟩ ⟨rfl, rfl⟩
    simp only [J_X12_weightOf_b37, q_g, q_b, q_let, q_ite, q_some, z32, z64, true_or, or_true, true_and, and_true]
    exact ⟨by omega, fun _ => ⟨by omega, fun h9 => absurd h9 (by omega), fun _ => hval⟩, fun _ => hval⟩
  | succ k =>
    rw [if_neg (by omega)] at hs0
    refine q_loop (fun q => ∃ n : Nat, q.2 = (n : Int) ∧ n ≤ t ∧ q.1 = e_I 1000000000000000000 (e_mins (fun f => e_add (q_F g d k f) (q_tab g (d k) f t)) n)) (fun q => (17 - q.2).toNat) ⟨0, rfl, by omega, hs0⟩ (by show (17 - (0 : Int)).toNat < _; decide) ?_
    rintro ⟨u, v⟩ ⟨n, i1, i2, i3⟩
    dsimp only at i1 i3
    subst i1
    have hd5 : ∀ j : Nat, j < k + 1 → 0 ≤ d j ∧ d j < 5 := fun j hj => by have := (hd j (by omega) (by omega)).1; omega
    have b1 : ∀ f : Nat, f ≤ g 168 2 → e_bd 10000000000000 (q_F g d k f) := fun f hf => e_bd_le (by omega) (q_F_bd hB k f (fun j hj => hd5 j (by omega)) hf)
    have b2 : ∀ f : Nat, e_bd 10000000000000 (q_tab g (d k) f t) := fun f => e_bd_le (by decide) (q_tab_bd hB (by have := hd5 k (by omega); omega))
    have b3 : e_bd 20000000000000 (e_mins (fun f => e_add (q_F g d k f) (q_tab g (d k) f t)) n) := e_bd_mins fun i hi => e_bd_add (b1 i (by omega)) (b2 i)
    have c3 := e_I_bd (K := 1000000000000000000) b3 (by decide) (by decide)
    simp only [J_X12_weightOf_b37, J_X12_weightOf, J_X12_weightOf_109, J_X12_weightOf_144, J_X12_weightOf_209, J_X12_weightOf_226, J_X12_weightOf_251, J_X12_weightOf_29, J_X12_weightOf_32, q_g, q_b, q_let, q_ite, q_some, z32, z64, true_or, or_true, true_and, and_true]
    refine ⟨by omega, fun hlt => ⟨by omega, fun _ => ?_, fun h9 => absurd (show (0 : Int) < ((k + 1 : Nat) : Int) by omega) h9⟩, fun hge => ?_⟩
    · rw [show 17 * (((k + 1 : Nat) : Int) - 1) + (n : Int) = 17 * (k : Int) + n by omega, show ((k + 1 : Nat) : Int) - 1 = k by omega, h0 k n (by omega) (by omega)]
      have c1 := e_I_bd (K := 1000000000000000000) (b1 n (by omega)) (by decide) (by decide)
      have hstep : e_mins (fun f => e_add (q_F g d k f) (q_tab g (d k) f t)) (n + 1) = e_min (e_mins (fun f => e_add (q_F g d k f) (q_tab g (d k) f t)) n) (e_add (q_F g d k n) (q_tab g (d k) n t)) := rfl
      refine ⟨by omega, by omega, fun hlt2 => ⟨by omega, by omega, ?_⟩, fun hge2 => ⟨⟨n + 1, by omega, by omega, ?_⟩, by omega⟩⟩
      · have hdk := hd k (by omega) (by omega)
        rw [hdk.2]
        refine q_eq (s_X12_tableOf (by omega)) ?_
        rw [(hT (d k) n t (by omega) (by omega) (by omega) (by omega) (by omega) trivial).1]
        have c2 := e_I_bd (K := 1000000000000000000) (b2 n) (by decide) (by decide)
        refine q_eq (s_X12_least (by omega)) ⟨⟨n + 1, by omega, by omega, ?_⟩, by omega⟩
        rcases e_I_cases (K := 1000000000000000000) (q_F g d k n) with ⟨_, e⟩ | ⟨x, e, e'⟩
        · omega
        · have hx := b1 n (by omega) x e
          rw [hstep, e, ← e_min_far2 b3 (e_bd_le (by decide) (b2 n)) (x := x) (by omega) (by decide), e_I_some, i3]
      · rw [hstep, i3]
        rcases e_I_cases (K := 1000000000000000000) (q_F g d k n) with ⟨e, _⟩ | ⟨x, e, e'⟩
        · rw [e]; show _ = e_I _ (e_min _ none); rw [e_min_none]
        · have := b1 n (by omega) x e; omega
    · have e : n = t := by omega
      subst e
      exact i3
