-- THE WEIGHT OF A ROW: the reference's weightOf
theorem e_min_far2 {a b : Option Int} {B x : Int} (ha : e_bd B a) (hb : e_bd B b) (hx : 0 ≤ x ∧ x ≤ 100000000000000) (hB : B ≤ 100000000000000) : (if e_I 1000000000000000000 a < x + e_I 1000000000000000000 b then e_I 1000000000000000000 a else x + e_I 1000000000000000000 b) = e_I 1000000000000000000 (e_min a (e_add (some x) b)) := by
  cases a with
  | none => cases b with
    | none =>
      show (if (1000000000000000000 : Int) < x + 1000000000000000000 then (1000000000000000000 : Int) else x + 1000000000000000000) = 1000000000000000000
      split <;> omega
    | some y =>
      have := hb y rfl
      show (if (1000000000000000000 : Int) < x + y then (1000000000000000000 : Int) else x + y) = x + y
      split <;> omega
  | some z => cases b with
    | none =>
      have := ha z rfl
      show (if z < x + 1000000000000000000 then z else x + 1000000000000000000) = z
      split <;> omega
    | some y =>
      have := ha z rfl
      have := hb y rfl
      show (if z < x + y then z else x + y) = (if z ≤ x + y then z else x + y)
      (repeat' split) <;> omega
theorem e_I_bd {B K : Int} {o : Option Int} (h : e_bd B o) (hK : 0 ≤ K) (hB : B ≤ K) : 0 ≤ e_I K o ∧ e_I K o ≤ K := by
  cases o with
  | none => exact ⟨hK, Int.le_refl _⟩
  | some x => have := h x rfl; rw [e_I_some]; omega
/-- the least that the first k WORDS of the row d take over the FRAMES up to t -/
def q_F (g : z_St) (d : Int → Int) : Nat → Nat → Option Int
  | 0, 0 => some 0
  | 0, _ + 1 => none
  | k + 1, t => e_mins (fun f => e_add (q_F g d k f) (q_tab g (d k) f t)) t
theorem q_F_bd {g : z_St} (hB : q_RB g) {d : Int → Int} : ∀ (k t : Nat), (∀ j : Nat, j < k → 0 ≤ d j ∧ d j < 5) → t ≤ g 168 2 → e_bd (k * 600000010000) (q_F g d k t) := by
  intro k
  induction k with
  | zero =>
    intro t _ _ x hx
    cases t with
    | zero => cases hx; simp
    | succ t => cases hx
  | succ k ih =>
    intro t hd ht
    refine e_bd_mins fun f hf => ?_
    have h1 := ih f (fun j hj => hd j (by omega)) (by omega)
    have h2 := q_tab_bd hB (w := d k) (f := (f : Int)) (t := (t : Int)) (by have := hd k (by omega); omega)
    have := e_bd_add h1 h2
    rw [show ((k + 1 : Nat) : Int) * 600000010000 = k * 600000010000 + 600000010000 by omega]
    exact this
theorem s_weightOf_37 {g st : z_St} (hS : q_same g st) (hB : q_RB g) (hT : q_tabOK g (fun _ _ => True) st) {d : Int → Int} {many : Int} {k t : Nat} {s0 : Int} (hk : k ≤ many) (hm : many ≤ 4) (ht : t ≤ g 168 2) (hd : ∀ j : Int, 0 ≤ j → j < many → (0 ≤ d j ∧ d j < g 168 18) ∧ st 186 j = d j)
    (h0 : ∀ k' t' : Nat, k' < k → t' ≤ g 168 2 → st 188 (17 * k' + t') = e_I 1000000000000000000 (q_F g d k' t')) (hs0 : s0 = if k = 0 ∧ t = 0 then 0 else 1000000000000000000) :
    q_ok (z_iter z_F (fun q9 : (Int × Int) => J_X12_weightOf_b37 many (k : Int) (t : Int) q9.1 q9.2 st) (s0, 0)) (fun r => r = e_I 1000000000000000000 (q_F g d k t)) := by
  have hf1 := hB.1.1
  have hw1 := hB.2.2.2.2.1.1
  cases k with
  | zero =>
    have hval : s0 = e_I 1000000000000000000 (q_F g d 0 t) := by
      rw [hs0]
      cases t with
      | zero => rfl
      | succ t => rw [if_neg (by omega)]; rfl
    refine q_loop (fun q => q.1 = s0 ∧ q.2 = 0) (fun q => 1) ⟨rfl, rfl⟩ (by decide) ?_
    rintro ⟨u, v⟩ ⟨rfl, rfl⟩
    simp only [J_X12_weightOf_b37, q_g, q_b, q_let, q_ite, q_some, z32, z64, true_or, or_true, true_and, and_true]
    exact ⟨by omega, fun _ => ⟨by omega, fun h9 => absurd h9 (by omega), fun _ => hval⟩, fun _ => hval⟩
  | succ k =>
    rw [if_neg (by omega)] at hs0
    refine q_loop (fun q => ∃ n : Nat, q.2 = (n : Int) ∧ n ≤ t ∧ q.1 = e_I 1000000000000000000 (e_mins (fun f => e_add (q_F g d k f) (q_tab g (d k) f t)) n)) (fun q => (17 - q.2).toNat) ⟨0, rfl, by omega, hs0⟩ (by show (17 - (0 : Int)).toNat < _; decide) ?_
    rintro ⟨u, v⟩ ⟨n, i1, i2, i3⟩
    dsimp only at i1 i3
    subst i1
    have hd5 : ∀ j : Nat, j < k + 1 → 0 ≤ d j ∧ d j < 5 := fun j hj => by have := (hd j (by omega) (by omega)).1; omega
    have b1 : ∀ f : Nat, f ≤ g 168 2 → e_bd 10000000000000 (q_F g d k f) := fun f hf => e_bd_le (by omega) (q_F_bd hB k f (fun j hj => hd5 j (by omega)) hf)
    have b2 : ∀ f : Nat, e_bd 10000000000000 (q_tab g (d k) f t) := fun f => e_bd_le (by decide) (q_tab_bd hB (by have := hd5 k (by omega); omega))
    have b3 : e_bd 20000000000000 (e_mins (fun f => e_add (q_F g d k f) (q_tab g (d k) f t)) n) := e_bd_mins fun i hi => e_bd_add (b1 i (by omega)) (b2 i)
    have c3 := e_I_bd (K := 1000000000000000000) b3 (by decide) (by decide)
    simp only [J_X12_weightOf_b37, J_X12_weightOf, J_X12_weightOf_109, J_X12_weightOf_144, J_X12_weightOf_209, J_X12_weightOf_226, J_X12_weightOf_251, J_X12_weightOf_29, J_X12_weightOf_32, q_g, q_b, q_let, q_ite, q_some, z32, z64, true_or, or_true, true_and, and_true]
    refine ⟨by omega, fun hlt => ⟨by omega, fun _ => ?_, fun h9 => absurd (show (0 : Int) < ((k + 1 : Nat) : Int) by omega) h9⟩, fun hge => ?_⟩
    · rw [show 17 * (((k + 1 : Nat) : Int) - 1) + (n : Int) = 17 * (k : Int) + n by omega, show ((k + 1 : Nat) : Int) - 1 = k by omega, h0 k n (by omega) (by omega)]
      have c1 := e_I_bd (K := 1000000000000000000) (b1 n (by omega)) (by decide) (by decide)
      have hstep : e_mins (fun f => e_add (q_F g d k f) (q_tab g (d k) f t)) (n + 1) = e_min (e_mins (fun f => e_add (q_F g d k f) (q_tab g (d k) f t)) n) (e_add (q_F g d k n) (q_tab g (d k) n t)) := rfl
      refine ⟨by omega, by omega, fun hlt2 => ⟨by omega, by omega, ?_⟩, fun hge2 => ⟨⟨n + 1, by omega, by omega, ?_⟩, by omega⟩⟩
      · have hdk := hd k (by omega) (by omega)
        rw [hdk.2]
        refine q_eq (s_X12_tableOf (by omega)) ?_
        rw [(hT (d k) n t (by omega) (by omega) (by omega) (by omega) (by omega) trivial).1]
        have c2 := e_I_bd (K := 1000000000000000000) (b2 n) (by decide) (by decide)
        refine q_eq (s_X12_least (by omega)) ⟨⟨n + 1, by omega, by omega, ?_⟩, by omega⟩
        rcases e_I_cases (K := 1000000000000000000) (q_F g d k n) with ⟨_, e⟩ | ⟨x, e, e'⟩
        · omega
        · have hx := b1 n (by omega) x e
          rw [hstep, e, ← e_min_far2 b3 (e_bd_le (by decide) (b2 n)) (x := x) (by omega) (by decide), e_I_some, i3]
      · rw [hstep, i3]
        rcases e_I_cases (K := 1000000000000000000) (q_F g d k n) with ⟨e, _⟩ | ⟨x, e, e'⟩
        · rw [e]; show _ = e_I _ (e_min _ none); rw [e_min_none]
        · have := b1 n (by omega) x e; omega
    · have e : n = t := by omega
      subst e
      exact i3
/-- the PRICES of the row d of so many WORDS, the first k of them -/
def q_tl (g : z_St) (d : Int → Int) (many : Int) : Nat → Int
  | 0 => 0
  | k + 1 => q_tl g d many k + q_dear g (if k = 0 then 5 else d ((k : Int) - 1)) (if (k : Int) = many then 5 else d k)
theorem q_tl_bd {g : z_St} (hB : q_RB g) {d : Int → Int} {many : Int} (hd : ∀ j : Int, 0 ≤ j → j < many → 0 ≤ d j ∧ d j < g 168 18) : ∀ k : Nat, k ≤ many + 1 → 0 ≤ q_tl g d many k ∧ q_tl g d many k ≤ k * 19800000 := by
  have hw1 := hB.2.2.2.2.1.1
  intro k
  induction k with
  | zero => intro _; exact ⟨Int.le_refl _, Int.le_refl _⟩
  | succ k ih =>
    intro hk
    have h1 := ih (by omega)
    have h2 := q_dear_bd hB.2.2.2.2.2.2 hB.2.2.2.2.2.1 (a := if k = 0 then 5 else d ((k : Int) - 1)) (b := if (k : Int) = many then 5 else d k) (by
      have a1 : ¬ k = 0 → 0 ≤ d ((k : Int) - 1) ∧ d ((k : Int) - 1) < g 168 18 := fun e => hd _ (by omega) (by omega)
      have a2 : ¬ (k : Int) = many → 0 ≤ d (k : Int) ∧ d (k : Int) < g 168 18 := fun e => hd _ (by omega) (by omega)
      refine ⟨?_, ?_, ?_, ?_⟩ <;> split <;> omega)
    show 0 ≤ _ + _ ∧ _ + _ ≤ _
    omega
/-- the WEIGHT of the row d of so many WORDS -/
def q_W (g : z_St) (d : Int → Int) (many : Int) : Option Int := if 0 < g 168 2 then e_add (q_F g d many.toNat (g 168 2).toNat) (some (q_tl g d many (many.toNat + 1))) else none
theorem q_W_bd {g : z_St} (hB : q_RB g) {d : Int → Int} {many : Int} (hm : 0 ≤ many ∧ many ≤ 4) (hd : ∀ j : Int, 0 ≤ j → j < many → 0 ≤ d j ∧ d j < g 168 18) : e_bd 10000000000000 (q_W g d many) := by
  have hw1 := hB.2.2.2.2.1.1
  have hf1 := hB.1.1
  unfold q_W
  split
  · have h1 := q_F_bd hB (d := d) many.toNat (g 168 2).toNat (fun j hj => by have := hd j (by omega) (by omega); omega) (by omega)
    have h2 := q_tl_bd hB hd (many.toNat + 1) (by omega)
    have h3 : e_bd 1000000000 (some (q_tl g d many (many.toNat + 1))) := fun x hx => by cases hx; omega
    exact e_bd_le (by omega) (e_bd_add h1 h3)
  · exact e_bd_none
theorem s_weightOf_9 {g st0 : z_St} (hS : q_same g st0) (hB : q_RB g) (hT : q_tabOK g (fun _ _ => True) st0) {d : Int → Int} {many : Int} {k : Nat} (hk : k ≤ many) (hm : many ≤ 4) (hd : ∀ j : Int, 0 ≤ j → j < many → (0 ≤ d j ∧ d j < g 168 18) ∧ st0 186 j = d j)
    (h0 : ∀ k' t' : Nat, k' < k → t' ≤ g 168 2 → st0 188 (17 * k' + t') = e_I 1000000000000000000 (q_F g d k' t')) :
    q_ok (z_iter z_F (fun q9 : (Int × z_St) => J_X12_weightOf_b9 many (k : Int) q9.1 q9.2) (0, st0)) (fun st => (∀ x, x ≠ 188 → st x = st0 x) ∧ ∀ k' t' : Nat, k' < k + 1 → t' ≤ g 168 2 → st 188 (17 * k' + t') = e_I 1000000000000000000 (q_F g d k' t')) := by
  have hf1 := hB.1.1
  have hw1 := hB.2.2.2.2.1.1
  refine q_loop (fun q => ∃ t : Nat, q.1 = (t : Int) ∧ t ≤ g 168 2 + 1 ∧ (∀ x, x ≠ 188 → q.2 x = st0 x) ∧ (∀ k' t' : Nat, k' < k → t' ≤ g 168 2 → q.2 188 (17 * k' + t') = e_I 1000000000000000000 (q_F g d k' t')) ∧ ∀ t' : Nat, t' < t → q.2 188 (17 * k + t') = e_I 1000000000000000000 (q_F g d k t')) (fun q => (18 - q.1).toNat) ⟨0, rfl, by omega, fun _ _ => rfl, h0, fun t' h => by omega⟩ (by show (18 - (0 : Int)).toNat < _; decide) ?_
  rintro ⟨v, st⟩ ⟨t, i1, i2, i3, i4, i5⟩
  dsimp only at i1 i2 i3 i4 i5
  subst i1
  have hS2 : q_same g st := q_same_of hS (fun x a b => i3 x (by omega))
  have hT2 : q_tabOK g (fun _ _ => True) st := fun w f t a b c d' e k9 => by
    have := hT w f t a b c d' e k9
    rw [i3 184 (by decide), i3 183 (by decide)]
    exact this
  have hd2 : ∀ j : Int, 0 ≤ j → j < many → (0 ≤ d j ∧ d j < g 168 18) ∧ st 186 j = d j := fun j a b => by rw [i3 186 (by decide)]; exact hd j a b
  have fin : ∀ s0 : Int, t ≤ g 168 2 → (s0 = if k = 0 ∧ t = 0 then 0 else 1000000000000000000) → q_ok (J_X12_weightOf_32 many (k : Int) (t : Int) s0 st) (fun r => match r with
      | .inl s' => (∃ t' : Nat, s'.1 = (t' : Int) ∧ t' ≤ g 168 2 + 1 ∧ (∀ x, x ≠ 188 → s'.2 x = st0 x) ∧ (∀ k' t' : Nat, k' < k → t' ≤ g 168 2 → s'.2 188 (17 * k' + t') = e_I 1000000000000000000 (q_F g d k' t')) ∧ ∀ t'' : Nat, t'' < t' → s'.2 188 (17 * k + t'') = e_I 1000000000000000000 (q_F g d k t'')) ∧ (18 - s'.1).toNat < (18 - (t : Int)).toNat
      | .inr st => (∀ x, x ≠ 188 → st x = st0 x) ∧ ∀ k' t' : Nat, k' < k + 1 → t' ≤ g 168 2 → st 188 (17 * k' + t') = e_I 1000000000000000000 (q_F g d k' t')) := by
    intro s0 ht hs0
    have hb : e_bd 10000000000000 (q_F g d k t) := e_bd_le (by omega) (q_F_bd hB k t (fun j hj => by have := (hd j (by omega) (by omega)).1; omega) ht)
    have hbI := e_I_bd (K := 1000000000000000000) hb (by decide) (by decide)
    have w144 : q_ok (J_X12_weightOf_144 many (k : Int) (t : Int) (e_I 1000000000000000000 (q_F g d k t)) (17 * (k : Int) + t) st) (fun r => match r with
      | .inl s' => (∃ t' : Nat, s'.1 = (t' : Int) ∧ t' ≤ g 168 2 + 1 ∧ (∀ x, x ≠ 188 → s'.2 x = st0 x) ∧ (∀ k' t' : Nat, k' < k → t' ≤ g 168 2 → s'.2 188 (17 * k' + t') = e_I 1000000000000000000 (q_F g d k' t')) ∧ ∀ t'' : Nat, t'' < t' → s'.2 188 (17 * k + t'') = e_I 1000000000000000000 (q_F g d k t'')) ∧ (18 - s'.1).toNat < (18 - (t : Int)).toNat
      | .inr st => (∀ x, x ≠ 188 → st x = st0 x) ∧ ∀ k' t' : Nat, k' < k + 1 → t' ≤ g 168 2 → st 188 (17 * k' + t') = e_I 1000000000000000000 (q_F g d k' t')) := by
      simp only [J_X12_weightOf_144, q_g, q_b, q_let, q_ite, q_some, z32, z64, true_or, or_true, true_and, and_true]
      refine ⟨by omega, ⟨t + 1, by omega, by omega, fun x hx => by rw [q_up_row hx]; exact i3 x hx, fun k' t' a b => ?_, fun t'' a => ?_⟩, by omega⟩
      · rw [q_up_at, if_neg (by omega)]; exact i4 k' t' a b
      · rw [q_up_at]
        by_cases e : t'' = t
        · subst e; rw [if_pos rfl]
        · rw [if_neg (by omega)]; exact i5 t'' (by omega)
    simp only [J_X12_weightOf_32, q_g, q_b, q_let, q_ite, q_some, z32, z64, true_or, or_true, true_and, and_true]
    refine q_mono (s_weightOf_37 hS2 hB hT2 hk hm ht hd2 i4 hs0) ?_
    rintro r rfl
    refine ⟨by omega, fun h9 => w144, fun h9 => ?_⟩
    have e : e_I 1000000000000000000 (q_F g d k t) = 1000000000000000000 := by omega
    rw [e] at w144
    exact w144
  simp only [J_X12_weightOf_b9, J_X12_weightOf_29, q_g, q_b, q_let, q_ite, q_some, z32, z64, true_or, or_true, true_and, and_true]
  rw [hS2.2 2 (by decide) (by decide)]
  refine ⟨by omega, fun hx => ⟨i3, fun k' t' a b => ?_⟩, fun hx => ⟨by omega, fun hk0 => ⟨by omega, fun ht0 => q_mono (fin 0 (by omega) (by rw [if_pos (by omega)])) (fun r hr => by cases r <;> exact hr), fun ht0 => ?_⟩, fun hk0 => ?_⟩⟩
  · by_cases e : k' = k
    · subst e; exact i5 t' (by omega)
    · exact i4 k' t' (by omega) b
  · exact q_mono (fin _ (by omega) (by rw [if_neg (by omega)])) (fun r hr => by cases r <;> exact hr)
  · exact q_mono (fin _ (by omega) (by rw [if_neg (by omega)])) (fun r hr => by cases r <;> exact hr)
theorem q_tl_fin {g : z_St} {d : Int → Int} {many : Int} {k : Nat} {x : Int} : x + q_tl g d many k + q_dear g (if k = 0 then 5 else d ((k : Int) - 1)) (if (k : Int) = many then 5 else d k) = x + q_tl g d many (k + 1) := Int.add_assoc _ _ _
/-- the WEIGHT of the row that lies at 186; only 188 is written -/
theorem s_X12_weightOf {g st0 : z_St} (hS : q_same g st0) (hB : q_RB g) (hT : q_tabOK g (fun _ _ => True) st0) {d : Int → Int} {many : Int} (hm : 0 ≤ many ∧ many ≤ 4) (hd : ∀ j : Int, 0 ≤ j → j < many → (0 ≤ d j ∧ d j < g 168 18) ∧ st0 186 j = d j) :
    q_ok (J_X12_weightOf many st0) (fun r => (∀ x, x ≠ 188 → r.2 x = st0 x) ∧ r.1 = e_I 1000000000000000000 (q_W g d many)) := by
  have hf1 := hB.1.1
  have hw1 := hB.2.2.2.2.1.1
  have hd1 : ∀ j : Int, 0 ≤ j → j < many → 0 ≤ d j ∧ d j < g 168 18 := fun j a b => (hd j a b).1
  simp only [J_X12_weightOf, q_g, q_b, q_let, q_ite, q_some, z32, z64, true_or, or_true, true_and, and_true]
  refine q_mono (P := fun st => (∀ x, x ≠ 188 → st x = st0 x) ∧ ∀ k' t' : Nat, k' < many + 1 → t' ≤ g 168 2 → st 188 (17 * k' + t') = e_I 1000000000000000000 (q_F g d k' t')) ?_ ?_
  · refine q_loop (fun q => ∃ k : Nat, q.1 = (k : Int) ∧ k ≤ many + 1 ∧ (∀ x, x ≠ 188 → q.2 x = st0 x) ∧ ∀ k' t' : Nat, k' < k → t' ≤ g 168 2 → q.2 188 (17 * k' + t') = e_I 1000000000000000000 (q_F g d k' t')) (fun q => (6 - q.1).toNat) ⟨0, rfl, by omega, fun _ _ => rfl, fun k' t' a => by omega⟩ (by show (6 - (0 : Int)).toNat < _; decide) ?_
    rintro ⟨v, st⟩ ⟨k, i1, i2, i3, i4⟩
    dsimp only at i1 i2 i3 i4
    subst i1
    have hS2 : q_same g st := q_same_of hS (fun x a b => i3 x (by omega))
    have hT2 : q_tabOK g (fun _ _ => True) st := fun w f t a b c d' e k9 => by
      have := hT w f t a b c d' e k9
      rw [i3 184 (by decide), i3 183 (by decide)]
      exact this
    simp only [J_X12_weightOf_b2, q_g, q_b, q_let, q_ite, q_some, z32, z64, true_or, or_true, true_and, and_true]
    refine ⟨by omega, fun hx => ⟨i3, fun k' t' a b => i4 k' t' (by omega) b⟩, fun hx => ?_⟩
    refine q_mono (s_weightOf_9 hS2 hB hT2 (d := d) (many := many) (k := k) (by omega) hm.2 (fun j a b => by rw [i3 186 (by decide)]; exact hd j a b) i4) ?_
    rintro st1 ⟨a1, a2⟩
    exact ⟨⟨k + 1, by omega, by omega, fun x hx => (a1 x hx).trans (i3 x hx), a2⟩, by omega⟩
  · rintro st1 ⟨a1, a2⟩
    have hS1 : q_same g st1 := q_same_of hS (fun x a b => a1 x (by omega))
    rw [hS1.2 2 (by decide) (by decide)]
    have hv := a2 many.toNat (g 168 2).toNat (by omega) (by omega)
    rw [show (many.toNat : Int) = many by omega, show ((g 168 2).toNat : Int) = g 168 2 by omega] at hv
    rw [hv]
    have hFb : e_bd 10000000000000 (q_F g d many.toNat (g 168 2).toNat) := e_bd_le (by omega) (q_F_bd hB (d := d) many.toNat (g 168 2).toNat (fun j hj => by have := hd1 j (by omega) (by omega); omega) (by omega))
    refine ⟨by omega, ?_⟩
    refine q_mono (P := fun r => r = e_I 1000000000000000000 (e_add (q_F g d many.toNat (g 168 2).toNat) (some (q_tl g d many (many.toNat + 1))))) ?_ ?_
    · cases hF : q_F g d many.toNat (g 168 2).toNat with
      | none =>
        refine q_loop (fun q => q.1 = 1000000000000000000 ∧ q.2 = 0) (fun _ => 1) ⟨rfl, rfl⟩ (by decide) ?_
        rintro ⟨u, v⟩ ⟨rfl, rfl⟩
        simp only [J_X12_weightOf_b175, q_g, q_b, q_let, q_ite, q_some, z32, z64, true_or, or_true, true_and, and_true]
        exact ⟨by omega, fun h9 => rfl, fun _ => ⟨by omega, fun h9 => absurd h9 (by decide), fun _ => rfl⟩⟩
      | some x =>
        have hx := hFb x hF
        refine q_loop (fun q => ∃ k : Nat, q.2 = (k : Int) ∧ k ≤ many + 1 ∧ q.1 = x + q_tl g d many k) (fun q => (6 - q.2).toNat) ⟨0, rfl, by omega, by show x = x + 0; omega⟩ (by show (6 - (0 : Int)).toNat < _; decide) ?_
        rintro ⟨u, v⟩ ⟨k, i1, i2, i3⟩
        dsimp only at i1 i3
        subst i1
        have hb := q_tl_bd hB hd1 k i2
        have hi := fun j (p : 0 ≤ j) (q : j < many) => (show st1 186 j = d j by rw [a1 186 (by decide)]; exact (hd j p q).2)
        simp only [J_X12_weightOf_b175, J_X12_weightOf_209, J_X12_weightOf_226, q_g, q_b, q_let, q_ite, q_some, z32, z64, true_or, or_true, true_and, and_true]
        have last : ∀ a b : Int, k ≤ many → (a = if k = 0 then 5 else d ((k : Int) - 1)) → (b = if (k : Int) = many then 5 else d k) → q_ok (J_X12_dear a b st1) (fun v => (∃ k9 : Nat, (k : Int) + 1 = k9 ∧ k9 ≤ many + 1 ∧ u + v = x + q_tl g d many k9) ∧ (6 - ((k : Int) + 1)).toNat < (6 - (k : Int)).toNat) := by
          intro a b hk ha hb9
          have p1 : ¬ k = 0 → 0 ≤ d ((k : Int) - 1) ∧ d ((k : Int) - 1) < g 168 18 := fun e => hd1 _ (by omega) (by omega)
          have p2 : ¬ (k : Int) = many → 0 ≤ d (k : Int) ∧ d (k : Int) < g 168 18 := fun e => hd1 _ (by omega) (by omega)
          refine q_eq (s_X12_dear hS1 hB.2.2.2.2.2.2 hB.2.2.2.2.2.1 (a := a) (b := b) ?_) ⟨⟨k + 1, by omega, by omega, ?_⟩, by omega⟩
          · rw [ha, hb9]
            refine ⟨?_, ?_, ?_, ?_⟩ <;> split <;> omega
          · rw [i3, ha, hb9]; exact q_tl_fin
        refine ⟨by omega, fun hx9 => ?_, fun hx9 => ⟨by omega, fun _ => ⟨by omega, fun hk0 => ⟨by omega, fun hkm => ?_, fun hkm => ⟨by omega, ?_⟩⟩, fun hk0 => ⟨by omega, by omega, fun hkm => ?_, fun hkm => ⟨by omega, ?_⟩⟩⟩, fun h9 => absurd (show u < 1000000000000000000 by omega) h9⟩⟩
        · have e : k = many.toNat + 1 := by omega
          subst e
          exact i3
        · exact last 5 5 (by omega) (by rw [if_pos (by omega)]) (by rw [if_pos hkm])
        · rw [hi k (by omega) (by omega)]; exact last 5 (d k) (by omega) (by rw [if_pos (by omega)]) (by rw [if_neg hkm])
        · rw [hi _ (by omega) (by omega)]; exact last (d ((k : Int) - 1)) 5 (by omega) (by rw [if_neg (by omega)]) (by rw [if_pos hkm])
        · rw [hi _ (by omega) (by omega), hi k (by omega) (by omega)]; exact last (d ((k : Int) - 1)) (d k) (by omega) (by rw [if_neg (by omega)]) (by rw [if_neg hkm])
    · rintro r rfl
      simp only [J_X12_weightOf, J_X12_weightOf_109, J_X12_weightOf_144, J_X12_weightOf_209, J_X12_weightOf_226, J_X12_weightOf_251, J_X12_weightOf_29, J_X12_weightOf_32, q_g, q_b, q_let, q_ite, q_some, z32, z64, true_or, or_true, true_and, and_true]
      unfold q_W
      refine ⟨by omega, fun h9 => ⟨a1, by rw [if_pos h9]⟩, fun h9 => ⟨a1, by rw [if_neg h9]; rfl⟩⟩
