-- THE CLASS'S SORT
def q_lt (W : Int → Int) (x y : Int) : Prop := W x < W y ∨ (W x = W y ∧ x < y)
theorem q_lt_trans {W : Int → Int} {x y z : Int} (h : q_lt W x y) (k : q_lt W y z) : q_lt W x z := by unfold q_lt at *; omega
theorem q_lt_irr {W : Int → Int} {x : Int} : ¬ q_lt W x x := by unfold q_lt; omega
def q_ptr (a b : Int) : Prop := (a = 138 ∧ b = 139) ∨ (a = 139 ∧ b = 138)
/-- the invariant of merge -/
def q_mrg (W : Int → Int) (A B0 : Int → Int) (f mid t l r at9 : Int) (B : Int → Int) : Prop := (f ≤ l ∧ l ≤ mid ∧ mid ≤ r ∧ r ≤ t ∧ at9 = l + r - mid) ∧ (∀ k, (k < f ∨ at9 ≤ k) → B k = B0 k) ∧ (∀ i j, f ≤ i → i < j → j < at9 → q_lt W (B i) (B j)) ∧ (∀ i, f ≤ i → i < at9 → ∃ k, ((f ≤ k ∧ k < l) ∨ (mid ≤ k ∧ k < r)) ∧ B i = A k) ∧ (∀ k, ((f ≤ k ∧ k < l) ∨ (mid ≤ k ∧ k < r)) → ∃ i, f ≤ i ∧ i < at9 ∧ B i = A k) ∧ ∀ i, f ≤ i → i < at9 → (∀ k, l ≤ k → k < mid → q_lt W (B i) (A k)) ∧ ∀ k, r ≤ k → k < t → q_lt W (B i) (A k)
theorem q_mrg_put {W A B0 B B' : Int → Int} {f mid t l r at9 l' r' kk : Int} (h : q_mrg W A B0 f mid t l r at9 B) (hk : (l' = l + 1 ∧ r' = r ∧ kk = l ∧ l < mid) ∨ (l' = l ∧ r' = r + 1 ∧ kk = r ∧ r < t))
    (hB : ∀ i, B' i = if i = at9 then A kk else B i) (h1 : ∀ k, l' ≤ k → k < mid → q_lt W (A kk) (A k)) (h2 : ∀ k, r' ≤ k → k < t → q_lt W (A kk) (A k)) : q_mrg W A B0 f mid t l' r' (at9 + 1) B' := by
  obtain ⟨g1, g2, g3, g4, g5, g6⟩ := h
  have hkk : (l ≤ kk ∧ kk < mid) ∨ (r ≤ kk ∧ kk < t) := by omega
  refine ⟨by omega, fun k hk9 => ?_, fun i j a b c => ?_, fun i a b => ?_, fun k a => ?_, fun i a b => ?_⟩
  · rw [hB, if_neg (by omega)]; exact g2 k (by omega)
  · rw [hB i, if_neg (by omega), hB j]
    by_cases e : j = at9
    · rw [if_pos e]
      rcases hkk with q | q
      · exact (g6 i a (by omega)).1 kk q.1 q.2
      · exact (g6 i a (by omega)).2 kk q.1 q.2
    · rw [if_neg e]; exact g3 i j a b (by omega)
  · rw [hB]
    by_cases e : i = at9
    · rw [if_pos e]; exact ⟨kk, by omega, rfl⟩
    · rw [if_neg e]
      obtain ⟨k, k1, k2⟩ := g4 i a (by omega)
      exact ⟨k, by omega, k2⟩
  · by_cases e : k = kk
    · subst e; exact ⟨at9, by omega, by omega, by rw [hB, if_pos rfl]⟩
    · obtain ⟨i, i1, i2, i3⟩ := g5 k (by omega)
      exact ⟨i, i1, by omega, by rw [hB, if_neg (by omega)]; exact i3⟩
  · rw [hB]
    by_cases e : i = at9
    · rw [if_pos e]; exact ⟨h1, h2⟩
    · rw [if_neg e]
      have := g6 i a (by omega)
      exact ⟨fun k c d => this.1 k (by omega) d, fun k c d => this.2 k (by omega) d⟩
theorem s_X5_merge {st0 : z_St} {a b f mid t : Int} (hab : q_ptr a b) (ha : st0 134 3 = a) (hb : st0 134 4 = b) (h : 0 ≤ f ∧ f ≤ mid ∧ mid ≤ t ∧ t ≤ 780) (hW : ∀ k, f ≤ k → k < t → z64 (st0 136 (st0 a k))) (hA : ∀ k, f ≤ k → k < t → 0 ≤ st0 a k ∧ st0 a k < 780)
    (hL : ∀ i j, f ≤ i → i < j → j < mid → q_lt (st0 136) (st0 a i) (st0 a j)) (hR : ∀ i j, mid ≤ i → i < j → j < t → q_lt (st0 136) (st0 a i) (st0 a j)) (hX : ∀ i j, f ≤ i → i < mid → mid ≤ j → j < t → st0 a i < st0 a j) :
    q_ok (J_X5_merge f mid t st0) (fun st => (∀ x, x ≠ b → st x = st0 x) ∧ (∀ k, (k < f ∨ t ≤ k) → st b k = st0 b k) ∧ (∀ i j, f ≤ i → i < j → j < t → q_lt (st0 136) (st b i) (st b j)) ∧ (∀ i, f ≤ i → i < t → ∃ k, f ≤ k ∧ k < t ∧ st b i = st0 a k) ∧ ∀ k, f ≤ k → k < t → ∃ i, f ≤ i ∧ i < t ∧ st b i = st0 a k) := by
  have hptr : (a = 138 ∨ a = 139) ∧ (b = 138 ∨ b = 139) ∧ a ≠ b := by unfold q_ptr at hab; omega
  have hI0 : q_mrg (st0 136) (st0 a) (st0 b) f mid t f mid f (st0 b) := ⟨by omega, fun _ _ => rfl, fun i j c d e => by omega, fun i c d => by omega, fun k c => by omega, fun i c d => by omega⟩
  simp only [J_X5_merge, q_g, q_b, q_let, q_ite, q_some, z32, z64, true_or, or_true, true_and, and_true]
  refine q_loop (fun q => (∀ x, x ≠ b → q.2.2.2 x = st0 x) ∧ q_mrg (st0 136) (st0 a) (st0 b) f mid t q.1 q.2.1 q.2.2.1 (q.2.2.2 b)) (fun q => (t - q.2.2.1).toNat) ⟨fun _ _ => rfl, hI0⟩ (by show (t - f).toNat < _; omega) ?_
  rintro ⟨l, r, at9, st⟩ ⟨i1, i2⟩
  dsimp only at i1 i2
  have g1 := i2.1
  have e3 : st 134 3 = a := by rw [i1 134 (by omega)]; exact ha
  have e4 : st 134 4 = b := by rw [i1 134 (by omega)]; exact hb
  have ea : st a = st0 a := i1 a hptr.2.2
  have e136 : st 136 = st0 136 := i1 136 (by omega)
  have wL : l < mid → (∀ k, l + 1 ≤ k → k < mid → q_lt (st0 136) (st0 a l) (st0 a k)) → (∀ k, r ≤ k → k < t → q_lt (st0 136) (st0 a l) (st0 a k)) → q_ok (J_X5_merge_55 mid t l r at9 st) (fun q => match q with
      | .inl s' => ((∀ x, x ≠ b → s'.2.2.2 x = st0 x) ∧ q_mrg (st0 136) (st0 a) (st0 b) f mid t s'.1 s'.2.1 s'.2.2.1 (s'.2.2.2 b)) ∧ (t - s'.2.2.1).toNat < (t - at9).toNat
      | .inr st => (∀ x, x ≠ b → st x = st0 x) ∧ (∀ k, (k < f ∨ t ≤ k) → st b k = st0 b k) ∧ (∀ i j, f ≤ i → i < j → j < t → q_lt (st0 136) (st b i) (st b j)) ∧ (∀ i, f ≤ i → i < t → ∃ k, f ≤ k ∧ k < t ∧ st b i = st0 a k) ∧ ∀ k, f ≤ k → k < t → ∃ i, f ≤ i ∧ i < t ∧ st b i = st0 a k) := by
    intro hl h1 h2
    simp only [J_X5_merge_55, J_X5_merge_60, J_X5_merge_90, J_X5_merge_105, q_g, q_b, q_let, q_ite, q_some, z32, z64, true_or, or_true, true_and, and_true]
    rw [e3, e4, ea]
    refine ⟨hptr.2.1, by decide, fun h9 => absurd h9 (by decide), fun _ => ⟨hptr.1, by omega, by omega, by decide, fun h9 => absurd h9 (by decide), fun _ => ⟨⟨fun x hx => (q_up_row hx).trans (i1 x hx), ?_⟩, by omega⟩⟩⟩
    exact q_mrg_put i2 (Or.inl ⟨rfl, rfl, rfl, hl⟩) (fun i => by rw [q_up_at]) h1 h2
  have wR : r < t → (∀ k, l ≤ k → k < mid → q_lt (st0 136) (st0 a r) (st0 a k)) → (∀ k, r + 1 ≤ k → k < t → q_lt (st0 136) (st0 a r) (st0 a k)) → q_ok (J_X5_merge_59 mid t l r at9 st) (fun q => match q with
      | .inl s' => ((∀ x, x ≠ b → s'.2.2.2 x = st0 x) ∧ q_mrg (st0 136) (st0 a) (st0 b) f mid t s'.1 s'.2.1 s'.2.2.1 (s'.2.2.2 b)) ∧ (t - s'.2.2.1).toNat < (t - at9).toNat
      | .inr st => (∀ x, x ≠ b → st x = st0 x) ∧ (∀ k, (k < f ∨ t ≤ k) → st b k = st0 b k) ∧ (∀ i j, f ≤ i → i < j → j < t → q_lt (st0 136) (st b i) (st b j)) ∧ (∀ i, f ≤ i → i < t → ∃ k, f ≤ k ∧ k < t ∧ st b i = st0 a k) ∧ ∀ k, f ≤ k → k < t → ∃ i, f ≤ i ∧ i < t ∧ st b i = st0 a k) := by
    intro hr h1 h2
    simp only [J_X5_merge_59, J_X5_merge_60, J_X5_merge_90, J_X5_merge_105, q_g, q_b, q_let, q_ite, q_some, z32, z64, true_or, or_true, true_and, and_true]
    rw [e3, e4, ea]
    refine ⟨hptr.2.1, by decide, fun _ => ⟨hptr.1, by omega, by omega, by decide, fun _ => ⟨⟨fun x hx => (q_up_row hx).trans (i1 x hx), ?_⟩, by omega⟩, fun h9 => absurd trivial h9⟩, fun h9 => absurd trivial h9⟩
    exact q_mrg_put i2 (Or.inr ⟨rfl, rfl, rfl, hr⟩) (fun i => by rw [q_up_at]) h1 h2
  have hLk : l < mid → ∀ k, l + 1 ≤ k → k < mid → q_lt (st0 136) (st0 a l) (st0 a k) := fun hl k c d => hL l k (by omega) (by omega) d
  have hRk : r < t → ∀ k, r + 1 ≤ k → k < t → q_lt (st0 136) (st0 a r) (st0 a k) := fun hr k c d => hR r k (by omega) (by omega) d
  simp only [J_X5_merge_b9, q_g, q_b, q_let, q_ite, q_some, z32, z64, true_or, or_true, true_and, and_true]
  rw [e3, ea, e136]
  refine ⟨by omega, fun hlt => ⟨by omega, fun hl => ⟨by omega, fun hr => ⟨hptr.1, by omega, hA l (by omega) (by omega), hptr.1, by omega, hA r (by omega) (by omega), ⟨hW l (by omega) (by omega), hW r (by omega) (by omega)⟩, fun hw => ?_, fun hw => ?_⟩, fun hr => ?_⟩, fun hl => ?_⟩, fun hge => ?_⟩
  · refine q_mono (wR hr (fun k c d => ?_) (hRk hr)) (fun q hq => by cases q <;> exact hq)
    have h1 : q_lt (st0 136) (st0 a r) (st0 a l) := Or.inl hw
    by_cases e : k = l
    · subst e; exact h1
    · exact q_lt_trans h1 (hLk hl k (by omega) d)
  · refine q_mono (wL hl (hLk hl) (fun k c d => ?_)) (fun q hq => by cases q <;> exact hq)
    have h1 : q_lt (st0 136) (st0 a l) (st0 a r) := by
      have := hX l r (by omega) hl (by omega) hr
      unfold q_lt; omega
    by_cases e : k = r
    · subst e; exact h1
    · exact q_lt_trans h1 (hRk hr k (by omega) d)
  · exact q_mono (wL hl (hLk hl) (fun k c d => by omega)) (fun q hq => by cases q <;> exact hq)
  · exact q_mono (wR (by omega) (fun k c d => by omega) (hRk (by omega))) (fun q hq => by cases q <;> exact hq)
  · obtain ⟨g1, g2, g3, g4, g5, g6⟩ := i2
    have e : at9 = t := by omega
    subst e
    refine ⟨i1, g2, g3, fun i c d => ?_, fun k c d => g5 k (by omega)⟩
    obtain ⟨k, k1, k2⟩ := g4 i c d
    exact ⟨k, by omega, by omega, k2⟩
theorem q_div {i p c : Nat} (hp : 0 < p) : i / p = c ↔ c * p ≤ i ∧ i < c * p + p := by
  constructor
  · intro h
    subst h
    have h1 := Nat.div_add_mod i p
    have h2 := Nat.mod_lt i hp
    rw [Nat.mul_comm] at h1
    omega
  · intro h
    exact Nat.div_eq_of_lt_le h.1 (by rw [Nat.succ_mul]; exact h.2)
theorem q_div2 {i p c : Nat} : i / (2 * p) = i / p / 2 := by rw [Nat.div_div_eq_div_mul, Nat.mul_comm]
/-- sorted by blocks of p, so far as n; F is what was there first -/
def q_bs (W F : Int → Int) (L p n : Nat) (A : Int → Int) : Prop := (∀ i j : Nat, i < j → j < n → i / p = j / p → q_lt W (A i) (A j)) ∧ (∀ i : Nat, i < n → ∃ k : Nat, k < L ∧ k / p = i / p ∧ A i = F k) ∧ ∀ k : Nat, k < n → ∃ i : Nat, i < L ∧ i / p = k / p ∧ A i = F k
theorem s_sort_50 {st0 : z_St} {a b : Int} {F : Int → Int} {L p : Nat} (hab : q_ptr a b) (ha : st0 134 3 = a) (hb : st0 134 4 = b) (hL : L ≤ 780) (hp : 0 < p ∧ p < L) (hW : ∀ k : Nat, k < L → z64 (st0 136 (F k)))
    (hF : ∀ k : Nat, k < L → 0 ≤ F k ∧ F k < 780) (hF2 : ∀ k k' : Nat, k < k' → k' < L → F k < F k') (h : q_bs (st0 136) F L p L (st0 a)) :
    q_ok (z_iter z_F (fun q9 : (Int × z_St) => J_X5_sort_b50 (L : Int) (p : Int) q9.1 q9.2) (0, st0)) (fun st => (∀ x, x ≠ b → st x = st0 x) ∧ q_bs (st0 136) F L (2 * p) L (st b)) := by
  have hptr : (a = 138 ∨ a = 139) ∧ (b = 138 ∨ b = 139) ∧ a ≠ b := by unfold q_ptr at hab; omega
  refine q_loop (fun q => ∃ c : Nat, q.1 = ((c * (2 * p) : Nat) : Int) ∧ c * (2 * p) < L + 2 * p ∧ (∀ x, x ≠ b → q.2 x = st0 x) ∧ q_bs (st0 136) F L (2 * p) (min (c * (2 * p)) L) (q.2 b)) (fun q => (L - q.1).toNat) ⟨0, by rw [Nat.zero_mul]; rfl, by omega, fun _ _ => rfl, ⟨fun i j c d => by omega, fun i c => by omega, fun k c => by omega⟩⟩ (by show ((L : Int) - 0).toNat < _; omega) ?_
  rintro ⟨v, st⟩ ⟨c, i1, i0, i2, i3⟩
  dsimp only at i1 i2 i3
  subst i1
  obtain ⟨f, hf⟩ : ∃ f, c * (2 * p) = f := ⟨_, rfl⟩
  have hf1 : (c + 1) * (2 * p) = f + 2 * p := by rw [Nat.succ_mul, hf]
  rw [hf] at i3 i0 ⊢
  have e3 : st 134 3 = a := by rw [i2 134 (by omega)]; exact ha
  have e4 : st 134 4 = b := by rw [i2 134 (by omega)]; exact hb
  have ea : st a = st0 a := i2 a hptr.2.2
  have e136 : st 136 = st0 136 := i2 136 (by omega)
  simp only [J_X5_sort_b50, q_g, q_b, q_let, q_ite, q_some, z32, z64, true_or, or_true, true_and, and_true]
  refine ⟨by omega, fun hlt => ⟨by omega, by omega, ?_⟩, fun hge => ⟨i2, by rw [show min f L = L by omega] at i3; exact i3⟩⟩
  have k2c : ∀ i : Nat, f ≤ i → i < f + p → i / p = 2 * c := fun i c1 c2 => (q_div hp.1).mpr (by
    have : 2 * c * p = f := by rw [← hf, Nat.mul_comm 2 c, Nat.mul_assoc]
    omega)
  have k2c1 : ∀ i : Nat, f + p ≤ i → i < f + 2 * p → i / p = 2 * c + 1 := fun i c1 c2 => (q_div hp.1).mpr (by
    have : (2 * c + 1) * p = f + p := by rw [Nat.succ_mul, ← hf, Nat.mul_comm 2 c, Nat.mul_assoc]
    omega)
  have kc : ∀ i : Nat, i / (2 * p) = c ↔ f ≤ i ∧ i < f + 2 * p := fun i => by rw [q_div (by omega), hf]
  have toN : ∀ k : Int, (f : Int) ≤ k → ∃ n : Nat, k = (n : Int) ∧ f ≤ n := fun k hk => ⟨k.toNat, by omega, by omega⟩
  refine q_mono (s_X5_merge (st0 := st) (a := a) (b := b) (f := (f : Int)) (mid := min ((f : Int) + p) L) (t := min ((f : Int) + 2 * p) L) hab e3 e4 (by omega) (fun k c1 c2 => ?_) (fun k c1 c2 => ?_) (fun i j c1 c2 c3 => ?_) (fun i j c1 c2 c3 => ?_) (fun i j c1 c2 c3 c4 => ?_)) ?_
  · obtain ⟨n, rfl, _⟩ := toN k c1
    obtain ⟨k', q1, q2, q3⟩ := h.2.1 n (by omega)
    rw [e136, ea, q3]; exact hW k' q1
  · obtain ⟨n, rfl, _⟩ := toN k c1
    obtain ⟨k', q1, q2, q3⟩ := h.2.1 n (by omega)
    rw [ea, q3]; exact hF k' q1
  · obtain ⟨n, rfl, _⟩ := toN i c1
    obtain ⟨n', rfl, _⟩ := toN j (by omega)
    rw [ea, e136]
    exact h.1 n n' (by omega) (by omega) (by rw [k2c n (by omega) (by omega), k2c n' (by omega) (by omega)])
  · obtain ⟨n, rfl, _⟩ := toN i (by omega)
    obtain ⟨n', rfl, _⟩ := toN j (by omega)
    rw [ea, e136]
    exact h.1 n n' (by omega) (by omega) (by rw [k2c1 n (by omega) (by omega), k2c1 n' (by omega) (by omega)])
  · obtain ⟨n, rfl, _⟩ := toN i c1
    obtain ⟨n', rfl, _⟩ := toN j (by omega)
    rw [ea]
    obtain ⟨k, q1, q2, q3⟩ := h.2.1 n (by omega)
    obtain ⟨k', r1, r2, r3⟩ := h.2.1 n' (by omega)
    rw [k2c n (by omega) (by omega)] at q2
    rw [k2c1 n' (by omega) (by omega)] at r2
    rw [q3, r3]
    have q4 := (q_div hp.1).mp q2
    have r4 := (q_div hp.1).mp r2
    rw [Nat.succ_mul] at r4
    exact hF2 k k' (by omega) r1
  · rintro st1 ⟨d1, d2, d3, d4, d5⟩
    rw [ea, e136] at *
    refine ⟨⟨c + 1, ?_, by omega, fun x hx => (d1 x hx).trans (i2 x hx), ?_⟩, by omega⟩
    · rw [hf1]; omega
    · rw [hf1]
      refine ⟨fun i j c1 c2 c3 => ?_, fun i c1 => ?_, fun k c1 => ?_⟩
      · by_cases hj : f ≤ j
        · have hjc := (kc j).mpr ⟨hj, by omega⟩
          rw [hjc] at c3
          have hic := (kc i).mp c3
          exact d3 i j (by omega) (by omega) (by omega)
        · rw [d2 i (by omega), d2 j (by omega)]
          exact i3.1 i j c1 (by omega) c3
      · by_cases hi : f ≤ i
        · obtain ⟨k, k1, k2, k3⟩ := d4 i (by omega) (by omega)
          obtain ⟨n, rfl, _⟩ := toN k k1
          obtain ⟨k', q1, q2, q3⟩ := h.2.1 n (by omega)
          have hnc := (kc n).mpr ⟨by omega, by omega⟩
          exact ⟨k', q1, by rw [q_div2 (c := c), q2, ← q_div2 (c := c), hnc, (kc i).mpr ⟨hi, by omega⟩], by rw [k3, q3]⟩
        · rw [d2 i (by omega)]
          exact i3.2.1 i (by omega)
      · by_cases hk : f ≤ k
        · obtain ⟨n, q1, q2, q3⟩ := h.2.2 k (by omega)
          have hnc : n / (2 * p) = c := by rw [q_div2 (c := c), q2, ← q_div2 (c := c), (kc k).mpr ⟨hk, by omega⟩]
          have hn2 := (kc n).mp hnc
          obtain ⟨i, r1, r2, r3⟩ := d5 n (by omega) (by omega)
          obtain ⟨i', rfl, _⟩ := toN i r1
          exact ⟨i', by omega, by rw [(kc i').mpr ⟨by omega, by omega⟩, (kc k).mpr ⟨hk, by omega⟩], by rw [r3, q3]⟩
        · obtain ⟨i, q1, q2, q3⟩ := i3.2.2 k (by omega)
          refine ⟨i, q1, q2, ?_⟩
          have hif : i < f := by
            apply Classical.byContradiction
            intro h9
            have hkc : ¬ k / (2 * p) = c := fun h8 => by have := (kc k).mp h8; omega
            have h7 : k / (2 * p) < c := (Nat.div_lt_iff_lt_mul (by omega)).mpr (by rw [hf]; omega)
            have h6 : c ≤ i / (2 * p) := (Nat.le_div_iff_mul_le (by omega)).mpr (by rw [hf]; omega)
            omega
          rw [d2 i (by omega)]; exact q3
/-- where what is counted is told by A -/
theorem e_cnt_rm {f : Nat → Bool} {a : Nat} : ∀ {n : Nat}, a < n → f a = true → e_cnt f n = e_cnt (fun j => f j && decide (j ≠ a)) n + 1 := by
  intro n
  induction n with
  | zero => intro h; omega
  | succ n ih =>
    intro h hf
    show e_cnt f n + _ = e_cnt _ n + (if (f n && decide (n ≠ a)) = true then 1 else 0) + 1
    by_cases e : a = n
    · subst e
      have : e_cnt f a = e_cnt (fun j => f j && decide (j ≠ a)) a := e_cnt_congr fun i hi => by
        have : i ≠ a := by omega
        simp [this]
      rw [← this, if_pos hf, if_neg (by simp)]
    · rw [ih (by omega) hf]
      have : n ≠ a := by omega
      have e2 : (f n && decide (n ≠ a)) = f n := by simp [this]
      rw [e2]; omega
theorem e_cnt_zero {f : Nat → Bool} : ∀ {n : Nat}, (∀ i, i < n → f i = false) → e_cnt f n = 0 := by
  intro n
  induction n with
  | zero => intro _; rfl
  | succ n ih =>
    intro h
    show e_cnt f n + _ = 0
    rw [ih fun i hi => h i (by omega), h n (by omega)]; rfl
theorem e_cnt_bij {A : Nat → Nat} {n : Nat} : ∀ {k : Nat} {f : Nat → Bool}, (∀ i, i < k → A i < n ∧ f (A i) = true) → (∀ i j, i < j → j < k → A i ≠ A j) → (∀ j, j < n → f j = true → ∃ i, i < k ∧ A i = j) → e_cnt f n = k := by
  intro k
  induction k with
  | zero =>
    intro f h1 h2 h3
    exact e_cnt_zero fun i hi => by
      cases hf : f i with
      | false => rfl
      | true => obtain ⟨j, hj, _⟩ := h3 i hi hf; omega
  | succ k ih =>
    intro f h1 h2 h3
    rw [e_cnt_rm (h1 k (by omega)).1 (h1 k (by omega)).2]
    rw [ih (f := fun j => f j && decide (j ≠ A k))]
    · intro i hi
      refine ⟨(h1 i (by omega)).1, ?_⟩
      have := h2 i k hi (by omega)
      simp [(h1 i (by omega)).2, this]
    · exact fun i j a b => h2 i j a (by omega)
    · intro j hj hf
      simp only [Bool.and_eq_true, decide_eq_true_eq] at hf
      obtain ⟨i, hi, e⟩ := h3 j hj hf.1
      refine ⟨i, ?_, e⟩
      by_cases h9 : i = k
      · subst h9; exact absurd e.symm hf.2
      · omega
/-- the class's order: the k-th is of the rank k -/
def q_ord (g st : z_St) : Prop := ∃ a b : Int, q_ptr a b ∧ st 134 3 = a ∧ st 134 4 = b ∧ ∀ k : Nat, k < e_cnt (fun i => (q_wl g i).isSome) (q_len g) → ∃ i : Nat, st a k = (i : Int) ∧ i < q_len g ∧ q_wl g i ≠ none ∧ q_rank g i = k
theorem q_rank_of {g : z_St} (hB : q_RB g) {W : Int → Int} (hW : ∀ i : Nat, i < q_len g → W i = e_I 1152921504606846976 (q_wl g i)) {A : Nat → Nat} {L k : Nat} (hk : k < L) (h1 : ∀ i, i < L → A i < q_len g ∧ q_wl g (A i) ≠ none) (h2 : ∀ i j, i < j → j < L → q_lt W (A i) (A j)) (h3 : ∀ x, x < q_len g → q_wl g x ≠ none → ∃ i, i < L ∧ A i = x) : q_rank g (A k) = k := by
  unfold q_rank
  have fin : ∀ i, i < q_len g → q_wl g i ≠ none → ∃ x, q_wl g i = some x ∧ W i = x ∧ e_I 1000000000000000000 (q_wl g i) = x ∧ 0 ≤ x ∧ x ≤ 10000000000000 := fun i hi h => by
    cases hw : q_wl g i with
    | none => exact absurd hw h
    | some x => exact ⟨x, rfl, by rw [hW i hi, hw, e_I_some], rfl, q_wl_bd hB i x hw⟩
  obtain ⟨xk, k1, k2, k3, k4⟩ := fin (A k) (h1 k hk).1 (h1 k hk).2
  have hah : ∀ j, j < q_len g → (q_ah g (A k) j = true ↔ q_wl g j ≠ none ∧ q_lt W j (A k)) := fun j hj => by
    unfold q_ah
    simp only [Bool.or_eq_true, Bool.and_eq_true, decide_eq_true_eq]
    rw [k3]
    constructor
    · intro h
      have hne : q_wl g j ≠ none := fun e => by
        rw [e, e_I_none] at h; omega
      obtain ⟨x, x1, x2, x3, x4⟩ := fin j hj hne
      refine ⟨hne, ?_⟩
      unfold q_lt
      rw [x2, k2]; rw [x3] at h; omega
    · rintro ⟨hne, h⟩
      obtain ⟨x, x1, x2, x3, x4⟩ := fin j hj hne
      unfold q_lt at h
      rw [x2, k2] at h; rw [x3]; omega
  refine e_cnt_bij (A := A) (fun i hi => ⟨(h1 i (by omega)).1, ?_⟩) (fun i j a b e => ?_) (fun j hj hf => ?_)
  · exact (hah _ (h1 i (by omega)).1).mpr ⟨(h1 i (by omega)).2, h2 i k hi hk⟩
  · have := h2 i j a (by omega)
    rw [e] at this
    exact q_lt_irr this
  · obtain ⟨hne, hlt⟩ := (hah j hj).mp hf
    obtain ⟨i, hi, e⟩ := h3 j hj hne
    refine ⟨i, ?_, e⟩
    apply Classical.byContradiction
    intro h9
    rw [← e] at hlt
    by_cases e9 : i = k
    · subst e9; exact q_lt_irr hlt
    · exact q_lt_irr (q_lt_trans hlt (h2 k i (by omega) hi))
theorem s_X5_sort {g st0 : z_St} (hB : q_RB g) (hR : q_RC g st0) {a b : Int} (hab : q_ptr a b) (ha : st0 134 3 = a) (hb : st0 134 4 = b) :
    q_ok (J_X5_sort st0) (fun st => (∀ x, x ≠ 134 → x ≠ 138 → x ≠ 139 → st x = st0 x) ∧ (∀ k, k ≠ 3 → k ≠ 4 → k ≠ 10 → st 134 k = st0 134 k) ∧ q_ord g st ∧ st 134 10 = 1) := by
  have hlen := q_len_le hB
  have hptr : (a = 138 ∨ a = 139) ∧ (b = 138 ∨ b = 139) ∧ a ≠ b := by unfold q_ptr at hab; omega
  obtain ⟨r1, r2, r3, r4, r5⟩ := hR
  have hcnt := e_cnt_le (f := fun i => (q_wl g i).isSome) (q_len g)
  obtain ⟨L, hL⟩ : ∃ L, e_cnt (fun i => (q_wl g i).isSome) (q_len g) = L := ⟨_, rfl⟩
  have h136 : ∀ i : Nat, i < q_len g → st0 136 i = e_I 1152921504606846976 (q_wl g i) := fun i hi => (r5 i _ (List.getElem?_eq_getElem hi)).2
  simp only [J_X5_sort, q_g, q_b, q_let, q_ite, q_some, z32, z64, true_or, or_true, true_and, and_true]
  refine q_mono (P := fun r => r.1 = (L : Int) ∧ (∀ x, x ≠ a → r.2 x = st0 x) ∧ (∀ i : Nat, i < L → ∃ n : Nat, r.2 a i = (n : Int) ∧ n < q_len g ∧ q_wl g n ≠ none) ∧ (∀ i j : Nat, i < j → j < L → r.2 a i < r.2 a j) ∧ ∀ x : Nat, x < q_len g → q_wl g x ≠ none → ∃ i : Nat, i < L ∧ r.2 a i = (x : Int)) ?_ ?_
  · refine q_loop (fun q => ∃ j : Nat, q.2.1 = (j : Int) ∧ j ≤ q_len g ∧ q.1 = (e_cnt (fun i => (q_wl g i).isSome) j : Int) ∧ (∀ x, x ≠ a → q.2.2 x = st0 x) ∧ (∀ i : Nat, i < e_cnt (fun i => (q_wl g i).isSome) j → ∃ n : Nat, q.2.2 a i = (n : Int) ∧ n < j ∧ q_wl g n ≠ none) ∧ (∀ i i' : Nat, i < i' → i' < e_cnt (fun i => (q_wl g i).isSome) j → q.2.2 a i < q.2.2 a i') ∧ ∀ x : Nat, x < j → q_wl g x ≠ none → ∃ i : Nat, i < e_cnt (fun i => (q_wl g i).isSome) j ∧ q.2.2 a i = (x : Int)) (fun q => (781 - q.2.1).toNat) ⟨0, rfl, by omega, rfl, fun _ _ => rfl, fun i h => absurd h (Nat.not_lt_zero _), fun i i' h h2 => absurd h2 (Nat.not_lt_zero _), fun x h => by omega⟩ (by show (781 - (0 : Int)).toNat < _; decide) ?_
    rintro ⟨u, v, st⟩ ⟨j, i1, i2, i3, i4, i5, i6, i7⟩
    dsimp only at i1 i3 i4 i5 i6 i7
    subst i1
    have hc := e_cnt_le (f := fun i => (q_wl g i).isSome) j
    have e134 : st 134 = st0 134 := i4 134 (by omega)
    have e136 : st 136 = st0 136 := i4 136 (by omega)
    simp only [J_X5_sort_b4, J_X5_sort_35, q_g, q_b, q_let, q_ite, q_some, z32, z64, true_or, or_true, true_and, and_true]
    rw [e134, e136, r2, ha, i3]
    have es : e_cnt (fun i => (q_wl g i).isSome) (j + 1) = e_cnt (fun i => (q_wl g i).isSome) j + (if (q_wl g j).isSome = true then 1 else 0) := rfl
    obtain ⟨C, hC⟩ : ∃ C, e_cnt (fun i => (q_wl g i).isSome) j = C := ⟨_, rfl⟩
    rw [hC] at i5 i6 i7 es hc ⊢
    refine ⟨by omega, fun hlt => ?_, fun hge => ?_⟩
    · have hbd := q_wl_bd hB j
      rw [h136 j (by omega)]
      cases hw : q_wl g j with
      | none =>
        rw [hw] at es
        rw [e_I_none]
        refine ⟨by omega, by decide, fun h9 => absurd h9 (by decide), fun _ => ⟨⟨j + 1, by omega, by omega, ?_⟩, by omega⟩⟩
        have es2 : e_cnt (fun i => (q_wl g i).isSome) (j + 1) = C := by rw [es]; rfl
        rw [es2]
        refine ⟨rfl, i4, fun i hi => ?_, i6, fun x hx hne => ?_⟩
        · obtain ⟨n, n1, n2, n3⟩ := i5 i hi
          exact ⟨n, n1, by omega, n3⟩
        · refine i7 x ?_ hne
          by_cases e : x = j
          · subst e; exact absurd hw hne
          · omega
      | some y =>
        have hy := hbd y hw
        rw [hw] at es
        rw [e_I_some]
        refine ⟨by omega, by omega, fun _ => ⟨hptr.1, by omega, ⟨j + 1, by omega, by omega, ?_⟩, by omega⟩, fun h9 => by omega⟩
        have es2 : e_cnt (fun i => (q_wl g i).isSome) (j + 1) = C + 1 := by rw [es]; rfl
        rw [es2]
        refine ⟨rfl, fun x hx => (q_up_row hx).trans (i4 x hx), fun i hi => ?_, fun i i' h1 h2 => ?_, fun x hx hne => ?_⟩
        · rw [q_up_at]
          by_cases e : i = C
          · subst e; exact ⟨j, by rw [if_pos rfl], by omega, by rw [hw]; exact fun h => nomatch h⟩
          · rw [if_neg (by omega)]
            obtain ⟨n, n1, n2, n3⟩ := i5 i (by omega)
            exact ⟨n, n1, by omega, n3⟩
        · rw [q_up_at, q_up_at, if_neg (show ¬ (i : Int) = C by omega)]
          by_cases e : i' = C
          · obtain ⟨n, n1, n2, n3⟩ := i5 i (by omega)
            rw [if_pos (by omega), n1]; omega
          · rw [if_neg (by omega)]; exact i6 i i' h1 (by omega)
        · by_cases e : x = j
          · subst e; exact ⟨C, by omega, by rw [q_up_at, if_pos rfl]⟩
          · obtain ⟨i, k1, k2⟩ := i7 x (by omega) hne
            exact ⟨i, by omega, by rw [q_up_at, if_neg (by omega)]; exact k2⟩
    · have e : j = q_len g := by omega
      rw [← e] at hL ⊢
      rw [hC] at hL
      rw [← hL]
      exact ⟨rfl, i4, i5, i6, i7⟩
  · rintro ⟨u, st⟩ ⟨rfl, b1, b2, b3, b4⟩
    dsimp only at b1 b2 b3 b4 ⊢
    have hLl : L ≤ q_len g := by omega
    have f136 : st 136 = st0 136 := b1 136 (by omega)
    have hFn : ∀ k : Nat, k < L → 0 ≤ st a k ∧ st a k < 780 := fun k hk => by obtain ⟨n, n1, n2, n3⟩ := b2 k hk; omega
    have hWn : ∀ k : Nat, k < L → z64 (st 136 (st a k)) := fun k hk => by
      obtain ⟨n, n1, n2, n3⟩ := b2 k hk
      have h9 := e_I_le (K := 1152921504606846976) (q_wl_bd hB n) (by decide) (by decide)
      rw [f136, n1, h136 n n2]
      exact ⟨by omega, by omega⟩
    refine q_mono (P := fun s => ∃ a' b' : Int, q_ptr a' b' ∧ s 134 3 = a' ∧ s 134 4 = b' ∧ (∀ x, x ≠ 134 → x ≠ 138 → x ≠ 139 → s x = st x) ∧ (∀ k, k ≠ 3 → k ≠ 4 → s 134 k = st 134 k) ∧ ∃ p : Nat, L ≤ p ∧ 0 < p ∧ q_bs (st 136) (st a) L p L (s a')) ?_ ?_
    · refine q_loop (fun q => ∃ p : Nat, q.1 = (p : Int) ∧ 1 ≤ p ∧ p ≤ 1560 ∧ ∃ a' b' : Int, q_ptr a' b' ∧ q.2 134 3 = a' ∧ q.2 134 4 = b' ∧ (∀ x, x ≠ 134 → x ≠ 138 → x ≠ 139 → q.2 x = st x) ∧ (∀ k, k ≠ 3 → k ≠ 4 → q.2 134 k = st 134 k) ∧ q_bs (st 136) (st a) L p L (q.2 a')) (fun q => (L - q.1).toNat) ⟨1, rfl, by decide, by decide, a, b, hab, by show st 134 3 = a; rw [b1 134 (by omega)]; exact ha, by show st 134 4 = b; rw [b1 134 (by omega)]; exact hb, fun _ _ _ _ => rfl, fun _ _ _ => rfl, fun i j c d e => ?_, fun i c => ⟨i, c, rfl, rfl⟩, fun k c => ⟨k, c, rfl, rfl⟩⟩ (by show ((L : Int) - 1).toNat < _; omega) ?_
      · rw [Nat.div_one, Nat.div_one] at e; omega
      rintro ⟨u, s⟩ ⟨p, i1, i2, i3, a', b', j1, j2, j3, j4, j5, j6⟩
      dsimp only at i1 j2 j3 j4 j5 j6
      subst i1
      have hptr2 : (a' = 138 ∨ a' = 139) ∧ (b' = 138 ∨ b' = 139) ∧ a' ≠ b' := by unfold q_ptr at j1; omega
      have s136 : s 136 = st 136 := j4 136 (by decide) (by decide) (by decide)
      simp only [J_X5_sort_b43, q_g, q_b, q_let, q_ite, q_some, z32, z64, true_or, or_true, true_and, and_true]
      refine ⟨by omega, fun hlt => ?_, fun hge => ⟨a', b', j1, j2, j3, j4, j5, p, by omega, by omega, j6⟩⟩
      refine q_mono (s_sort_50 (F := st a) (L := L) (p := p) j1 j2 j3 (by omega) ⟨by omega, by omega⟩ (by rw [s136]; exact hWn) hFn b3 (by rw [s136]; exact j6)) ?_
      rintro s2 ⟨c1, c2⟩
      rw [c1 134 (by omega), j2, j3]
      refine ⟨hptr2.2.1, hptr2.1, ⟨2 * p, by omega, by omega, by omega, b', a', by unfold q_ptr at j1 ⊢; omega, ?_, ?_, fun x x1 x2 x3 => ?_, fun k k1 k2 => ?_, ?_⟩, by omega⟩
      · rw [z_up_at]
      · rw [z_up_n (by decide), z_up_at]
      · rw [q_up_row x1, q_up_row x1, c1 x (by omega)]; exact j4 x x1 x2 x3
      · rw [z_up_n (by omega), z_up_n (by omega), c1 134 (by omega)]; exact j5 k k1 k2
      · rw [q_up_row (by omega), q_up_row (by omega), ← s136]; exact c2
    · rintro s ⟨a', b', j1, j2, j3, j4, j5, p, j6, j7, j8⟩
      have hptr2 : (a' = 138 ∨ a' = 139) ∧ (b' = 138 ∨ b' = 139) ∧ a' ≠ b' := by unfold q_ptr at j1; omega
      have d0 : ∀ i : Nat, i < L → i / p = 0 := fun i hi => Nat.div_eq_of_lt (by omega)
      refine ⟨fun x x1 x2 x3 => ?_, fun k k1 k2 k3 => ?_, ⟨a', b', j1, ?_, ?_, fun k hk => ?_⟩, ?_⟩
      · rw [q_up_row x1, j4 x x1 x2 x3, b1 x (by omega)]
      · rw [z_up_n (by omega), j5 k k1 k2, b1 134 (by omega)]
      · rw [z_up_n (by decide)]; exact j2
      · rw [z_up_n (by decide)]; exact j3
      · rw [hL] at hk
        rw [q_up_row (by omega)]
        have hA : ∀ i : Nat, i < L → ∃ n : Nat, s a' i = (n : Int) ∧ n < q_len g ∧ q_wl g n ≠ none := fun i hi => by
          obtain ⟨k', k1, _, k3⟩ := j8.2.1 i hi
          rw [k3]; exact b2 k' k1
        have hAN : ∀ i : Nat, i < L → (((s a' i).toNat : Nat) : Int) = s a' i := fun i hi => by obtain ⟨n, n1, _⟩ := hA i hi; omega
        obtain ⟨n, n1, n2, n3⟩ := hA k hk
        refine ⟨n, n1, n2, n3, ?_⟩
        have key := q_rank_of hB (W := st0 136) h136 (A := fun i => (s a' i).toNat) (L := L) (k := k) hk (fun i hi => ?_) (fun i j c d => ?_) (fun x hx hne => ?_)
        · have e : (s a' k).toNat = n := by omega
          rw [← e]; exact key
        · obtain ⟨m, m1, m2, m3⟩ := hA i hi
          have e : (s a' i).toNat = m := by omega
          rw [e]; exact ⟨m2, m3⟩
        · rw [hAN i (by omega), hAN j d, ← f136]
          exact j8.1 i j c d (by rw [d0 i (by omega), d0 j d])
        · obtain ⟨i, i1, i2⟩ := b4 x hx hne
          obtain ⟨i', q1, _, q3⟩ := j8.2.2 i i1
          exact ⟨i', q1, by omega⟩
      · rw [z_up_at]
