-- THE ARC OF A NUMBER
theorem e_cnt_skip {f : Nat → Bool} {a : Nat} : ∀ {b : Nat}, a ≤ b → (∀ i, a ≤ i → i < b → f i = false) → e_cnt f b = e_cnt f a := by
  intro b
  induction b with
  | zero => intro h _; rw [show a = 0 by omega]
  | succ b ih =>
    intro h k
    by_cases e : a = b + 1
    · rw [e]
    · show e_cnt f b + _ = _
      rw [ih (by omega) (fun i p q => k i p (by omega)), k b (by omega) (by omega)]
      rfl
theorem e_cnt_le2 {f : Nat → Bool} {a : Nat} : ∀ {b : Nat}, a ≤ b → e_cnt f a ≤ e_cnt f b := by
  intro b
  induction b with
  | zero => intro h; rw [show a = 0 by omega]; exact Nat.le_refl _
  | succ b ih =>
    intro h
    by_cases e : a = b + 1
    · rw [e]; exact Nat.le_refl _
    · have := ih (by omega)
      show e_cnt f a ≤ e_cnt f b + _
      omega
theorem e_cnt_s {f : Nat → Bool} {i : Nat} (h : f i = true) : e_cnt f (i + 1) = e_cnt f i + 1 := by show e_cnt f i + _ = _; rw [if_pos h]
theorem e_cnt_s0 {f : Nat → Bool} {i : Nat} (h : ¬ f i = true) : e_cnt f (i + 1) = e_cnt f i := by show e_cnt f i + _ = _; rw [if_neg h]
theorem e_cnt_ex {f : Nat → Bool} {c : Nat} : ∀ {n : Nat}, c < e_cnt f n → ∃ i, i < n ∧ f i = true ∧ e_cnt f i = c := by
  intro n
  induction n with
  | zero => intro h; exact absurd h (Nat.not_lt_zero _)
  | succ n ih =>
    intro h
    by_cases hf : f n = true
    · rw [e_cnt_s hf] at h
      by_cases e : c = e_cnt f n
      · exact ⟨n, by omega, hf, e.symm⟩
      · obtain ⟨i, h1, h2⟩ := ih (by omega)
        exact ⟨i, by omega, h2⟩
    · rw [e_cnt_s0 hf] at h
      obtain ⟨i, h1, h2⟩ := ih h
      exact ⟨i, by omega, h2⟩
theorem e_cnt_uniq {f : Nat → Bool} {i j : Nat} (hi : f i = true) (hj : f j = true) (h : e_cnt f i = e_cnt f j) : i = j := by
  rcases Nat.lt_trichotomy i j with k | k | k
  · have := e_cnt_le2 (f := f) (a := i + 1) (b := j) k
    rw [e_cnt_s hi] at this; omega
  · exact k
  · have := e_cnt_le2 (f := f) (a := j + 1) (b := i) k
    rw [e_cnt_s hj] at this; omega
/-- is there an ARC within the BEAM at the number i? -/
def q_P3 (g : z_St) (beam : Int) (i : Nat) : Bool := decide (i % 5 < (g 168 18).toNat) && (decide (i / 5 % 17 ≤ (g 168 2).toNat) && (decide (i / 85 < i / 5 % 17) && decide (q_one g beam (i % 5) (i / 85) (i / 5 % 17) = 1)))
theorem q_P3_iff {g : z_St} {beam : Int} {i : Nat} : q_P3 g beam i = true ↔ i % 5 < (g 168 18).toNat ∧ i / 5 % 17 ≤ (g 168 2).toNat ∧ i / 85 < i / 5 % 17 ∧ q_one g beam (i % 5) (i / 85) (i / 5 % 17) = 1 := by
  unfold q_P3
  simp only [Bool.and_eq_true, decide_eq_true_eq]
theorem q_P3_no {g : z_St} {beam : Int} {i : Nat} (h : ¬ (i % 5 < (g 168 18).toNat ∧ i / 5 % 17 ≤ (g 168 2).toNat ∧ i / 85 < i / 5 % 17)) : q_P3 g beam i = false := by
  cases hp : q_P3 g beam i with
  | false => rfl
  | true =>
    have := q_P3_iff.mp hp
    exact absurd ⟨this.1, this.2.1, this.2.2.1⟩ h
def q_arcAt (g : z_St) (beam arc : Int) (i : Nat) : Prop := i < 1445 ∧ q_P3 g beam i = true ∧ (e_cnt (q_P3 g beam) i : Int) = arc
theorem q_arcAt_uniq {g : z_St} {beam arc : Int} {i j : Nat} (hi : q_arcAt g beam arc i) (hj : q_arcAt g beam arc j) : i = j := e_cnt_uniq hi.2.1 hj.2.1 (by have := hi.2.2; have := hj.2.2; omega)
def q_tell (g : z_St) (what : Int) (i : Nat) : Int := if what = 0 then ((i % 5 : Nat) : Int) else if what = 1 then ((i / 85 : Nat) : Int) else if what = 2 then ((i / 5 % 17 : Nat) : Int) else e_I 0 (q_sl g (i % 5) (i / 85) (i / 5 % 17))
theorem q_one_some {g : z_St} {beam : Int} {w f t : Nat} (h : q_one g beam w f t = 1) : ∃ x, q_sl g w f t = some x := by
  unfold q_one at h
  cases hq : q_sl g w f t with
  | none => rw [hq] at h; cases h
  | some x => exact ⟨x, rfl⟩
-- the count, by the numbers
theorem e_sum_block {a : Nat → Int} {m : Nat} : ∀ {n : Nat}, e_sum a (m * n) = e_sum (fun i => e_sum (fun j => a (m * i + j)) m) n := by
  have h2 : ∀ (p q : Nat), e_sum a (p + q) = e_sum a p + e_sum (fun j => a (p + j)) q := by
    intro p q
    induction q with
    | zero => exact (Int.add_zero _).symm
    | succ q ih => show e_sum a (p + q) + a (p + q) = e_sum a p + (e_sum _ q + a (p + q)); rw [ih]; omega
  intro n
  induction n with
  | zero => rfl
  | succ n ih => rw [Nat.mul_succ, h2, ih]; rfl
theorem e_sum_cut {a : Nat → Int} {m : Nat} : ∀ {n : Nat}, m ≤ n → (∀ i, m ≤ i → i < n → a i = 0) → e_sum a n = e_sum a m := by
  intro n
  induction n with
  | zero => intro h _; rw [show m = 0 by omega]
  | succ n ih =>
    intro h k
    by_cases e : m = n + 1
    · rw [e]
    · show e_sum a n + a n = _
      rw [ih (by omega) (fun i p q => k i p (by omega)), k n (by omega) (by omega)]; omega
theorem e_sum_drop {a : Nat → Int} {p : Nat} : ∀ {q : Nat}, (∀ i, i < p → a i = 0) → e_sum a (p + q) = e_sum (fun j => a (p + j)) q := by
  intro q
  induction q with
  | zero => intro h; exact e_sum_z h
  | succ q ih => intro h; show e_sum a (p + q) + _ = e_sum _ q + _; rw [ih h]
theorem e_cnt_sum {f : Nat → Bool} : ∀ {n : Nat}, (e_cnt f n : Int) = e_sum (fun i => if f i = true then 1 else 0) n := by
  intro n
  induction n with
  | zero => rfl
  | succ n ih =>
    show ((e_cnt f n + (if f n = true then 1 else 0) : Nat) : Int) = e_sum _ n + _
    rw [← ih]
    split <;> omega
set_option maxRecDepth 100000 in
theorem q_nArcs_P {g : z_St} (hB : q_RB g) {beam : Int} : (e_cnt (q_P3 g beam) 1445 : Int) = q_nArcs g beam := by
  have hw1 := hB.2.2.2.2.1.1
  have hf1 := hB.1.1
  rw [e_cnt_sum, show (1445 : Nat) = 85 * 17 from rfl, e_sum_block, e_sum_cut (m := (g 168 2).toNat) (by omega) (fun f h1 h2 => e_sum_z fun j hj => by
    rw [if_neg]
    intro h
    have := q_P3_iff.mp h
    omega)]
  unfold q_nArcs
  refine e_sum_congr fun f hf => ?_
  rw [show (85 : Nat) = 5 * 17 from rfl, e_sum_block, e_sum_cut (m := (f + 1) + ((g 168 2).toNat - f)) (by omega) (fun t h1 h2 => e_sum_z fun w hw => by
    rw [if_neg]
    intro h
    have := q_P3_iff.mp h
    omega), e_sum_drop (fun t ht => e_sum_z fun w hw => by
    rw [if_neg]
    intro h
    have := q_P3_iff.mp h
    omega)]
  refine e_sum_congr fun k hk => ?_
  rw [e_sum_cut (m := (g 168 18).toNat) (by omega) (fun w h1 h2 => by
    rw [if_neg]
    intro h
    have := q_P3_iff.mp h
    omega)]
  refine e_sum_congr fun w hw => ?_
  have hq := q_one_bd (g := g) (beam := beam) (w := w) (f := f) (t := f + 1 + k)
  have e1 : (5 * 17 * f + (5 * (f + 1 + k) + w)) % 5 = w := by omega
  have e2 : (5 * 17 * f + (5 * (f + 1 + k) + w)) / 85 = f := by omega
  have e3 : (5 * 17 * f + (5 * (f + 1 + k) + w)) / 5 % 17 = f + 1 + k := by omega
  by_cases h : q_P3 g beam (5 * 17 * f + (5 * (f + 1 + k) + w)) = true
  · rw [if_pos h]
    have := (q_P3_iff.mp h).2.2.2
    rw [e1, e2, e3] at this
    exact this.symm
  · rw [if_neg h]
    by_cases h1 : q_one g beam w f (f + 1 + k) = 1
    · exfalso
      apply h
      rw [q_P3_iff, e1, e2, e3]
      exact ⟨by omega, by omega, by omega, h1⟩
    · omega
