-- THE ARC OF A NUMBER
theorem e_cnt_skip {f : Nat → Bool} {a : Nat} : ∀ {b : Nat}, a ≤ b → (∀ i, a ≤ i → i < b → f i = false) → e_cnt f b = e_cnt f a := by
  intro b
  induction b with
  | zero => intro h _; rw [show a = 0 by omega]
  | succ b ih =>
    intro h k
    by_cases e : a = b + 1
    · rw [e]
    · show e_cnt f b + _ = _
      rw [ih (by omega) (fun i p q => k i p (by omega)), k b (by omega) (by omega)]
      rfl
theorem e_cnt_le2 {f : Nat → Bool} {a : Nat} : ∀ {b : Nat}, a ≤ b → e_cnt f a ≤ e_cnt f b := by
  intro b
  induction b with
  | zero => intro h; rw [show a = 0 by omega]; exact Nat.le_refl _
  | succ b ih =>
    intro h
    by_cases e : a = b + 1
    · rw [e]; exact Nat.le_refl _
    · have := ih (by omega)
      show e_cnt f a ≤ e_cnt f b + _
      omega
theorem e_cnt_s {f : Nat → Bool} {i : Nat} (h : f i = true) : e_cnt f (i + 1) = e_cnt f i + 1 := by show e_cnt f i + _ = _; rw [if_pos h]
theorem e_cnt_s0 {f : Nat → Bool} {i : Nat} (h : ¬ f i = true) : e_cnt f (i + 1) = e_cnt f i := by show e_cnt f i + _ = _; rw [if_neg h]; rfl
theorem e_cnt_ex {f : Nat → Bool} {c : Nat} : ∀ {n : Nat}, c < e_cnt f n → ∃ i, i < n ∧ f i = true ∧ e_cnt f i = c := by
  intro n
  induction n with
  | zero => intro h; exact absurd h (Nat.not_lt_zero _)
  | succ n ih =>
    intro h
    by_cases hf : f n = true
    · rw [e_cnt_s hf] at h
      by_cases e : c = e_cnt f n
      · exact ⟨n, by omega, hf, e.symm⟩
      · obtain ⟨i, h1, h2⟩ := ih (by omega)
        exact ⟨i, by omega, h2⟩
    · rw [e_cnt_s0 hf] at h
      obtain ⟨i, h1, h2⟩ := ih h
      exact ⟨i, by omega, h2⟩
theorem e_cnt_uniq {f : Nat → Bool} {i j : Nat} (hi : f i = true) (hj : f j = true) (h : e_cnt f i = e_cnt f j) : i = j := by
  rcases Nat.lt_trichotomy i j with k | k | k
  · have := e_cnt_le2 (f := f) (a := i + 1) (b := j) k
    rw [e_cnt_s hi] at this; omega
  · exact k
  · have := e_cnt_le2 (f := f) (a := j + 1) (b := i) k
    rw [e_cnt_s hj] at this; omega
/-- is there an ARC within the BEAM at the number i? -/
def q_P3 (g : z_St) (beam : Int) (i : Nat) : Bool := decide (i % 5 < (g 168 18).toNat) && (decide (i / 5 % 17 ≤ (g 168 2).toNat) && (decide (i / 85 < i / 5 % 17) && decide (q_one g beam (i % 5) (i / 85) (i / 5 % 17) = 1)))
theorem q_P3_iff {g : z_St} {beam : Int} {i : Nat} : q_P3 g beam i = true ↔ i % 5 < (g 168 18).toNat ∧ i / 5 % 17 ≤ (g 168 2).toNat ∧ i / 85 < i / 5 % 17 ∧ q_one g beam (i % 5) (i / 85) (i / 5 % 17) = 1 := by
  unfold q_P3
  simp only [Bool.and_eq_true, decide_eq_true_eq]
theorem q_P3_no {g : z_St} {beam : Int} {i : Nat} (h : ¬ (i % 5 < (g 168 18).toNat ∧ i / 5 % 17 ≤ (g 168 2).toNat ∧ i / 85 < i / 5 % 17)) : q_P3 g beam i = false := by
  cases hp : q_P3 g beam i with
  | false => rfl
  | true =>
    have := q_P3_iff.mp hp
    exact absurd ⟨this.1, this.2.1, this.2.2.1⟩ h
def q_arcAt (g : z_St) (beam arc : Int) (i : Nat) : Prop := i < 1445 ∧ q_P3 g beam i = true ∧ (e_cnt (q_P3 g beam) i : Int) = arc
theorem q_arcAt_uniq {g : z_St} {beam arc : Int} {i j : Nat} (hi : q_arcAt g beam arc i) (hj : q_arcAt g beam arc j) : i = j := e_cnt_uniq hi.2.1 hj.2.1 (by have := hi.2.2; have := hj.2.2; omega)
def q_tell (g : z_St) (what : Int) (i : Nat) : Int := if what = 0 then ((i % 5 : Nat) : Int) else if what = 1 then ((i / 85 : Nat) : Int) else if what = 2 then ((i / 5 % 17 : Nat) : Int) else e_I 0 (q_sl g (i % 5) (i / 85) (i / 5 % 17))
theorem q_one_some {g : z_St} {beam : Int} {w f t : Nat} (h : q_one g beam w f t = 1) : ∃ x, q_sl g w f t = some x := by
  unfold q_one at h
  cases hq : q_sl g w f t with
  | none => rw [hq] at h; cases h
  | some x => exact ⟨x, rfl⟩
-- the count, by the numbers
theorem e_sum_block {a : Nat → Int} {m : Nat} : ∀ {n : Nat}, e_sum a (m * n) = e_sum (fun i => e_sum (fun j => a (m * i + j)) m) n := by
  have h2 : ∀ (p q : Nat), e_sum a (p + q) = e_sum a p + e_sum (fun j => a (p + j)) q := by
    intro p q
    induction q with
    | zero => exact (Int.add_zero _).symm
    | succ q ih => show e_sum a (p + q) + a (p + q) = e_sum a p + (e_sum _ q + a (p + q)); rw [ih]; omega
  intro n
  induction n with
  | zero => rfl
  | succ n ih => rw [Nat.mul_succ, h2, ih]; rfl
theorem e_sum_cut {a : Nat → Int} {m : Nat} : ∀ {n : Nat}, m ≤ n → (∀ i, m ≤ i → i < n → a i = 0) → e_sum a n = e_sum a m := by
  intro n
  induction n with
  | zero => intro h _; rw [show m = 0 by omega]
  | succ n ih =>
    intro h k
    by_cases e : m = n + 1
    · rw [e]
    · show e_sum a n + a n = _
      rw [ih (by omega) (fun i p q => k i p (by omega)), k n (by omega) (by omega)]; omega
theorem e_sum_drop {a : Nat → Int} {p : Nat} : ∀ {q : Nat}, (∀ i, i < p → a i = 0) → e_sum a (p + q) = e_sum (fun j => a (p + j)) q := by
  intro q
  induction q with
  | zero => intro h; exact e_sum_z h
  | succ q ih => intro h; show e_sum a (p + q) + a (p + q) = e_sum _ q + a (p + q); rw [ih h]
theorem e_cnt_sum {f : Nat → Bool} : ∀ {n : Nat}, (e_cnt f n : Int) = e_sum (fun i => if f i = true then 1 else 0) n := by
  intro n
  induction n with
  | zero => rfl
  | succ n ih =>
    show ((e_cnt f n + (if f n = true then 1 else 0) : Nat) : Int) = e_sum _ n + (if f n = true then 1 else 0)
    rw [← ih]
    split <;> omega
set_option maxRecDepth 100000 in
theorem q_nArcs_P {g : z_St} (hB : q_RB g) {beam : Int} : (e_cnt (q_P3 g beam) 1445 : Int) = q_nArcs g beam := by
  have hw1 := hB.2.2.2.2.1.1
  have hf1 := hB.1.1
  rw [e_cnt_sum, show (1445 : Nat) = 85 * 17 from rfl, e_sum_block, e_sum_cut (m := (g 168 2).toNat) (by omega) (fun f h1 h2 => e_sum_z fun j hj => by
    rw [if_neg]
    intro h
    have := q_P3_iff.mp h
    omega)]
  unfold q_nArcs
  refine e_sum_congr fun f hf => ?_
  rw [show (85 : Nat) = 5 * 17 from rfl, e_sum_block, e_sum_cut (m := (f + 1) + ((g 168 2).toNat - f)) (by omega) (fun t h1 h2 => e_sum_z fun w hw => by
    rw [if_neg]
    intro h
    have := q_P3_iff.mp h
    omega), e_sum_drop (fun t ht => e_sum_z fun w hw => by
    rw [if_neg]
    intro h
    have := q_P3_iff.mp h
    omega)]
  refine e_sum_congr fun k hk => ?_
  rw [e_sum_cut (m := (g 168 18).toNat) (by omega) (fun w h1 h2 => by
    rw [if_neg]
    intro h
    have := q_P3_iff.mp h
    omega)]
  refine e_sum_congr fun w hw => ?_
  have hq := q_one_bd (g := g) (beam := beam) (w := w) (f := f) (t := f + 1 + k)
  have e1 : (5 * 17 * f + (5 * (f + 1 + k) + w)) % 5 = w := by omega
  have e2 : (5 * 17 * f + (5 * (f + 1 + k) + w)) / 85 = f := by omega
  have e3 : (5 * 17 * f + (5 * (f + 1 + k) + w)) / 5 % 17 = f + 1 + k := by omega
  by_cases h : q_P3 g beam (5 * 17 * f + (5 * (f + 1 + k) + w)) = true
  · rw [if_pos h]
    have := (q_P3_iff.mp h).2.2.2
    rw [e1, e2, e3] at this
    exact this.symm
  · rw [if_neg h]
    by_cases h1 : q_one g beam w f (f + 1 + k) = 1
    · exfalso
      apply h
      rw [q_P3_iff, e1, e2, e3]
      exact ⟨by omega, by omega, by omega, h1⟩
    · omega
-- the class's tellWithin
theorem s_tell_33 {g st : z_St} (hB : q_RB g) (h : q_LC g st) {beam arc what : Int} (hb : z64 beam) (ha : z32 arc) {f t : Nat} (hf : f < t) (ht : t ≤ g 168 2) {p : Int} (hp : p = (e_cnt (q_P3 g beam) (85 * f + 5 * t) : Int)) (hpa : p ≤ arc) :
    q_ok (z_iter z_F (fun q9 : (Int × Int) => J_X3_tellWithin_b33 beam arc what f t q9.1 q9.2 st) (p, 0)) (fun r => match r with
      | .inl p' => p' = (e_cnt (q_P3 g beam) (85 * f + 5 * (t + 1)) : Int) ∧ p' ≤ arc
      | .inr w => ∃ w' : Nat, w = w' ∧ w' < 5 ∧ q_arcAt g beam arc (85 * f + 5 * t + w')) := by
  have hw1 := hB.2.2.2.2.1.1
  have hf1 := hB.1.1
  have ha2 : -2147483648 ≤ arc ∧ arc ≤ 2147483647 := ha
  refine q_loop (fun q => ∃ w : Nat, q.2 = (w : Int) ∧ w ≤ (g 168 18).toNat ∧ q.1 = (e_cnt (q_P3 g beam) (85 * f + 5 * t + w) : Int) ∧ q.1 ≤ arc) (fun q => (6 - q.2).toNat) ⟨0, rfl, by omega, hp, hpa⟩ (by show (6 - (0 : Int)).toNat < _; decide) ?_
  rintro ⟨u, v⟩ ⟨w, i1, i2, i3, i4⟩
  dsimp only at i1 i3 i4
  subst i1
  simp only [J_X3_tellWithin_b33, J_X3_tellWithin_115, q_g, q_b, q_let, q_ite, q_some, z32, z64, true_or, or_true, true_and, and_true]
  rw [h.1.1]
  refine ⟨by omega, fun hlt => ?_, fun hge => ?_⟩
  · have hq := q_one_bd (g := g) (beam := beam) (w := w) (f := f) (t := t)
    have e1 : (85 * f + 5 * t + w) % 5 = w := by omega
    have e2 : (85 * f + 5 * t + w) / 85 = f := by omega
    have e3 : (85 * f + 5 * t + w) / 5 % 17 = t := by omega
    have hP : q_P3 g beam (85 * f + 5 * t + w) = true ↔ q_one g beam w f t = 1 := by
      rw [q_P3_iff, e1, e2, e3]
      exact ⟨fun k => k.2.2.2, fun k => ⟨by omega, by omega, by omega, k⟩⟩
    refine q_eq (s_X3_isWithin hB h hb (w := w) (f := f) (t := t) (by omega) hf ht) ?_
    refine ⟨by omega, fun h0 => ⟨⟨w + 1, by omega, by omega, ?_, i4⟩, by omega⟩, fun h0 => ⟨by omega, fun h1 => ?_, fun h1 => ⟨⟨w + 1, by omega, by omega, ?_, by omega⟩, by omega⟩⟩⟩
    · rw [i3, show 85 * f + 5 * t + (w + 1) = 85 * f + 5 * t + w + 1 by omega, e_cnt_s0 (fun k => by have := hP.mp k; omega)]
    · refine ⟨w, rfl, by omega, by omega, hP.mpr (by omega), by omega⟩
    · rw [i3, show 85 * f + 5 * t + (w + 1) = 85 * f + 5 * t + w + 1 by omega, e_cnt_s (hP.mpr (by omega))]
      omega
  · refine ⟨?_, i4⟩
    rw [i3, e_cnt_skip (a := 85 * f + 5 * t + w) (b := 85 * f + 5 * (t + 1)) (by omega) (fun i p q => q_P3_no (by omega))]
theorem s_tell_21 {g st : z_St} (hB : q_RB g) (h : q_LC g st) {beam arc what : Int} (hb : z64 beam) (ha : z32 arc) {f : Nat} (hf : f < g 168 2) {p : Int} (hp : p = (e_cnt (q_P3 g beam) (85 * f) : Int)) (hpa : p ≤ arc) :
    q_ok (z_iter z_F (fun q9 : (Int × Int) => J_X3_tellWithin_b21 beam arc what f q9.1 q9.2 st) (p, (f : Int) + 1)) (fun r => match r with
      | .inl p' => p' = (e_cnt (q_P3 g beam) (85 * (f + 1)) : Int) ∧ p' ≤ arc
      | .inr y => ∃ t' w' : Nat, y = ((t' : Int), (w' : Int)) ∧ w' < 5 ∧ t' < 17 ∧ q_arcAt g beam arc (85 * f + 5 * t' + w')) := by
  have hw1 := hB.2.2.2.2.1.1
  have hf1 := hB.1.1
  refine q_loop (fun q => ∃ t : Nat, q.2 = (t : Int) ∧ f < t ∧ t ≤ (g 168 2).toNat + 1 ∧ q.1 = (e_cnt (q_P3 g beam) (85 * f + 5 * t) : Int) ∧ q.1 ≤ arc) (fun q => (18 - q.2).toNat) ⟨f + 1, by show (f : Int) + 1 = _; omega, by omega, by omega, ?_, hpa⟩ (by show (18 - ((f : Int) + 1)).toNat < _; omega) ?_
  · show p = _
    rw [hp, e_cnt_skip (a := 85 * f) (b := 85 * f + 5 * (f + 1)) (by omega) (fun i p q => q_P3_no (by omega))]
  rintro ⟨u, v⟩ ⟨t, i1, i2, i3, i4, i5⟩
  dsimp only at i1 i4 i5
  subst i1
  simp only [J_X3_tellWithin_b21, q_g, q_b, q_let, q_ite, q_some, z32, z64, true_or, or_true, true_and, and_true]
  rw [h.1.2]
  refine ⟨by omega, fun hx => ?_, fun hx => ?_⟩
  · refine ⟨?_, i5⟩
    rw [i4, e_cnt_skip (a := 85 * f + 5 * t) (b := 85 * (f + 1)) (by omega) (fun i p q => q_P3_no (by omega))]
  · refine q_mono (s_tell_33 hB h hb ha (what := what) i2 (by omega) i4 i5) ?_
    intro r hr
    cases r with
    | inl p' => exact ⟨_, rfl, ⟨t + 1, by omega, by omega, by omega, hr.1, hr.2⟩, by omega⟩
    | inr w =>
      obtain ⟨w', rfl, h1, h2⟩ := hr
      exact ⟨_, rfl, t, w', rfl, h1, by omega, h2⟩
theorem s_X3_tellWithin {g st : z_St} (hB : q_RB g) (h : q_LC g st) {beam arc what : Int} (hb : z64 beam) (ha : z32 arc) (ha0 : 0 ≤ arc) (hw : 0 ≤ what ∧ what ≤ 3) {i : Nat} (hi : q_arcAt g beam arc i) : J_X3_tellWithin beam arc what st = some (q_tell g what i) := by
  have hw1 := hB.2.2.2.2.1.1
  have hf1 := hB.1.1
  refine q_of ?_
  simp only [J_X3_tellWithin, q_g, q_b, q_let, q_ite, q_some, z32, z64, true_or, or_true, true_and, and_true]
  refine q_mono (P := fun r => match r with | .inl _ => False | .inr y => ∃ f t w : Nat, y = ((f : Int), (t : Int), (w : Int)) ∧ w < 5 ∧ t < 17 ∧ q_arcAt g beam arc (85 * f + 5 * t + w)) ?_ ?_
  · refine q_loop (fun q => ∃ f : Nat, q.2 = (f : Int) ∧ f ≤ (g 168 2).toNat ∧ q.1 = (e_cnt (q_P3 g beam) (85 * f) : Int) ∧ q.1 ≤ arc) (fun q => (18 - q.2).toNat) ⟨0, rfl, by omega, rfl, ha0⟩ (by show (18 - (0 : Int)).toNat < _; decide) ?_
    rintro ⟨u, v⟩ ⟨f, i1, i2, i3, i4⟩
    dsimp only at i1 i3 i4
    subst i1
    simp only [J_X3_tellWithin_b6, q_g, q_b, q_let, q_ite, q_some, z32, z64, true_or, or_true, true_and, and_true]
    rw [h.1.2]
    refine ⟨by omega, fun hx => ?_, fun hx => ?_⟩
    · refine q_mono (s_tell_21 hB h hb ha (what := what) (f := f) (by omega) i3 i4) ?_
      intro r hr
      cases r with
      | inl p' => exact ⟨_, rfl, ⟨f + 1, by omega, by omega, hr.1, hr.2⟩, by omega⟩
      | inr y =>
        obtain ⟨t', w', rfl, h1, h2, h3⟩ := hr
        exact ⟨_, rfl, f, t', w', rfl, h1, h2, h3⟩
    · have e : f = (g 168 2).toNat := by omega
      have h9 := e_cnt_skip (f := q_P3 g beam) (a := 85 * f) (b := 1445) (by omega) (fun i p q => q_P3_no (by omega))
      have h8 := e_cnt_le2 (f := q_P3 g beam) (a := i + 1) (b := 1445) hi.1
      rw [e_cnt_s hi.2.1] at h8
      have h7 := hi.2.2
      omega
  · intro r hr
    cases r with
    | inl u => exact absurd hr id
    | inr y =>
      obtain ⟨f, t, w, rfl, h1, h2, h3⟩ := hr
      have e := q_arcAt_uniq hi h3
      have hP := q_P3_iff.mp hi.2.1
      have e1 : (85 * f + 5 * t + w) % 5 = w := by omega
      have e2 : (85 * f + 5 * t + w) / 85 = f := by omega
      have e3 : (85 * f + 5 * t + w) / 5 % 17 = t := by omega
      rw [e, e1, e2, e3] at hP
      obtain ⟨x, hx⟩ := q_one_some hP.2.2.2
      have hsl := h.2 w f t (by omega) (by omega) (by omega) trivial
      rw [hx, e_I_some] at hsl
      unfold q_tell
      rw [e, e1, e2, e3, hx, e_I_some]
      simp only [J_X3_tellWithin_111, q_g, q_b, q_let, q_ite, q_some, z32, z64, true_or, or_true, true_and, and_true]
      refine ⟨by omega, fun k => ⟨by omega, by rw [if_pos k]⟩, fun k => ⟨by omega, fun k2 => ⟨by omega, by rw [if_neg k, if_pos k2]⟩, fun k2 => ⟨by omega, fun k3 => ⟨by omega, by rw [if_neg k, if_neg k2, if_pos k3]⟩, fun k3 => q_eq s_X3_arcAt ⟨by omega, by rw [if_neg k, if_neg k2, if_neg k3]; exact hsl⟩⟩⟩⟩
