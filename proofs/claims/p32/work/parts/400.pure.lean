-- PURE: WHAT THE TEXTS J SAY (by hand, wip/pure)
def q_ok {α : Type} (x : Option α) (P : α → Prop) : Prop := ∃ v, x = some v ∧ P v
theorem q_some {α : Type} {v : α} {P : α → Prop} : q_ok (some v) P ↔ P v := ⟨fun ⟨w, h, k⟩ => by cases h; exact k, fun k => ⟨v, rfl, k⟩⟩
theorem q_g {α : Type} {c : Prop} [Decidable c] {x : Option α} {P : α → Prop} : q_ok (z_g c x) P ↔ c ∧ q_ok x P := by
  unfold z_g
  by_cases h : c
  · rw [if_pos h]; exact ⟨fun k => ⟨h, k⟩, fun k => k.2⟩
  · rw [if_neg h]; exact ⟨fun ⟨w, k, _⟩ => (nomatch k), fun k => absurd k.1 h⟩
theorem q_b {α β : Type} {x : Option α} {f : α → Option β} {P : β → Prop} : q_ok (z_b x f) P ↔ q_ok x (fun v => q_ok (f v) P) := by
  constructor
  · rintro ⟨v, h, k⟩
    obtain ⟨u, h1, h2⟩ := z_b_some h
    exact ⟨u, h1, v, h2, k⟩
  · rintro ⟨u, rfl, k⟩
    exact k
theorem q_let {α β : Type} {x : α} {f : α → Option β} {P : β → Prop} : q_ok (z_let x f) P ↔ q_ok (f x) P := Iff.rfl
theorem q_ite {α : Type} {c : Prop} [Decidable c] {x y : Option α} {P : α → Prop} : q_ok (if c then x else y) P ↔ (c → q_ok x P) ∧ (¬ c → q_ok y P) := by
  by_cases h : c
  · rw [if_pos h]; exact ⟨fun k => ⟨fun _ => k, fun q => absurd h q⟩, fun k => k.1 h⟩
  · rw [if_neg h]; exact ⟨fun k => ⟨fun q => absurd q h, fun _ => k⟩, fun k => k.2 h⟩
theorem q_mono {α : Type} {x : Option α} {P Q : α → Prop} (h : q_ok x P) (k : ∀ v, P v → Q v) : q_ok x Q := by
  obtain ⟨v, h1, h2⟩ := h
  exact ⟨v, h1, k v h2⟩
theorem q_iter {σ ρ : Type} {B : σ → Option (σ ⊕ ρ)} {P : ρ → Prop} (Inv : σ → Prop) (μ : σ → Nat) (hs : ∀ s, Inv s → q_ok (B s) (fun r => match r with | .inl s' => Inv s' ∧ μ s' < μ s | .inr x => P x)) : ∀ (n : Nat) (s : σ), Inv s → μ s < n → q_ok (z_iter n B s) P := by
  intro n
  induction n with
  | zero => intro s _ h; exact absurd h (Nat.not_lt_zero _)
  | succ n ih =>
    intro s hI hn
    obtain ⟨r, h1, h2⟩ := hs s hI
    unfold z_iter
    rw [h1]
    cases r with
    | inl s' => exact ih s' h2.1 (Nat.lt_of_lt_of_le h2.2 (Nat.le_of_lt_succ hn))
    | inr x => exact ⟨x, rfl, h2⟩
/-- a loop of at most a million steps, by what falls -/
theorem q_loop {σ ρ : Type} {B : σ → Option (σ ⊕ ρ)} {P : ρ → Prop} {s : σ} (Inv : σ → Prop) (μ : σ → Nat) (h0 : Inv s) (hm : μ s < 1000000) (hs : ∀ s, Inv s → q_ok (B s) (fun r => match r with | .inl s' => Inv s' ∧ μ s' < μ s | .inr x => P x)) : q_ok (z_iter z_F B s) P := q_iter Inv μ hs z_F s h0 hm
theorem q_up_row {st : z_St} {i j v x : Int} (h : x ≠ i) : z_up st i j v x = st x := by
  funext y; exact z_up_n (by omega)
theorem q_up_at {st : z_St} {i j v : Int} {y : Int} : z_up st i j v i y = if y = j then v else st i y := by
  unfold z_up; by_cases h : y = j
  · rw [if_pos ⟨rfl, h⟩, if_pos h]
  · rw [if_neg (fun k => h k.2), if_neg h]
-- whole numbers with none above all
def e_I (K : Int) (o : Option Int) : Int := o.getD K
def e_min (a b : Option Int) : Option Int := match a, b with
  | none, b => b
  | some x, none => some x
  | some x, some y => some (if x ≤ y then x else y)
def e_add (a b : Option Int) : Option Int := match a, b with
  | some x, some y => some (x + y)
  | _, _ => none
def e_le (a b : Option Int) : Prop := ∀ y, b = some y → ∃ x, a = some x ∧ x ≤ y
/-- what there is lies from 0 up to B -/
def e_bd (B : Int) (o : Option Int) : Prop := ∀ x, o = some x → 0 ≤ x ∧ x ≤ B
theorem e_I_none {K : Int} : e_I K none = K := rfl
theorem e_I_some {K x : Int} : e_I K (some x) = x := rfl
theorem e_I_cases {K : Int} (o : Option Int) : (o = none ∧ e_I K o = K) ∨ ∃ x, o = some x ∧ e_I K o = x := by
  cases o with
  | none => exact Or.inl ⟨rfl, rfl⟩
  | some x => exact Or.inr ⟨x, rfl, rfl⟩
theorem e_min_I {K B : Int} {a b : Option Int} (ha : e_bd B a) (hb : e_bd B b) (hK : B < K) : e_I K (e_min a b) = if e_I K a < e_I K b then e_I K a else e_I K b := by
  cases a with
  | none => cases b with
    | none => show K = if K < K then K else K; split <;> rfl
    | some y => have := hb y rfl; show y = if K < y then K else y; rw [if_neg (by omega)]
  | some x => cases b with
    | none => have := ha x rfl; show x = if x < K then x else K; rw [if_pos (by omega)]
    | some y =>
      show (if x ≤ y then x else y) = if x < y then x else y
      by_cases h : x < y
      · rw [if_pos h, if_pos (by omega)]
      · rw [if_neg h]; split <;> omega
theorem e_bd_min {B : Int} {a b : Option Int} (ha : e_bd B a) (hb : e_bd B b) : e_bd B (e_min a b) := by
  intro x hx
  cases a with
  | none => exact hb x hx
  | some u => cases b with
    | none => exact ha x hx
    | some v =>
      have h1 := ha u rfl
      have h2 := hb v rfl
      have h3 : some (if u ≤ v then u else v) = some x := hx
      have h4 := Option.some.inj h3
      split at h4 <;> omega
theorem e_bd_add {B C : Int} {a b : Option Int} (ha : e_bd B a) (hb : e_bd C b) : e_bd (B + C) (e_add a b) := by
  intro x hx
  cases a with
  | none => cases hx
  | some u => cases b with
    | none => cases hx
    | some v =>
      have h1 := ha u rfl
      have h2 := hb v rfl
      have h3 : some (u + v) = some x := hx
      have h4 := Option.some.inj h3
      omega
theorem e_bd_le {B C : Int} {a : Option Int} (h : B ≤ C) (ha : e_bd B a) : e_bd C a := fun x hx => by have := ha x hx; omega
theorem e_bd_none {B : Int} : e_bd B none := fun x hx => nomatch hx
theorem e_min_none {a : Option Int} : e_min a none = a := by cases a <;> rfl
theorem e_min_comm {a b : Option Int} : e_min a b = e_min b a := by
  cases a <;> cases b <;> simp only [e_min]
  congr 1
  split <;> split <;> omega
theorem e_min_assoc {a b c : Option Int} : e_min (e_min a b) c = e_min a (e_min b c) := by
  cases a <;> cases b <;> cases c <;> simp only [e_min]
  congr 1
  (repeat' split) <;> omega
theorem e_add_min {a b c : Option Int} : e_add a (e_min b c) = e_min (e_add a b) (e_add a c) := by
  cases a <;> cases b <;> cases c <;> simp only [e_min, e_add]
  congr 1
  (repeat' split) <;> omega
theorem e_min_add {a b c : Option Int} : e_add (e_min a b) c = e_min (e_add a c) (e_add b c) := by
  cases a <;> cases b <;> cases c <;> simp only [e_min, e_add]
  congr 1
  (repeat' split) <;> omega
theorem e_add_assoc {a b c : Option Int} : e_add (e_add a b) c = e_add a (e_add b c) := by
  cases a <;> cases b <;> cases c <;> simp only [e_add, Int.add_assoc]
theorem e_add_comm {a b : Option Int} : e_add a b = e_add b a := by
  cases a <;> cases b <;> simp only [e_add, Int.add_comm]
theorem e_le_refl (a : Option Int) : e_le a a := fun y h => ⟨y, h, Int.le_refl _⟩
theorem e_le_trans {a b c : Option Int} (h : e_le a b) (k : e_le b c) : e_le a c := fun y hy => by
  obtain ⟨x, hx, h1⟩ := k y hy
  obtain ⟨z, hz, h2⟩ := h x hx
  exact ⟨z, hz, Int.le_trans h2 h1⟩
theorem e_le_antisymm {a b : Option Int} (h : e_le a b) (k : e_le b a) : a = b := by
  cases a with
  | none => cases b with
    | none => rfl
    | some y => obtain ⟨x, hx, -⟩ := h y rfl; cases hx
  | some x => cases b with
    | none => obtain ⟨z, hz, -⟩ := k x rfl; cases hz
    | some y =>
      obtain ⟨u, hu, h1⟩ := h y rfl
      obtain ⟨v, hv, h2⟩ := k x rfl
      cases hu; cases hv
      rw [Int.le_antisymm h1 h2]
theorem e_min_le_l {a b : Option Int} : e_le (e_min a b) a := fun y hy => by
  subst hy
  cases b with
  | none => exact ⟨y, rfl, Int.le_refl _⟩
  | some z => exact ⟨_, rfl, by split <;> omega⟩
theorem e_min_le_r {a b : Option Int} : e_le (e_min a b) b := by rw [e_min_comm]; exact e_min_le_l
theorem e_le_min {a b c : Option Int} (h : e_le c a) (k : e_le c b) : e_le c (e_min a b) := fun y hy => by
  cases a with
  | none => exact k y hy
  | some u => cases b with
    | none => exact h y hy
    | some v =>
      have h3 : some (if u ≤ v then u else v) = some y := hy
      have h4 := Option.some.inj h3
      obtain ⟨p, hp, h1⟩ := h u rfl
      obtain ⟨q, hq, h2⟩ := k v rfl
      rw [hp] at hq
      cases hq
      exact ⟨p, hp, by split at h4 <;> omega⟩
theorem e_min_eq {a b : Option Int} : e_min a b = a ∨ e_min a b = b := by
  cases a with
  | none => exact Or.inr rfl
  | some x => cases b with
    | none => exact Or.inl rfl
    | some y =>
      show some (if x ≤ y then x else y) = _ ∨ some (if x ≤ y then x else y) = _
      split
      · exact Or.inl rfl
      · exact Or.inr rfl
theorem e_add_le {a b c d : Option Int} (h : e_le a b) (k : e_le c d) : e_le (e_add a c) (e_add b d) := fun y hy => by
  cases b with
  | none => cases hy
  | some u => cases d with
    | none => cases hy
    | some v =>
      obtain ⟨p, hp, h1⟩ := h u rfl
      obtain ⟨q, hq, h2⟩ := k v rfl
      subst hp hq
      have h4 : some (u + v) = some y := hy
      have h5 := Option.some.inj h4
      exact ⟨p + q, rfl, by omega⟩
/-- the least of f 0 .. f (n - 1) -/
def e_mins (f : Nat → Option Int) : Nat → Option Int
  | 0 => none
  | n + 1 => e_min (e_mins f n) (f n)
theorem e_mins_le {f : Nat → Option Int} : ∀ {n i : Nat}, i < n → e_le (e_mins f n) (f i) := by
  intro n
  induction n with
  | zero => intro i h; omega
  | succ n ih =>
    intro i h
    by_cases e : i = n
    · subst e; exact e_min_le_r
    · exact e_le_trans e_min_le_l (ih (by omega))
theorem e_le_mins {f : Nat → Option Int} {c : Option Int} : ∀ {n : Nat}, (∀ i, i < n → e_le c (f i)) → e_le c (e_mins f n) := by
  intro n
  induction n with
  | zero => intro _ y hy; cases hy
  | succ n ih => intro h; exact e_le_min (ih fun i hi => h i (by omega)) (h n (by omega))
theorem e_mins_eq {f : Nat → Option Int} : ∀ {n : Nat} {x : Int}, e_mins f n = some x → ∃ i, i < n ∧ f i = some x := by
  intro n
  induction n with
  | zero => intro x h; cases h
  | succ n ih =>
    intro x h
    have h : e_min (e_mins f n) (f n) = some x := h
    rcases e_min_eq (a := e_mins f n) (b := f n) with e | e
    · rw [e] at h
      obtain ⟨i, hi, k⟩ := ih h
      exact ⟨i, by omega, k⟩
    · rw [e] at h
      exact ⟨n, by omega, h⟩
theorem e_mins_congr {f g : Nat → Option Int} : ∀ {n : Nat}, (∀ i, i < n → f i = g i) → e_mins f n = e_mins g n := by
  intro n
  induction n with
  | zero => intro _; rfl
  | succ n ih => intro h; show e_min _ _ = e_min _ _; rw [ih fun i hi => h i (by omega), h n (by omega)]
theorem e_add_mins {a : Option Int} {f : Nat → Option Int} : ∀ {n : Nat}, e_add a (e_mins f n) = e_mins (fun i => e_add a (f i)) n := by
  intro n
  induction n with
  | zero => cases a <;> rfl
  | succ n ih => show e_add a (e_min _ _) = e_min _ _; rw [e_add_min, ih]
theorem e_mins_add {a : Option Int} {f : Nat → Option Int} {n : Nat} : e_add (e_mins f n) a = e_mins (fun i => e_add (f i) a) n := by
  rw [e_add_comm, e_add_mins]
  exact e_mins_congr fun i _ => e_add_comm
theorem e_bd_mins {B : Int} {f : Nat → Option Int} {n : Nat} (h : ∀ i, i < n → e_bd B (f i)) : e_bd B (e_mins f n) := fun x hx => by
  obtain ⟨i, hi, k⟩ := e_mins_eq hx
  exact h i hi x k
theorem q_eq {α : Type} {x : Option α} {v : α} {P : α → Prop} (h : x = some v) (k : P v) : q_ok x P := ⟨v, h, k⟩
theorem q_of {α : Type} {x : Option α} {w : α} (h : q_ok x (fun v => v = w)) : x = some w := by
  obtain ⟨v, h1, rfl⟩ := h
  exact h1
