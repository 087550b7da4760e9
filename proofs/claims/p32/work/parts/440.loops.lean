-- LOOPS THAT COUNT UP
theorem q_fold {B : Int × Int → Option ((Int × Int) ⊕ Int)} (a : Nat → Int) (lo : Int) (n : Nat) (hn : n < 900000) (hs : ∀ k : Nat, k < n → B (a k, lo + k) = some (.inl (a (k + 1), lo + k + 1))) (he : B (a n, lo + n) = some (.inr (a n))) : z_iter z_F B (a 0, lo) = some (a n) := by
  refine q_of ?_
  refine q_loop (fun q => ∃ k : Nat, k ≤ n ∧ q = (a k, lo + k)) (fun q => (lo + n - q.2).toNat) ⟨0, Nat.zero_le _, by rw [show lo + ((0 : Nat) : Int) = lo by omega]⟩ (by show (lo + (n : Int) - lo).toNat < _; omega) ?_
  rintro q ⟨k, hk, rfl⟩
  by_cases h : k < n
  · refine ⟨_, hs k h, ⟨k + 1, h, by rw [show lo + (k : Int) + 1 = lo + ((k + 1 : Nat) : Int) by omega]⟩, ?_⟩
    show (lo + (n : Int) - (lo + k + 1)).toNat < (lo + (n : Int) - (lo + k)).toNat
    omega
  · have : k = n := by omega
    subst this
    exact ⟨_, he, rfl⟩
/-- the least of G, beside X -/
theorem q_mins {B : Int × Int → Option ((Int × Int) ⊕ Int)} {K : Int} (X : Option Int) (G : Nat → Option Int) (lo : Int) (n : Nat) (hn : n < 900000) (hs : ∀ k : Nat, k < n → B (e_I K (e_min X (e_mins G k)), lo + k) = some (.inl (e_I K (e_min (e_min X (e_mins G k)) (G k)), lo + k + 1))) (he : ∀ x : Int, B (x, lo + n) = some (.inr x)) : z_iter z_F B (e_I K X, lo) = some (e_I K (e_min X (e_mins G n))) := by
  have h := q_fold (B := B) (fun k => e_I K (e_min X (e_mins G k))) lo n hn (fun k hk => by
    rw [hs k hk, e_min_assoc]; rfl) (he _)
  have e : e_I K (e_min X (e_mins G 0)) = e_I K X := by show e_I K (e_min X none) = _; rw [e_min_none]
  rw [e] at h
  exact h
theorem q_for {α β : Type} {B : Int × α → Option ((Int × α) ⊕ β)} {P : β → Prop} {s : α} (I : Nat → α → Prop) (lo : Int) (n : Nat) (hn : n < 900000) (h0 : I 0 s) (hs : ∀ (k : Nat) (s : α), k < n → I k s → q_ok (B (lo + k, s)) (fun r => ∃ s', r = .inl (lo + k + 1, s') ∧ I (k + 1) s')) (he : ∀ s : α, I n s → q_ok (B (lo + n, s)) (fun r => ∃ y, r = .inr y ∧ P y)) : q_ok (z_iter z_F B (lo, s)) P := by
  refine q_loop (fun q => ∃ k : Nat, k ≤ n ∧ q.1 = lo + k ∧ I k q.2) (fun q => (lo + n - q.1).toNat) ⟨0, Nat.zero_le _, by show lo = _; omega, h0⟩ (by show (lo + (n : Int) - lo).toNat < _; omega) ?_
  rintro ⟨v, s⟩ ⟨k, hk, hv, hI⟩
  dsimp only at hv hI
  subst hv
  by_cases h : k < n
  · refine q_mono (hs k s h hI) ?_
    rintro r ⟨s', rfl, hI'⟩
    refine ⟨⟨k + 1, h, ?_, hI'⟩, ?_⟩
    · show lo + (k : Int) + 1 = _; omega
    · show (lo + (n : Int) - (lo + k + 1)).toNat < (lo + (n : Int) - (lo + k)).toNat
      omega
  · have : k = n := by omega
    subst this
    refine q_mono (he s hI) ?_
    rintro r ⟨y, rfl, hy⟩
    exact hy
theorem q_mins0 {B : Int × Int → Option ((Int × Int) ⊕ Int)} {K : Int} (X : Option Int) (G : Nat → Option Int) (n : Nat) (hn : n < 900000) (hs : ∀ k : Nat, k < n → B (e_I K (e_min X (e_mins G k)), (k : Int)) = some (.inl (e_I K (e_min (e_min X (e_mins G k)) (G k)), (k : Int) + 1))) (he : ∀ x : Int, B (x, (n : Int)) = some (.inr x)) : z_iter z_F B (e_I K X, 0) = some (e_I K (e_min X (e_mins G n))) :=
  q_mins X G 0 n hn (fun k hk => by rw [Int.zero_add]; exact hs k hk) (fun x => by rw [Int.zero_add]; exact he x)
theorem q_fold0 {B : Int × Int → Option ((Int × Int) ⊕ Int)} (a : Nat → Int) (n : Nat) (hn : n < 900000) (hs : ∀ k : Nat, k < n → B (a k, (k : Int)) = some (.inl (a (k + 1), (k : Int) + 1))) (he : B (a n, (n : Int)) = some (.inr (a n))) : z_iter z_F B (a 0, 0) = some (a n) :=
  q_fold a 0 n hn (fun k hk => by rw [Int.zero_add]; exact hs k hk) (by rw [Int.zero_add]; exact he)
theorem q_for0 {α β : Type} {B : Int × α → Option ((Int × α) ⊕ β)} {P : β → Prop} {s : α} (I : Nat → α → Prop) (n : Nat) (hn : n < 900000) (h0 : I 0 s) (hs : ∀ (k : Nat) (s : α), k < n → I k s → q_ok (B ((k : Int), s)) (fun r => ∃ s', r = .inl ((k : Int) + 1, s') ∧ I (k + 1) s')) (he : ∀ s : α, I n s → q_ok (B ((n : Int), s)) (fun r => ∃ y, r = .inr y ∧ P y)) : q_ok (z_iter z_F B (0, s)) P :=
  q_for I 0 n hn h0 (fun k s hk hI => by rw [Int.zero_add]; exact hs k s hk hI) (fun s hI => by rw [Int.zero_add]; exact he s hI)
theorem e_mins_shift {F : Nat → Option Int} {n : Nat} (h : F 0 = none) : e_mins F n = e_mins (fun k => F (1 + k)) (n - 1) := by
  refine e_le_antisymm ?_ ?_
  · exact e_le_mins fun i hi => e_mins_le (f := F) (by omega)
  · refine e_le_mins fun i hi => ?_
    by_cases e : i = 0
    · subst e; rw [h]; exact fun y hy => nomatch hy
    · have := e_mins_le (f := fun k => F (1 + k)) (i := i - 1) (n := n - 1) (by omega)
      rw [show 1 + (i - 1) = i by omega] at this
      exact this
theorem e_mins_swap {f : Nat → Nat → Option Int} {n m : Nat} : e_mins (fun i => e_mins (fun j => f i j) m) n = e_mins (fun j => e_mins (fun i => f i j) n) m := by
  refine e_le_antisymm ?_ ?_
  · refine e_le_mins fun j hj => e_le_mins fun i hi => ?_
    exact e_le_trans (e_mins_le (f := fun i => e_mins (fun j => f i j) m) hi) (e_mins_le (f := fun j => f i j) hj)
  · refine e_le_mins fun i hi => e_le_mins fun j hj => ?_
    exact e_le_trans (e_mins_le (f := fun j => e_mins (fun i => f i j) n) hj) (e_mins_le (f := fun i => f i j) hi)
theorem e_acc3 {K B C D d : Int} {a b c : Option Int} (ha : e_bd B a) (hb : e_bd C b) (hc : e_bd D c) (hd : 0 ≤ d ∧ d ≤ 19800000) (hK : 0 ≤ K) (hB : B < K) (hC : C < K) (hD : D < K) (hCD : C + D + 19800000 < K) : min (e_I K a) (e_I K b + e_I K c + d) = e_I K (e_min a (e_add (e_add b c) (some d))) := by
  have h1 := e_I_le ha hK hB
  have h2 := e_I_le hb hK hC
  have h3 := e_I_le hc hK hD
  cases b with
  | none =>
    show min (e_I K a) (K + e_I K c + d) = e_I K (e_min a none)
    rw [e_min_none]; omega
  | some y => cases c with
    | none =>
      show min (e_I K a) (y + K + d) = e_I K (e_min a none)
      have := hb y rfl
      rw [e_min_none]; omega
    | some z =>
      have h4 := hb y rfl
      have h5 := hc z rfl
      cases a with
      | none => show min K (y + z + d) = y + z + d; omega
      | some x => show min x (y + z + d) = if x ≤ y + z + d then x else y + z + d; omega
theorem e_acc2 {K B C d : Int} {a b : Option Int} (ha : e_bd B a) (hb : e_bd C b) (hd : 0 ≤ d ∧ d ≤ 19800000) (hK : 0 < K) (hB : B < K) (hC : C + 19800000 < K) : min (e_I K a) (e_I K b + d) = e_I K (e_min a (e_add b (some d))) := by
  have h := e_acc3 (a := a) (b := b) (c := some 0) (D := 0) ha hb (fun x hx => by cases hx; exact ⟨Int.le_refl _, Int.le_refl _⟩) hd (by omega) hB (by omega) (by omega) (by omega)
  rw [e_I_some, Int.add_zero] at h
  rw [h]
  congr 2
  cases b with
  | none => rfl
  | some x => show e_add (some (x + 0)) _ = _; rw [Int.add_zero]
theorem s_least {x1 x3 : Int} {st : z_St} (h : -9223372036854775808 ≤ x1 ∧ x1 ≤ 9223372036854775807 ∧ -9223372036854775808 ≤ x3 ∧ x3 ≤ 9223372036854775807) : J_X12_least x1 x3 st = some (min x1 x3) := by
  rw [s_X12_least h]; congr 1; omega
-- WHAT IS AHEAD OF AN ARC, WHAT IS BEHIND
def q_ld (g : z_St) : Nat → Nat → Nat → Option Int
  | 0, w, f => if f = 0 then some (q_dear g 5 w) else none
  | o + 1, w, f => e_mins (fun v => e_add (e_mins (fun c => e_add (q_ld g o v c) (q_tab g v c f)) f) (some (q_dear g v w))) (g 168 18).toNat
def q_bf (g : z_St) (o v f : Nat) : Option Int := e_mins (fun c => e_add (q_ld g o v c) (q_tab g v c f)) f
theorem q_ld_succ {g : z_St} {o w f : Nat} : q_ld g (o + 1) w f = e_mins (fun v => e_add (q_bf g o v f) (some (q_dear g v w))) (g 168 18).toNat := rfl
/-- just m WORDS more -/
def q_bh (g : z_St) : Nat → Nat → Nat → Option Int
  | 0, w, t => if (t : Int) = g 168 2 then some (q_dear g w 5) else none
  | m + 1, w, t => e_mins (fun k => e_mins (fun v => e_add (e_add (q_bh g m v (t + 1 + k)) (q_tab g v t ((t + 1 + k : Nat) : Int))) (some (q_dear g w v))) (g 168 18).toNat) ((g 168 2).toNat - t)
/-- at most o WORDS more -/
def q_tr (g : z_St) (o w t : Nat) : Option Int := e_mins (fun m => q_bh g m w t) (o + 1)
/-- the least of all PATHS that have the ARC -/
def q_thr (g : z_St) (w f t : Nat) : Option Int := e_add (e_mins (fun o => e_add (q_ld g o w f) (q_tr g (3 - o) w t)) 4) (q_tab g w f t)
theorem q_dear_w {g : z_St} (hB : q_RB g) {v w : Nat} (hv : v < g 168 18) (hw : w < g 168 18) : (0 ≤ q_dear g v w ∧ q_dear g v w ≤ 19800000) ∧ (0 ≤ q_dear g 5 w ∧ q_dear g 5 w ≤ 19800000) ∧ (0 ≤ q_dear g w 5 ∧ q_dear g w 5 ≤ 19800000) := by
  have hw1 := hB.2.2.2.2.1.1
  exact ⟨q_dear_bd hB.2.2.2.2.2.2 hB.2.2.2.2.2.1 (by omega), q_dear_bd hB.2.2.2.2.2.2 hB.2.2.2.2.2.1 (by omega), q_dear_bd hB.2.2.2.2.2.2 hB.2.2.2.2.2.1 (by omega)⟩
theorem e_bd_some {B x : Int} (h : 0 ≤ x ∧ x ≤ B) : e_bd B (some x) := fun y hy => by cases hy; exact h
theorem q_ld_bd {g : z_St} (hB : q_RB g) : ∀ {o w f : Nat}, w < g 168 18 → f ≤ g 168 2 → e_bd ((o + 1) * 700000000000) (q_ld g o w f) := by
  have hw1 := hB.2.2.2.2.1.1
  intro o
  induction o with
  | zero =>
    intro w f hw hf
    unfold q_ld
    split
    · exact e_bd_some (by have := q_dear_w hB hw hw; omega)
    · exact e_bd_none
  | succ o ih =>
    intro w f hw hf
    rw [q_ld_succ]
    refine e_bd_mins fun v hv => ?_
    have h1 : e_bd ((o + 1) * 700000000000 + 600000010000) (q_bf g o v f) := e_bd_mins fun c hc => e_bd_add (ih (by omega) (by omega)) (q_tab_bd hB (by omega))
    refine e_bd_le ?_ (e_bd_add h1 (e_bd_some (B := 19800000) ?_))
    · rw [Int.natCast_add]; omega
    · have := q_dear_w hB (v := v) (w := w) (by omega) hw; omega
theorem q_bf_bd {g : z_St} (hB : q_RB g) {o w f : Nat} (ho : o ≤ 3) (hw : w < g 168 18) (hf : f ≤ g 168 2) : e_bd 4000000000000 (q_bf g o w f) := by
  have hw1 := hB.2.2.2.2.1.1
  exact e_bd_mins fun c hc => e_bd_le (by omega) (e_bd_add (q_ld_bd hB hw (by omega)) (q_tab_bd hB (by omega)))
theorem q_bh_bd {g : z_St} (hB : q_RB g) : ∀ {m w t : Nat}, w < g 168 18 → t ≤ g 168 2 → e_bd ((m + 1) * 700000000000) (q_bh g m w t) := by
  have hw1 := hB.2.2.2.2.1.1
  intro m
  induction m with
  | zero =>
    intro w t hw ht
    unfold q_bh
    split
    · exact e_bd_some (by have := q_dear_w hB hw hw; omega)
    · exact e_bd_none
  | succ m ih =>
    intro w t hw ht
    unfold q_bh
    refine e_bd_mins fun k hk => e_bd_mins fun v hv => ?_
    refine e_bd_le ?_ (e_bd_add (e_bd_add (ih (by omega) (by omega)) (q_tab_bd hB (by omega))) (e_bd_some (B := 19800000) ?_))
    · rw [Int.natCast_add]; omega
    · have := q_dear_w hB (v := w) (w := v) hw (by omega); omega
theorem q_tr_bd {g : z_St} (hB : q_RB g) {o w t : Nat} (ho : o ≤ 3) (hw : w < g 168 18) (ht : t ≤ g 168 2) : e_bd 2800000000000 (q_tr g o w t) := e_bd_mins fun m hm => e_bd_le (by omega) (q_bh_bd hB hw ht)
theorem q_thr_bd {g : z_St} (hB : q_RB g) {w f t : Nat} (hw : w < g 168 18) (hf : f ≤ g 168 2) (ht : t ≤ g 168 2) : e_bd 10000000000000 (q_thr g w f t) := by
  have hw1 := hB.2.2.2.2.1.1
  refine e_bd_le (by decide) (e_bd_add (B := 5600000000000) (C := 600000010000) (e_bd_mins fun o ho => e_bd_le (by omega) (e_bd_add (q_ld_bd hB hw hf) (q_tr_bd hB (o := 3 - o) (by omega) hw ht))) (q_tab_bd hB (by omega)))
