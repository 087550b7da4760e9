-- ARCS COUNTED
def e_sum (a : Nat → Int) : Nat → Int
  | 0 => 0
  | n + 1 => e_sum a n + a n
theorem e_sum_congr {f g : Nat → Int} : ∀ {n : Nat}, (∀ i, i < n → f i = g i) → e_sum f n = e_sum g n := by
  intro n
  induction n with
  | zero => intro _; rfl
  | succ n ih => intro h; show e_sum f n + f n = e_sum g n + g n; rw [ih fun i hi => h i (by omega), h n (by omega)]
theorem e_sum_add {f g : Nat → Int} : ∀ {n : Nat}, e_sum (fun i => f i + g i) n = e_sum f n + e_sum g n := by
  intro n
  induction n with
  | zero => rfl
  | succ n ih => show e_sum _ n + (f n + g n) = (e_sum f n + f n) + (e_sum g n + g n); rw [ih]; omega
theorem e_sum_zero : ∀ {n : Nat}, e_sum (fun _ => 0) n = 0 := by
  intro n
  induction n with
  | zero => rfl
  | succ n ih => show e_sum _ n + 0 = 0; rw [ih]; rfl
theorem e_sum_swap {f : Nat → Nat → Int} {m : Nat} : ∀ {n : Nat}, e_sum (fun i => e_sum (fun j => f i j) m) n = e_sum (fun j => e_sum (fun i => f i j) n) m := by
  intro n
  induction n with
  | zero => exact e_sum_zero.symm
  | succ n ih =>
    show e_sum _ n + e_sum (fun j => f n j) m = _
    rw [ih, ← e_sum_add]; rfl
theorem e_sum_bd {f : Nat → Int} {C : Int} : ∀ {n : Nat}, (∀ i, i < n → 0 ≤ f i ∧ f i ≤ C) → 0 ≤ e_sum f n ∧ e_sum f n ≤ n * C := by
  intro n
  induction n with
  | zero => intro _; exact ⟨Int.le_refl _, by rw [show ((0 : Nat) : Int) * C = 0 from Int.zero_mul C]; exact Int.le_refl _⟩
  | succ n ih =>
    intro h
    have h1 := ih fun i hi => h i (by omega)
    have h2 := h n (by omega)
    show 0 ≤ e_sum f n + f n ∧ e_sum f n + f n ≤ _
    rw [show ((n + 1 : Nat) : Int) = (n : Int) + 1 by omega, Int.add_mul, Int.one_mul]
    omega
theorem q_sums {B : Int × Int → Option ((Int × Int) ⊕ Int)} (X : Int) (G : Nat → Int) (lo : Int) (n : Nat) (hn : n < 900000) (hs : ∀ k : Nat, k < n → B (X + e_sum G k, lo + k) = some (.inl (X + e_sum G k + G k, lo + k + 1))) (he : ∀ x : Int, B (x, lo + n) = some (.inr x)) : z_iter z_F B (X, lo) = some (X + e_sum G n) := by
  have h := q_fold (B := B) (fun k => X + e_sum G k) lo n hn (fun k hk => by
    rw [hs k hk, Int.add_assoc]; rfl) (he _)
  have e : X + e_sum G 0 = X := Int.add_zero X
  rw [e] at h
  exact h
theorem q_sums0 {B : Int × Int → Option ((Int × Int) ⊕ Int)} (X : Int) (G : Nat → Int) (n : Nat) (hn : n < 900000) (hs : ∀ k : Nat, k < n → B (X + e_sum G k, (k : Int)) = some (.inl (X + e_sum G k + G k, (k : Int) + 1))) (he : ∀ x : Int, B (x, (n : Int)) = some (.inr x)) : z_iter z_F B (X, 0) = some (X + e_sum G n) :=
  q_sums X G 0 n hn (fun k hk => by rw [Int.zero_add]; exact hs k hk) (fun x => by rw [Int.zero_add]; exact he x)
/-- 1 if the ARC is within the BEAM -/
def q_one (g : z_St) (beam : Int) (w f t : Nat) : Int := match q_sl g w f t with
  | none => 0
  | some x => if x ≤ beam then 1 else 0
theorem q_one_bd {g : z_St} {beam : Int} {w f t : Nat} : 0 ≤ q_one g beam w f t ∧ q_one g beam w f t ≤ 1 := by
  unfold q_one
  split
  · decide
  · split <;> decide
theorem s_X3_isWithin {g st : z_St} (hB : q_RB g) (h : q_LC g st) {beam : Int} (hb : z64 beam) {w f t : Nat} (hw : w < g 168 18) (hf : f < t) (ht : t ≤ g 168 2) : J_X3_isWithin beam w f t st = some (q_one g beam w f t) := by
  have hw1 := hB.2.2.2.2.1.1
  have hf1 := hB.1.1
  have hs := q_sl_bd hB hw hf ht
  have hb2 : -9223372036854775808 ≤ beam ∧ beam ≤ 9223372036854775807 := hb
  refine q_of ?_
  simp only [J_X3_isWithin, J_X3_isWithin_35, J_X3_isWithin_36, q_g, q_b, q_let, q_ite, q_some, z32, z64, true_or, or_true, true_and, and_true]
  refine q_eq s_X3_arcAt ?_
  rw [h.2 w f t hw hf ht trivial]
  unfold q_one
  cases hq : q_sl g w f t with
  | none =>
    rw [e_I_none]
    exact ⟨by omega, by decide, fun h9 => absurd h9 (by decide), fun _ => rfl⟩
  | some x =>
    have := hs x hq
    rw [e_I_some]
    dsimp only
    refine ⟨by omega, by omega, fun _ => ⟨by omega, fun h1 => by rw [if_neg (by omega)], fun h1 => by rw [if_pos (by omega)]⟩, fun h9 => by omega⟩
theorem s_X12_isArc {g st : z_St} (hB : q_RB g) (h : q_slOK g (fun _ _ _ => True) st) {beam : Int} (hb : z64 beam) {w f t : Nat} (hw : w < g 168 18) (hf : f < t) (ht : t ≤ g 168 2) : J_X12_isArc w f t beam st = some (q_one g beam w f t) := by
  have hw1 := hB.2.2.2.2.1.1
  have hf1 := hB.1.1
  have hs := q_sl_bd hB hw hf ht
  have hb2 : -9223372036854775808 ≤ beam ∧ beam ≤ 9223372036854775807 := hb
  refine q_of ?_
  simp only [J_X12_isArc, J_X12_isArc_41, J_X12_isArc_42, q_g, q_b, q_let, q_ite, q_some, z32, z64, true_or, or_true, true_and, and_true]
  refine q_eq s_X12_span ?_
  rw [h w f t hw hf ht trivial]
  unfold q_one
  cases hq : q_sl g w f t with
  | none =>
    rw [e_I_none]
    exact ⟨by omega, by decide, fun h9 => absurd h9 (by decide), fun _ => rfl⟩
  | some x =>
    have := hs x hq
    rw [e_I_some]
    dsimp only
    refine ⟨by omega, by omega, fun _ => q_eq s_X12_span ⟨by omega, by rw [h w f t hw hf ht trivial, hq, e_I_some]; omega, fun h1 => ?_, fun h1 => ?_⟩, fun h9 => by omega⟩
    · rw [h w f t hw hf ht trivial, hq, e_I_some] at h1
      rw [if_neg (by omega)]
    · rw [h w f t hw hf ht trivial, hq, e_I_some] at h1
      rw [if_pos (by omega)]
/-- so many ARCS are within the BEAM -/
def q_nArcs (g : z_St) (beam : Int) : Int := e_sum (fun f => e_sum (fun k => e_sum (fun w => q_one g beam w f (f + 1 + k)) (g 168 18).toNat) ((g 168 2).toNat - f)) (g 168 2).toNat
theorem q_nArcs_sw {g : z_St} {beam : Int} : e_sum (fun w => e_sum (fun f => e_sum (fun k => q_one g beam w f (f + 1 + k)) ((g 168 2).toNat - f)) (g 168 2).toNat) (g 168 18).toNat = q_nArcs g beam := by
  rw [e_sum_swap]
  exact e_sum_congr fun f hf => e_sum_swap
theorem s_X3_countWithin {g st : z_St} (hB : q_RB g) (h : q_LC g st) {beam : Int} (hb : z64 beam) : J_X3_countWithin beam st = some (q_nArcs g beam) := by
  have hw1 := hB.2.2.2.2.1.1
  have hf1 := hB.1.1
  refine q_of ?_
  simp only [J_X3_countWithin, q_g, q_b, q_let, q_ite, q_some, z32, z64, true_or, or_true, true_and, and_true]
  refine q_eq (q_sums0 0 (fun f => e_sum (fun k => e_sum (fun w => q_one g beam w f (f + 1 + k)) (g 168 18).toNat) ((g 168 2).toNat - f)) (g 168 2).toNat (by omega) (fun f hf => ?_) (fun x => ?_)) (Int.zero_add _)
  · refine q_of ?_
    simp only [J_X3_countWithin_b5, q_g, q_b, q_let, q_ite, q_some, z32, z64, true_or, or_true, true_and, and_true]
    rw [h.1.2]
    refine ⟨by omega, fun _ => ?_, fun h9 => by omega⟩
    refine q_eq (q_sums _ (fun k => e_sum (fun w => q_one g beam w f (f + 1 + k)) (g 168 18).toNat) ((f : Int) + 1) ((g 168 2).toNat - f) (by omega) (fun k hk => ?_) (fun x => ?_)) rfl
    · refine q_of ?_
      simp only [J_X3_countWithin_b20, q_g, q_b, q_let, q_ite, q_some, z32, z64, true_or, or_true, true_and, and_true]
      rw [h.1.2]
      refine ⟨by omega, fun h9 => by omega, fun _ => ?_⟩
      refine q_eq (q_sums0 _ (fun w => q_one g beam w f (f + 1 + k)) (g 168 18).toNat (by omega) (fun w hw => ?_) (fun x => ?_)) rfl
      · refine q_of ?_
        simp only [J_X3_countWithin_b32, J_X3_countWithin_61, q_g, q_b, q_let, q_ite, q_some, z32, z64, true_or, or_true, true_and, and_true]
        rw [h.1.1]
        refine ⟨by omega, fun _ => ?_, fun h9 => by omega⟩
        have key := s_X3_isWithin hB h hb (w := w) (f := f) (t := f + 1 + k) (by omega) (by omega) (by omega)
        rw [show ((f + 1 + k : Nat) : Int) = (f : Int) + 1 + k by omega] at key
        have hq := q_one_bd (g := g) (beam := beam) (w := w) (f := f) (t := f + 1 + k)
        refine q_eq key ?_
        refine ⟨by omega, fun h0 => by rw [h0], fun h0 => ?_⟩
        rw [show q_one g beam w f (f + 1 + k) = 1 by omega]
      · refine q_of ?_
        simp only [J_X3_countWithin_b32, q_g, q_b, q_let, q_ite, q_some, z32, z64, true_or, or_true, true_and, and_true]
        rw [h.1.1]
        exact ⟨by omega, fun h9 => by omega, fun _ => trivial⟩
    · refine q_of ?_
      simp only [J_X3_countWithin_b20, q_g, q_b, q_let, q_ite, q_some, z32, z64, true_or, or_true, true_and, and_true]
      rw [h.1.2]
      exact ⟨by omega, fun _ => trivial, fun h9 => by omega⟩
  · refine q_of ?_
    simp only [J_X3_countWithin_b5, q_g, q_b, q_let, q_ite, q_some, z32, z64, true_or, or_true, true_and, and_true]
    rw [h.1.2]
    exact ⟨by omega, fun h9 => by omega, fun _ => trivial⟩
/-- so many ARCS that have the FRAME -/
def q_nAround (g : z_St) (beam : Int) (frame : Nat) (only : Int) : Int := e_sum (fun f => e_sum (fun k => e_sum (fun w => if only = -1 ∨ only = w then q_one g beam w f (frame + 1 + k) else 0) (g 168 18).toNat) ((g 168 2).toNat - frame)) (frame + 1)
theorem s_X3_countAround {g st : z_St} (hB : q_RB g) (h : q_LC g st) {beam : Int} (hb : z64 beam) {frame : Nat} {only : Int} (hfr : frame < g 168 2) (ho : -1 ≤ only ∧ only < 5) : J_X3_countAround beam frame only st = some (q_nAround g beam frame only) := by
  have hw1 := hB.2.2.2.2.1.1
  have hf1 := hB.1.1
  refine q_of ?_
  simp only [J_X3_countAround, q_g, q_b, q_let, q_ite, q_some, z32, z64, true_or, or_true, true_and, and_true]
  refine q_eq (q_sums0 0 (fun f => e_sum (fun k => e_sum (fun w => if only = -1 ∨ only = w then q_one g beam w f (frame + 1 + k) else 0) (g 168 18).toNat) ((g 168 2).toNat - frame)) (frame + 1) (by omega) (fun f hf => ?_) (fun x => ?_)) (Int.zero_add _)
  · refine q_of ?_
    simp only [J_X3_countAround_b6, q_g, q_b, q_let, q_ite, q_some, z32, z64, true_or, or_true, true_and, and_true]
    refine ⟨by omega, fun h9 => by omega, fun _ => ?_⟩
    refine q_eq (q_sums _ (fun k => e_sum (fun w => if only = -1 ∨ only = w then q_one g beam w f (frame + 1 + k) else 0) (g 168 18).toNat) ((frame : Int) + 1) ((g 168 2).toNat - frame) (by omega) (fun k hk => ?_) (fun x => ?_)) rfl
    · by_cases hk9 : (frame : Int) + 1 + k ≤ g 168 2
      · refine q_of ?_
        simp only [J_X3_countAround_b17, q_g, q_b, q_let, q_ite, q_some, z32, z64, true_or, or_true, true_and, and_true]
        rw [h.1.2]
        refine ⟨by omega, fun h9 => by omega, fun _ => ?_⟩
        refine q_eq (q_sums0 _ (fun w => if only = -1 ∨ only = w then q_one g beam w f (frame + 1 + k) else 0) (g 168 18).toNat (by omega) (fun w hw => ?_) (fun x => ?_)) rfl
        · have key := s_X3_isWithin hB h hb (w := w) (f := f) (t := frame + 1 + k) (by omega) (by omega) (by omega)
          rw [show ((frame + 1 + k : Nat) : Int) = (frame : Int) + 1 + k by omega] at key
          have hq := q_one_bd (g := g) (beam := beam) (w := w) (f := f) (t := frame + 1 + k)
          have w56 : ∀ (s0 X : Int), (s0 = 0 ∨ s0 = 1) → J_X3_countAround_56 beam frame only X f ((frame : Int) + 1 + k) w s0 st = some (.inl (X + (if s0 = 1 then q_one g beam w f (frame + 1 + k) else 0), (w : Int) + 1)) := by
            intro s0 X hs0
            refine q_of ?_
            simp only [J_X3_countAround_56, J_X3_countAround_83, J_X3_countAround_84, q_g, q_b, q_let, q_ite, q_some, z32, z64, true_or, or_true, true_and, and_true]
            refine ⟨by omega, fun h0 => by rw [if_neg (by omega)], fun h0 => ?_⟩
            rw [if_pos (by omega)]
            refine q_eq key ?_
            refine ⟨by omega, fun h0 => by rw [h0], fun h0 => ?_⟩
            rw [show q_one g beam w f (frame + 1 + k) = 1 by omega]
          refine q_of ?_
          simp only [J_X3_countAround_b29, J_X3_countAround_51, q_g, q_b, q_let, q_ite, q_some, z32, z64, true_or, or_true, true_and, and_true]
          rw [h.1.1]
          refine ⟨by omega, fun _ => ⟨by omega, fun h1 => ?_, fun h1 => ⟨by omega, fun h2 => ?_, fun h2 => ?_⟩⟩, fun h9 => by omega⟩
          · rw [if_pos (Or.inl h1)]; exact q_eq (w56 1 _ (Or.inr rfl)) rfl
          · rw [if_pos (Or.inr h2)]; exact q_eq (w56 1 _ (Or.inr rfl)) rfl
          · rw [if_neg (by omega)]; exact q_eq (w56 0 _ (Or.inl rfl)) rfl
        · refine q_of ?_
          simp only [J_X3_countAround_b29, q_g, q_b, q_let, q_ite, q_some, z32, z64, true_or, or_true, true_and, and_true]
          rw [h.1.1]
          exact ⟨by omega, fun h9 => by omega, fun _ => trivial⟩
      · omega
    · refine q_of ?_
      simp only [J_X3_countAround_b17, q_g, q_b, q_let, q_ite, q_some, z32, z64, true_or, or_true, true_and, and_true]
      rw [h.1.2]
      exact ⟨by omega, fun _ => trivial, fun h9 => by omega⟩
  · refine q_of ?_
    simp only [J_X3_countAround_b6, q_g, q_b, q_let, q_ite, q_some, z32, z64, true_or, or_true, true_and, and_true]
    exact ⟨by omega, fun _ => trivial, fun h9 => by omega⟩
/-- the least SLACK of a WORD -/
def q_kw (g : z_St) (w : Nat) : Option Int := e_mins (fun f => e_mins (fun k => q_sl g w f (f + 1 + k)) ((g 168 2).toNat - f)) (g 168 2).toNat
theorem q_kw_bd {g : z_St} (hB : q_RB g) {w : Nat} (hw : w < g 168 18) : e_bd 10000000000000 (q_kw g w) := e_bd_mins fun f hf => e_bd_mins fun k hk => q_sl_bd hB hw (by omega) (by omega)
theorem s_X3_leastSlackOf {g st : z_St} (hB : q_RB g) (h : q_LC g st) {w : Nat} (hw : w < g 168 18) : J_X3_leastSlackOf w st = some (e_I 1152921504606846976 (q_kw g w)) := by
  have hw1 := hB.2.2.2.2.1.1
  have hf1 := hB.1.1
  refine q_of ?_
  simp only [J_X3_leastSlackOf, q_g, q_b, q_let, q_ite, q_some, z32, z64, true_or, or_true, true_and, and_true]
  refine q_eq (q_mins0 none (fun f => e_mins (fun k => q_sl g w f (f + 1 + k)) ((g 168 2).toNat - f)) (g 168 2).toNat (by omega) (fun f hf => ?_) (fun x => ?_)) rfl
  · refine q_of ?_
    simp only [J_X3_leastSlackOf_b7, q_g, q_b, q_let, q_ite, q_some, z32, z64, true_or, or_true, true_and, and_true]
    rw [h.1.2]
    refine ⟨by omega, fun _ => ?_, fun h9 => by omega⟩
    refine q_eq (q_mins _ (fun k => q_sl g w f (f + 1 + k)) ((f : Int) + 1) ((g 168 2).toNat - f) (by omega) (fun k hk => ?_) (fun x => ?_)) rfl
    · refine q_of ?_
      simp only [J_X3_leastSlackOf_b22, q_g, q_b, q_let, q_ite, q_some, z32, z64, true_or, or_true, true_and, and_true]
      rw [h.1.2]
      refine ⟨by omega, fun h9 => by omega, fun _ => ?_⟩
      refine q_eq s_X3_arcAt ?_
      have e := h.2 w f (f + 1 + k) hw (by omega) (by omega) trivial
      have b1 := q_sl_bd hB (w := w) (f := f) (t := f + 1 + k) hw (by omega) (by omega)
      have b2 : e_bd 10000000000000 (e_min (e_min none (e_mins (fun f => e_mins (fun k => q_sl g w f (f + 1 + k)) ((g 168 2).toNat - f)) f)) (e_mins (fun k => q_sl g w f (f + 1 + k)) k)) := e_bd_min (e_bd_mins fun f hf => e_bd_mins fun k hk => q_sl_bd hB hw (by omega) (by omega)) (e_bd_mins fun k hk => q_sl_bd hB hw (by omega) (by omega))
      have c1 := e_I_le (K := 1152921504606846976) b1 (by decide) (by decide)
      have c2 := e_I_le (K := 1152921504606846976) b2 (by decide) (by decide)
      rw [show 289 * (w : Int) + 17 * f + ((f : Int) + 1 + k) = 289 * (w : Int) + 17 * f + ((f + 1 + k : Nat) : Int) by omega, e]
      refine ⟨by omega, by omega, ?_⟩
      rw [e_min_N b2 b1 (by decide)]
    · refine q_of ?_
      simp only [J_X3_leastSlackOf_b22, q_g, q_b, q_let, q_ite, q_some, z32, z64, true_or, or_true, true_and, and_true]
      rw [h.1.2]
      exact ⟨by omega, fun _ => trivial, fun h9 => by omega⟩
  · refine q_of ?_
    simp only [J_X3_leastSlackOf_b7, q_g, q_b, q_let, q_ite, q_some, z32, z64, true_or, or_true, true_and, and_true]
    rw [h.1.2]
    exact ⟨by omega, fun h9 => by omega, fun _ => trivial⟩
