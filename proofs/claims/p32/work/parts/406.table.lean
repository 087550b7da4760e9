-- WHAT A WORD TAKES: the reference's laysTable
def q_tabk (g : z_St) (w f t : Int) (k : Nat) : Option Int := e_mins (fun j => e_add (q_take g (2 * w + j) f t) (some (g 181 (2 * w + j)))) k
/-- what a WORD takes over the FRAMES from f up to t -/
def q_tab (g : z_St) (w f t : Int) : Option Int := q_tabk g w f t (g 178 w).toNat
theorem q_tabk_bd {g : z_St} (hB : q_RB g) {w f t : Int} (h : 0 ≤ w ∧ w < 5 ∧ 0 ≤ f ∧ t ≤ g 168 2) {k : Nat} (hk : k ≤ g 178 w) : e_bd 600000010000 (q_tabk g w f t k) := by
  obtain ⟨hf, hs, hn, ht, hw, hb, hp⟩ := hB
  refine e_bd_mins fun i hi => ?_
  have h1 := q_said_of hw (w := w) (k := (i : Int)) (by omega)
  have h2 := q_take_bd hf hs hn (f := f) (t := t) h1 (by omega)
  have h3 := (hw.2.2.2.2.1 (2 * w + i) (by have := h1.1; omega) (by have := h1.1; omega)).2
  have h4 : e_bd 10000 (some (g 181 (2 * w + i))) := fun x hx => by cases hx; omega
  exact e_bd_add h2 h4
theorem q_tab_bd {g : z_St} (hB : q_RB g) {w f t : Int} (h : 0 ≤ w ∧ w < 5 ∧ 0 ≤ f ∧ t ≤ g 168 2) : e_bd 600000010000 (q_tab g w f t) := by
  have h1 := hB.2.2.2.2.1.2.1 w (by omega) (by omega)
  exact q_tabk_bd hB h (by omega)
theorem s_laysTable_24 {g st0 : z_St} (hS : q_same g st0) (hf : q_Rf g) {w f : Int} (h : 0 ≤ w ∧ w < 5 ∧ 0 ≤ f ∧ f < g 168 2) :
    q_ok (z_iter z_F (fun q9 : (Int × z_St) => J_X12_laysTable_b24 w f q9.1 q9.2) (f + 1, st0)) (fun st => (∀ x, x ≠ 184 → st x = st0 x) ∧ (∀ y, ¬ (289 * w + 17 * f + f < y ∧ y ≤ 289 * w + 17 * f + g 168 2) → st 184 y = st0 184 y) ∧ ∀ t, f < t → t ≤ g 168 2 → st 184 (289 * w + 17 * f + t) = 1000000000000000000) := by
  have hf1 := hf.1
  refine q_loop (fun q => f + 1 ≤ q.1 ∧ q.1 ≤ g 168 2 + 1 ∧ (∀ x, x ≠ 184 → q.2 x = st0 x) ∧ (∀ y, ¬ (289 * w + 17 * f + f < y ∧ y ≤ 289 * w + 17 * f + g 168 2) → q.2 184 y = st0 184 y) ∧ ∀ t, f < t → t < q.1 → q.2 184 (289 * w + 17 * f + t) = 1000000000000000000) (fun q => (18 - q.1).toNat) ⟨by show f + 1 ≤ f + 1; omega, by show f + 1 ≤ _; omega, fun _ _ => rfl, fun _ _ => rfl, fun t b1 b2 => by have b2 : t < f + 1 := b2; omega⟩ (by show (18 - (f + 1)).toNat < _; omega) ?_
  rintro ⟨v, st⟩ ⟨i1, i2, i3, i4, i5⟩
  dsimp only at i1 i2 i3 i4 i5
  have hS2 : q_same g st := q_same_of hS (fun x a b => i3 x (by omega))
  simp only [J_X12_laysTable_b24, q_g, q_b, q_let, q_ite, q_some, z32, z64, true_or, or_true, true_and, and_true]
  rw [hS2.2 2 (by decide) (by decide)]
  refine ⟨by omega, fun hx => ⟨i3, i4, fun t b1 b2 => i5 t b1 (by omega)⟩, fun hx => ?_⟩
  refine q_eq s_X12_span ⟨by omega, ⟨by omega, by omega, fun x hx => by rw [q_up_row hx]; exact i3 x hx, fun y hy => ?_, fun t b1 b2 => ?_⟩, by omega⟩
  · rw [q_up_at, if_neg (by omega)]; exact i4 y hy
  · rw [q_up_at]
    by_cases e : t = v
    · subst e; rw [if_pos rfl]
    · rw [if_neg (by omega)]; exact i5 t b1 (by omega)
theorem e_min_far {a b : Option Int} {B x : Int} (ha : e_bd B a) (hb : e_bd B b) (hx : 0 ≤ x ∧ x ≤ 10000) (hB : B ≤ 100000000000000) : (if e_I 1000000000000000000 a < e_I 1000000000000000000 b + x then e_I 1000000000000000000 a else e_I 1000000000000000000 b + x) = e_I 1000000000000000000 (e_min a (e_add b (some x))) := by
  cases a with
  | none => cases b with
    | none =>
      show (if (1000000000000000000 : Int) < 1000000000000000000 + x then (1000000000000000000 : Int) else 1000000000000000000 + x) = 1000000000000000000
      split <;> omega
    | some y =>
      have := hb y rfl
      show (if (1000000000000000000 : Int) < y + x then (1000000000000000000 : Int) else y + x) = y + x
      split <;> omega
  | some z => cases b with
    | none =>
      have := ha z rfl
      show (if z < 1000000000000000000 + x then z else 1000000000000000000 + x) = z
      split <;> omega
    | some y =>
      have := ha z rfl
      have := hb y rfl
      show (if z < y + x then z else y + x) = (if z ≤ y + x then z else y + x)
      (repeat' split) <;> omega
theorem s_laysTable_80 {g st0 : z_St} (hS : q_same g st0) (hB : q_RB g) {w f : Int} {k : Nat} (h : 0 ≤ w ∧ w < 5 ∧ 0 ≤ f ∧ f < g 168 2) (hk : k < g 178 w)
    (h1 : ∀ t, f < t → t ≤ g 168 2 → st0 183 (289 * (2 * w + k) + 17 * f + t) = e_I 1000000000000000000 (q_take g (2 * w + k) f t))
    (h2 : ∀ t, f < t → t ≤ g 168 2 → st0 184 (289 * w + 17 * f + t) = e_I 1000000000000000000 (q_tabk g w f t k)) :
    q_ok (z_iter z_F (fun q9 : (Int × z_St) => J_X12_laysTable_b80 w f (k : Int) q9.1 q9.2) (f + 1, st0)) (fun st => (∀ x, x ≠ 184 → st x = st0 x) ∧ (∀ y, ¬ (289 * w + 17 * f + f < y ∧ y ≤ 289 * w + 17 * f + g 168 2) → st 184 y = st0 184 y) ∧ ∀ t, f < t → t ≤ g 168 2 → st 184 (289 * w + 17 * f + t) = e_I 1000000000000000000 (q_tabk g w f t (k + 1))) := by
  have hf1 := hB.1.1
  have hB0 := hB
  obtain ⟨hf, hs, hn, ht, hw, hb, hp⟩ := hB
  have hk2 := hw.2.1 w (by omega) (by omega)
  refine q_loop (fun q => f + 1 ≤ q.1 ∧ q.1 ≤ g 168 2 + 1 ∧ (∀ x, x ≠ 184 → q.2 x = st0 x) ∧ (∀ y, ¬ (289 * w + 17 * f + f < y ∧ y < 289 * w + 17 * f + q.1) → q.2 184 y = st0 184 y) ∧ ∀ t, f < t → t < q.1 → q.2 184 (289 * w + 17 * f + t) = e_I 1000000000000000000 (q_tabk g w f t (k + 1))) (fun q => (18 - q.1).toNat) ⟨by show f + 1 ≤ f + 1; omega, by show f + 1 ≤ _; omega, fun _ _ => rfl, fun _ _ => rfl, fun t b1 b2 => by have b2 : t < f + 1 := b2; omega⟩ (by show (18 - (f + 1)).toNat < _; omega) ?_
  rintro ⟨v, st⟩ ⟨i1, i2, i3, i4, i5⟩
  dsimp only at i1 i2 i3 i4 i5
  have hS2 : q_same g st := q_same_of hS (fun x a b => i3 x (by omega))
  simp only [J_X12_laysTable_b80, q_g, q_b, q_let, q_ite, q_some, z32, z64, true_or, or_true, true_and, and_true]
  rw [hS2.2 2 (by decide) (by decide)]
  refine ⟨by omega, fun hx => ⟨i3, fun y hy => i4 y (by omega), fun t b1 b2 => i5 t b1 (by omega)⟩, fun hx => ?_⟩
  have hsa := q_said_of hw (w := w) (k := (k : Int)) (by omega)
  have hsa1 := hsa.1
  have t1 := q_take_bd hf hs hn (f := f) (t := v) hsa (by omega)
  have t2 := q_tabk_bd hB0 (w := w) (f := f) (t := v) (by omega) (k := k) (by omega)
  have t1 := e_bd_le (C := 600000010000) (by decide) t1
  have x1 := (hw.2.2.2.2.1 (2 * w + k) (by omega) (by omega)).2
  have m := e_min_far t2 t1 ⟨x1.1, Int.le_trans x1.2 (by decide)⟩ (by decide)
  refine q_eq s_X12_span (q_eq s_X12_span ⟨by omega, q_eq s_X12_span ⟨by omega, by omega, ?_⟩⟩)
  rw [hS2.1 181 (by decide) (by decide), i3 183 (by decide), h1 v (by omega) (by omega), i4 _ (by omega), h2 v (by omega) (by omega)]
  have c1 : ∀ o : Option Int, e_bd 600000010000 o → 0 ≤ e_I 1000000000000000000 o ∧ e_I 1000000000000000000 o ≤ 1000000000000000000 := fun o ho => by
    cases o with
    | none => exact ⟨by decide, by decide⟩
    | some x => have := ho x rfl; rw [e_I_some]; omega
  have c2 := c1 _ t1
  have c3 := c1 _ t2
  refine ⟨by omega, q_eq (s_X12_least (by omega)) ⟨by omega, ⟨by omega, by omega, fun x hx => by rw [q_up_row hx]; exact i3 x hx, fun y hy => ?_, fun t b1 b2 => ?_⟩, by omega⟩⟩
  · rw [q_up_at, if_neg (by omega)]; exact i4 y (by omega)
  · rw [q_up_at]
    by_cases e : t = v
    · subst e; rw [if_pos rfl, m]; rfl
    · rw [if_neg (by omega)]; exact i5 t b1 (by omega)
/-- the reference's table is laid for the WORDS and FRAMES of the set D -/
def q_tabOK (g : z_St) (D : Int → Int → Prop) (st : z_St) : Prop := ∀ w f t, 0 ≤ w → w < g 168 18 → 0 ≤ f → f < t → t ≤ g 168 2 → D w f → st 184 (289 * w + 17 * f + t) = e_I 1000000000000000000 (q_tab g w f t) ∧ ∀ k, 0 ≤ k → k < g 178 w → st 183 (289 * (2 * w + k) + 17 * f + t) = e_I 1000000000000000000 (q_take g (2 * w + k) f t)
/-- one WORD from one FRAME on -/
theorem s_laysTable_12 {g st0 : z_St} (hS : q_same g st0) (hB : q_RB g) {w : Int} (h : 0 ≤ w ∧ w < g 168 18) (h0 : q_tabOK g (fun w' _ => w' < w) st0) :
    q_ok (z_iter z_F (fun q9 : (Int × z_St) => J_X12_laysTable_b12 w q9.1 q9.2) (0, st0)) (fun st => (∀ x, x ≠ 183 → x ≠ 184 → x ≠ 185 → st x = st0 x) ∧ q_tabOK g (fun w' _ => w' < w + 1) st) := by
  have hf1 := hB.1.1
  have hw1 := hB.2.2.2.2.1.1
  have hB0 := hB
  obtain ⟨hf, hs, hn, ht, hw, hb, hp⟩ := hB
  have hk2 := hw.2.1 w (by omega) (by omega)
  refine q_loop (fun q => 0 ≤ q.1 ∧ q.1 ≤ g 168 2 ∧ (∀ x, x ≠ 183 → x ≠ 184 → x ≠ 185 → q.2 x = st0 x) ∧ q_tabOK g (fun w' f' => w' < w ∨ w' = w ∧ f' < q.1) q.2) (fun q => (17 - q.1).toNat) ⟨by show (0 : Int) ≤ 0; omega, by show (0 : Int) ≤ _; omega, fun _ _ _ _ => rfl, fun w' f t a b c d e k => h0 w' f t a b c d e (by rcases k with k | ⟨_, k⟩; exact k; exact absurd k (by show ¬ f < 0; omega))⟩ (by show (17 - (0 : Int)).toNat < _; decide) ?_
  rintro ⟨f, st⟩ ⟨i1, i2, i3, i4⟩
  dsimp only at i1 i2 i3 i4
  have hS2 : q_same g st := q_same_of hS (fun x a b => i3 x (by omega) (by omega) (by omega))
  simp only [J_X12_laysTable_b12, q_g, q_b, q_let, q_ite, q_some, z32, z64, true_or, or_true, true_and, and_true]
  rw [hS2.2 2 (by decide) (by decide)]
  refine ⟨by omega, fun hx => ?_, fun hx => ⟨i3, fun w' f' t a b c d e k => i4 w' f' t a b c d e (by omega)⟩⟩
  refine q_mono (s_laysTable_24 hS2 hf (w := w) (f := f) (by omega)) ?_
  rintro st1 ⟨a1, a2, a3⟩
  have hS3 : q_same g st1 := q_same_of hS2 (fun x a b => a1 x (by omega))
  -- the SAYINGS one after the other
  refine q_mono (P := fun st2 => (∀ x, x ≠ 183 → x ≠ 184 → x ≠ 185 → st2 x = st0 x) ∧ q_tabOK g (fun w' f' => w' < w ∨ w' = w ∧ f' < f + 1) st2) ?_ ?_
  · refine q_loop (fun q => ∃ k : Nat, q.1 = (k : Int) ∧ k ≤ g 178 w ∧ (∀ x, x ≠ 183 → x ≠ 184 → x ≠ 185 → q.2 x = st0 x) ∧ q_tabOK g (fun w' f' => w' < w ∨ w' = w ∧ f' < f) q.2 ∧ (∀ t, f < t → t ≤ g 168 2 → q.2 184 (289 * w + 17 * f + t) = e_I 1000000000000000000 (q_tabk g w f t k)) ∧ ∀ j t, 0 ≤ j → j < (k : Int) → f < t → t ≤ g 168 2 → q.2 183 (289 * (2 * w + j) + 17 * f + t) = e_I 1000000000000000000 (q_take g (2 * w + j) f t)) (fun q => (3 - q.1).toNat) ⟨0, rfl, by omega, fun x b1 b2 b3 => (a1 x b2).trans (i3 x b1 b2 b3), ?_, fun t b1 b2 => a3 t b1 b2, fun j t b1 b2 => by omega⟩ (by show (3 - (0 : Int)).toNat < _; decide) ?_
    · intro w' f' t a b c d e k
      have k9 := i4 w' f' t a b c d e k
      refine ⟨?_, fun j j1 j2 => ?_⟩
      · show st1 184 _ = _
        rw [a2 _ (by omega)]; exact k9.1
      · show st1 183 _ = _
        rw [a1 183 (by decide)]; exact k9.2 j j1 j2
    · rintro ⟨v, st2⟩ ⟨k, j1, j2, j3, j4, j5, j6⟩
      dsimp only at j1 j2 j3 j4 j5 j6
      subst j1
      have hS4 : q_same g st2 := q_same_of hS (fun x a b => j3 x (by omega) (by omega) (by omega))
      simp only [J_X12_laysTable_b55, q_g, q_b, q_let, q_ite, q_some, z32, z64, true_or, or_true, true_and, and_true]
      rw [hS4.1 178 (by decide) (by decide)]
      refine ⟨by omega, by omega, fun hlt => ?_, fun hge => ⟨j3, fun w' f' t a b c d e k9 => ?_⟩⟩
      · have hsa := q_said_of hw (w := w) (k := (k : Int)) (by omega)
        have hsa1 := hsa.1
        refine q_mono (s_X12_laysSaying hS4 hf hs hn hw hsa (by omega)) ?_
        rintro st3 ⟨b1, b2, b3⟩
        have hS5 : q_same g st3 := q_same_of hS4 (fun x a b => b1 x (by omega) (by omega))
        refine q_mono (s_laysTable_80 hS5 hB0 (w := w) (f := f) (k := k) (by omega) hlt b3 (fun t c1 c2 => by rw [b1 184 (by decide) (by decide)]; exact j5 t c1 c2)) ?_
        rintro st4 ⟨d1, d2, d3⟩
        refine ⟨⟨k + 1, by omega, by omega, fun x e1 e2 e3 => (d1 x e2).trans ((b1 x e3 e1).trans (j3 x e1 e2 e3)), ?_, d3, fun j t e1 e2 e3 e4 => ?_⟩, by omega⟩
        · intro w' f' t a b c d e k9
          have k8 := j4 w' f' t a b c d e k9
          have hk3 := hw.2.1 w' (by omega) (by omega)
          refine ⟨?_, fun j e1 e2 => ?_⟩
          · show st4 184 _ = _
            rw [d2 _ (by omega), b1 184 (by decide) (by decide)]; exact k8.1
          · show st4 183 _ = _
            rw [d1 183 (by decide), b2 _ (by rcases k9 with q | ⟨q, q2⟩ <;> rcases Int.lt_trichotomy j (k : Int) with q3 | q3 | q3 <;> omega)]; exact k8.2 j e1 e2
        · show st4 183 _ = _
          rw [d1 183 (by decide)]
          by_cases ej : j = k
          · subst ej; exact b3 t e3 e4
          · rw [b2 _ (by omega)]; exact j6 j t e1 (by omega) e3 e4
      · rcases k9 with k9 | ⟨rfl, k9⟩
        · exact j4 w' f' t a b c d e (Or.inl k9)
        · by_cases ef : f' = f
          · subst ef
            have ek : (k : Int) = g 178 w' := by omega
            refine ⟨?_, fun j e1 e2 => j6 j t e1 (by omega) d e⟩
            have := j5 t d e
            unfold q_tab
            rw [← ek]
            exact this
          · exact j4 w' f' t a b c d e (Or.inr ⟨rfl, by omega⟩)
  · rintro st2 ⟨b1, b2⟩
    exact ⟨⟨by omega, by omega, b1, b2⟩, by omega⟩
theorem s_X12_laysTable {g st0 : z_St} (hS : q_same g st0) (hB : q_RB g) : q_ok (J_X12_laysTable st0) (fun st => (∀ x, x ≠ 183 → x ≠ 184 → x ≠ 185 → st x = st0 x) ∧ q_tabOK g (fun _ _ => True) st) := by
  have hw1 := hB.2.2.2.2.1.1
  simp only [J_X12_laysTable, q_g, q_b, q_let, q_ite, q_some, z32, z64, true_or, or_true, true_and, and_true]
  refine q_loop (fun q => 0 ≤ q.1 ∧ q.1 ≤ g 168 18 ∧ (∀ x, x ≠ 183 → x ≠ 184 → x ≠ 185 → q.2 x = st0 x) ∧ q_tabOK g (fun w' _ => w' < q.1) q.2) (fun q => (6 - q.1).toNat) ⟨by show (0 : Int) ≤ 0; omega, by show (0 : Int) ≤ _; omega, fun _ _ _ _ => rfl, fun w f t a b c d e k => absurd k (by show ¬ w < 0; omega)⟩ (by show (6 - (0 : Int)).toNat < _; decide) ?_
  rintro ⟨w, st⟩ ⟨i1, i2, i3, i4⟩
  dsimp only at i1 i2 i3 i4
  have hS2 : q_same g st := q_same_of hS (fun x a b => i3 x (by omega) (by omega) (by omega))
  simp only [J_X12_laysTable_b2, q_g, q_b, q_let, q_ite, q_some, z32, z64, true_or, or_true, true_and, and_true]
  rw [hS2.2 18 (by decide) (by decide)]
  refine ⟨by omega, fun hx => ?_, fun hx => ⟨i3, fun w' f t a b c d e _ => i4 w' f t a b c d e (by show w' < w; omega)⟩⟩
  refine q_mono (s_laysTable_12 hS2 hB (w := w) (by omega) i4) ?_
  rintro st1 ⟨a1, a2⟩
  exact ⟨⟨by omega, by omega, fun x b1 b2 b3 => (a1 x b1 b2 b3).trans (i3 x b1 b2 b3), a2⟩, by omega⟩
