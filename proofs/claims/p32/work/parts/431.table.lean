-- THE CLASS'S TABLE
theorem e_min_N {K B : Int} {a b : Option Int} (ha : e_bd B a) (hb : e_bd B b) (hK : B < K) : min (e_I K a) (e_I K b) = e_I K (e_min a b) := by
  rw [e_min_I ha hb hK]; omega
theorem e_addc_N {K B c : Int} {a : Option Int} (ha : e_bd B a) (hK : B < K) : e_I K (e_add a (some c)) = if e_I K a < K then e_I K a + c else K := by
  cases a with
  | none => show K = if K < K then _ else K; rw [if_neg (by omega)]
  | some x => have := ha x rfl; show x + c = if x < K then x + c else K; rw [if_pos (by omega)]
/-- what the SAYING takes, with its PRICE -/
def q_H (g : z_St) (sa f : Int) (k d : Nat) : Option Int := e_add (some (g 181 sa)) (q_G (q_c g sa f) k d)
theorem q_H_succ {g : z_St} {sa f : Int} {k d : Nat} : q_H g sa f (k + 1) (d + 1) = e_add (e_min (q_H g sa f (k + 1) d) (q_H g sa f k d)) (some (q_c g sa f k d)) := by
  unfold q_H
  rw [← e_add_min, e_add_assoc]; rfl
theorem q_H_bd {g : z_St} (hB : q_RB g) {sa f : Int} (hsa : q_said g sa) {k d : Nat} (h : 0 ≤ f ∧ f + d ≤ g 168 2 ∧ k ≤ g 179 sa) : e_bd 600000010000 (q_H g sa f k d) := by
  have hf1 := hB.1.1
  have h1 := q_G_bd (c := q_c g sa f) (C := 30000000000) (by decide) d k (fun k' d' a b => q_c_bd hB.1 hB.2.1 hB.2.2.1 hsa (by omega))
  have h2 := (hB.2.2.2.2.1.2.2.2.2.1 sa hsa.1.1 (by have := hsa.1; omega)).2
  have h3 : e_bd 9999 (some (g 181 sa)) := fun x hx => by cases hx; omega
  exact e_bd_le (by omega) (e_bd_add h3 h1)
def q_near (g st : z_St) : Prop := ∀ s form f, 0 ≤ s → s < g 168 11 → 0 ≤ form → form ≤ g 173 s → 0 ≤ f → f < g 168 2 → st (101 + (s * 4 + form)) f = q_cost g f s form
def q_kind (g : z_St) (sa : Int) (st : z_St) : Prop := ∀ p, 0 ≤ p → p < g 179 sa → st (59 + 3 * sa + 2) p = g 180 (4 * sa + p) * 4 + q_form g sa p
theorem q_kind_bd {g : z_St} (hB : q_RB g) {sa p : Int} (hsa : q_said g sa) (h : 0 ≤ p ∧ p < g 179 sa) : (0 ≤ g 180 (4 * sa + p) ∧ g 180 (4 * sa + p) < g 168 11) ∧ (0 ≤ q_form g sa p ∧ q_form g sa p ≤ g 173 (g 180 (4 * sa + p))) ∧ g 173 (g 180 (4 * sa + p)) ≤ 3 := by
  have h1 := hsa.2.2 p h.1 h.2
  have hc := hB.2.2.1.1
  have h2 := hB.2.2.1.2.2.2.1 (g 180 (4 * sa + p)) (by omega) (by omega)
  exact ⟨h1, q_form_bd h2.1, h2.2⟩
theorem q_near_at {g st : z_St} (hB : q_RB g) (hN : q_near g st) {sa f : Int} {k d : Nat} (hsa : q_said g sa) (h : 0 ≤ f ∧ f + d < g 168 2 ∧ k < g 179 sa) : st (101 + (g 180 (4 * sa + k) * 4 + q_form g sa k)) (f + d) = q_c g sa f k d := by
  have h1 := q_kind_bd hB hsa (p := (k : Int)) (by omega)
  exact hN _ _ _ h1.1.1 h1.1.2 h1.2.1.1 h1.2.1.2 (by omega) (by omega)
theorem s_X0_giveFrame {g st0 : z_St} (hC : q_C g st0) (hB : q_RB g) {sa f first : Int} {d : Nat} (hsa : q_said g sa) (h : 0 ≤ f ∧ f + d < g 168 2) (hfirst : (first = 0 ∧ 0 < d) ∨ (first = 1 ∧ d = 0))
    (hN : q_near g st0) (hK : q_kind g sa st0) (h0 : ∀ p : Nat, p < g 179 sa → st0 133 p = e_I 1152921504606846976 (q_H g sa f (p + 1) d)) :
    q_ok (J_X0_giveFrame (59 + 3 * sa) (f + d) first st0) (fun st => (∀ x, x ≠ 133 → st x = st0 x) ∧ ∀ p : Nat, p < g 179 sa → st 133 p = e_I 1152921504606846976 (q_H g sa f (p + 1) (d + 1))) := by
  have hf1 := hB.1.1
  have hs1 := hsa.1
  have hs2 := hsa.2.1
  have hn1 := hB.2.2.1.1
  have hl := hC.2.2.2.2.1.2.2 sa (by omega) (by omega)
  simp only [J_X0_giveFrame, q_g, q_b, q_let, q_ite, q_some, z32, z64, true_or, or_true, true_and, and_true]
  rw [hl.1]
  refine q_loop (fun q => ∃ r : Nat, q.1 = (r : Int) - 1 ∧ r ≤ g 179 sa ∧ (∀ x, x ≠ 133 → q.2 x = st0 x) ∧ (∀ p : Nat, p < r → q.2 133 p = st0 133 p) ∧ ∀ p : Nat, r ≤ p → p < g 179 sa → q.2 133 p = e_I 1152921504606846976 (q_H g sa f (p + 1) (d + 1))) (fun q => (q.1 + 1).toNat) ⟨(g 179 sa).toNat, by show g 179 sa - 1 = _; omega, by omega, fun _ _ => rfl, fun _ _ => rfl, fun p a b => by omega⟩ (by show (g 179 sa - 1 + 1).toNat < _; omega) ?_
  rintro ⟨v, st⟩ ⟨r, i1, i2, i3, i4, i5⟩
  dsimp only at i1 i2 i3 i4 i5
  subst i1
  cases r with
  | zero =>
    simp only [J_X0_giveFrame_b8, q_g, q_b, q_let, q_ite, q_some, z32, z64, true_or, or_true, true_and, and_true]
    exact ⟨by omega, fun _ => ⟨i3, fun p hp => i5 p (by omega) hp⟩, fun h9 => by omega⟩
  | succ r =>
    rw [show ((r + 1 : Nat) : Int) - 1 = (r : Int) by omega]
    have hA := q_H_bd hB hsa (f := f) (k := r + 1) (d := d) (by omega)
    have hA2 := q_H_bd hB hsa (f := f) (k := r) (d := d) (by omega)
    have hAI := e_I_bd (K := 1152921504606846976) hA (by decide) (by decide)
    have hA2I := e_I_bd (K := 1152921504606846976) hA2 (by decide) (by decide)
    have hcb := q_c_bd hB.1 hB.2.1 hB.2.2.1 hsa (f := f) (k := r) (d := d) (by omega)
    have hkb := q_kind_bd hB hsa (p := (r : Int)) (by omega)
    have hk := hK r (by omega) (by omega)
    have er : st 133 r = e_I 1152921504606846976 (q_H g sa f (r + 1) d) := (i4 r (by omega)).trans (h0 r (by omega))
    have ek : st (59 + 3 * sa + 2) r = g 180 (4 * sa + r) * 4 + q_form g sa r := by rw [i3 _ (by omega)]; exact hk
    have en : st (101 + (g 180 (4 * sa + r) * 4 + q_form g sa r)) (f + d) = q_c g sa f r d := by
      rw [i3 _ (by omega)]; exact q_near_at hB hN hsa (by omega)
    have hmin := e_bd_min hA hA2
    have hminI := e_I_bd (K := 1152921504606846976) hmin (by decide) (by decide)
    have fin : ∀ v : Int, v = e_I 1152921504606846976 (q_H g sa f (r + 1) (d + 1)) → ((0 ≤ (r : Int) ∧ (r : Int) < 4) ∧ ((∃ r' : Nat, (r : Int) + -1 = (r' : Int) - 1 ∧ r' ≤ g 179 sa ∧ (∀ x, x ≠ 133 → z_up st 133 (r : Int) v x = st0 x) ∧ (∀ p : Nat, p < r' → z_up st 133 (r : Int) v 133 p = st0 133 p) ∧ ∀ p : Nat, r' ≤ p → p < g 179 sa → z_up st 133 (r : Int) v 133 p = e_I 1152921504606846976 (q_H g sa f (p + 1) (d + 1))) ∧ ((r : Int) + -1 + 1).toNat < ((r : Int) + 1).toNat)) := by
      intro v hv
      refine ⟨by omega, ⟨r, by omega, by omega, fun x hx => by rw [q_up_row hx]; exact i3 x hx, fun p hp => ?_, fun p a b => ?_⟩, by omega⟩
      · rw [q_up_at, if_neg (by omega)]; exact i4 p (by omega)
      · rw [q_up_at]
        by_cases e : p = r
        · subst e; rw [if_pos rfl]; exact hv
        · rw [if_neg (by omega)]; exact i5 p (by omega) b
    have w45 : ∀ s0 : Int, s0 = e_I 1152921504606846976 (q_H g sa f r d) → q_ok (J_X0_giveFrame_45 (59 + 3 * sa) (f + d) first (r : Int) s0 st) (fun q => match q with
        | .inl s' => (∃ r' : Nat, s'.1 = (r' : Int) - 1 ∧ r' ≤ g 179 sa ∧ (∀ x, x ≠ 133 → s'.2 x = st0 x) ∧ (∀ p : Nat, p < r' → s'.2 133 p = st0 133 p) ∧ ∀ p : Nat, r' ≤ p → p < g 179 sa → s'.2 133 p = e_I 1152921504606846976 (q_H g sa f (p + 1) (d + 1))) ∧ (s'.1 + 1).toNat < ((r : Int) + 1).toNat
        | .inr st => (∀ x, x ≠ 133 → st x = st0 x) ∧ ∀ p : Nat, p < g 179 sa → st 133 p = e_I 1152921504606846976 (q_H g sa f (p + 1) (d + 1))) := by
      intro s0 hs0
      simp only [J_X0_giveFrame_45, J_X0_giveFrame_99, q_g, q_b, q_let, q_ite, q_some, z32, z64, true_or, or_true, true_and, and_true]
      rw [er, hs0, ek, en, e_min_N hA hA2 (by decide)]
      have hadd := e_addc_N (K := 1152921504606846976) (c := q_c g sa f r d) hmin (by decide)
      rw [← q_H_succ] at hadd
      refine ⟨by omega, by omega, by omega, fun hlt => ⟨by omega, by omega, by omega, ?_⟩, fun hge => ?_⟩
      · rw [if_pos hlt] at hadd
        exact fin _ hadd.symm
      · rw [if_neg hge] at hadd
        exact fin _ hadd.symm
    simp only [J_X0_giveFrame_b8, q_g, q_b, q_let, q_ite, q_some, z32, z64, true_or, or_true, true_and, and_true]
    refine ⟨by omega, fun h9 => by omega, fun _ => ⟨by omega, fun hpos => ⟨by omega, ?_⟩, fun hz => ?_⟩⟩
    · cases r with
      | zero => exact absurd hpos (by decide)
      | succ r =>
        refine q_mono (w45 _ ?_) (fun r hr => by cases r <;> exact hr)
        rw [show ((r + 1 : Nat) : Int) - 1 = (r : Int) by omega]
        exact (i4 r (by omega)).trans (h0 r (by omega))
    · have e0 : r = 0 := by omega
      subst e0
      refine ⟨by omega, fun hf0 => ?_, fun hf0 => ⟨?_, ?_⟩⟩
      · refine q_mono (w45 _ ?_) (fun r hr => by cases r <;> exact hr)
        cases d with
        | zero => omega
        | succ d => rfl
      · rw [i3 _ (by omega), hl.2.1]
        have := (hB.2.2.2.2.1.2.2.2.2.1 sa (by omega) (by omega)).2
        omega
      · refine q_mono (w45 _ ?_) (fun r hr => by cases r <;> exact hr)
        have ed : d = 0 := by omega
        subst ed
        rw [i3 _ (by omega), hl.2.1]
        show _ = g 181 sa + 0
        omega
theorem q_kind_of {g : z_St} {sa : Int} {st st' : z_St} (h : q_kind g sa st) (k : st' (59 + 3 * sa + 2) = st (59 + 3 * sa + 2)) : q_kind g sa st' := fun p a b => by rw [k]; exact h p a b
theorem q_near_of {g st st' : z_St} (h : q_near g st) (hB : q_RB g) (k : ∀ x, 101 ≤ x → x ≤ 124 → st' x = st x) : q_near g st' := fun s form f a b c d e i => by
  have h1 := hB.2.2.1.1
  have h2 := hB.2.2.1.2.2.2.1 s (by omega) (by omega)
  rw [k _ (by omega) (by omega)]; exact h s form f a b c d e i
theorem q_H_take {g : z_St} {w k f t : Int} (h : f ≤ t ∧ 0 ≤ g 179 (2 * w + k)) : e_add (q_take g (2 * w + k) f t) (some (g 181 (2 * w + k))) = q_H g (2 * w + k) f (g 179 (2 * w + k)).toNat (t - f).toNat := by
  unfold q_H q_take; exact e_add_comm
theorem s_fillSpans_68 {g st0 : z_St} (hC : q_C g st0) (hB : q_RB g) {w f : Int} {k : Nat} (h : 0 ≤ w ∧ w < g 168 18 ∧ 0 ≤ f ∧ f < g 168 2 ∧ k < g 178 w)
    (hN : q_near g st0) (hK : q_kind g (2 * w + k) st0) (h133 : ∀ p : Nat, p < g 179 (2 * w + k) → st0 133 p = 1152921504606846976) (h0 : ∀ t, f < t → t ≤ g 168 2 → st0 125 (289 * w + 17 * f + t) = e_I 1152921504606846976 (q_tabk g w f t k)) :
    q_ok (z_iter z_F (fun q9 : (Int × z_St) => J_X0_fillSpans_b68 w (59 + 3 * (2 * w + k)) (g 168 2) f q9.1 q9.2) (f + 1, st0)) (fun st => (∀ x, x ≠ 133 → x ≠ 125 → st x = st0 x) ∧ (∀ t, f < t → t ≤ g 168 2 → st 125 (289 * w + 17 * f + t) = e_I 1152921504606846976 (q_tabk g w f t (k + 1))) ∧ ∀ j, (∀ t, f < t → t ≤ g 168 2 → j ≠ 289 * w + 17 * f + t) → st 125 j = st0 125 j) := by
  have hf1 := hB.1.1
  have hw0 := hB.2.2.2.2.1
  have hw1 := hw0.1
  have hw2 := hw0.2.1 w (by omega) (by omega)
  have hsa := q_said_of hw0 (w := w) (k := k) (by omega)
  have hs2 := hsa.2.1
  refine q_loop (fun q => ∃ d : Nat, q.1 = f + 1 + d ∧ f + d ≤ g 168 2 ∧ (∀ x, x ≠ 133 → x ≠ 125 → q.2 x = st0 x) ∧ (∀ p : Nat, p < g 179 (2 * w + k) → q.2 133 p = e_I 1152921504606846976 (q_H g (2 * w + k) f (p + 1) d)) ∧ (∀ t, f < t → t ≤ f + d → q.2 125 (289 * w + 17 * f + t) = e_I 1152921504606846976 (q_tabk g w f t (k + 1))) ∧ ∀ j, (∀ t, f < t → t ≤ f + d → j ≠ 289 * w + 17 * f + t) → q.2 125 j = st0 125 j) (fun q => (18 - q.1).toNat) ⟨0, by show f + 1 = _; omega, by omega, fun _ _ _ => rfl, fun p hp => by show st0 133 p = _; rw [h133 p hp]; rfl, fun t a b => by omega, fun _ _ => rfl⟩ (by show (18 - (f + 1)).toNat < _; omega) ?_
  rintro ⟨v, st⟩ ⟨d, i1, i2, i3, i4, i5, i6⟩
  dsimp only at i1 i2 i3 i4 i5 i6
  subst i1
  have hC2 : q_C g st := q_C_D hC (fun x a b c => i3 x (by omega) (by omega))
  have hN2 : q_near g st := q_near_of hN hB (fun x a b => i3 x (by omega) (by omega))
  have hK2 : q_kind g (2 * w + k) st := q_kind_of hK (i3 _ (by omega) (by omega))
  have w110 : ∀ first : Int, f + d < g 168 2 → ((first = 0 ∧ 0 < d) ∨ (first = 1 ∧ d = 0)) → q_ok (J_X0_fillSpans_110 w (59 + 3 * (2 * w + k)) (g 168 2) f (f + 1 + d) (289 * w + 17 * f + (f + 1 + d)) first (f + d) (59 + 3 * (2 * w + k)) st) (fun r => match r with
      | .inl s' => (∃ d' : Nat, s'.1 = f + 1 + d' ∧ f + d' ≤ g 168 2 ∧ (∀ x, x ≠ 133 → x ≠ 125 → s'.2 x = st0 x) ∧ (∀ p : Nat, p < g 179 (2 * w + k) → s'.2 133 p = e_I 1152921504606846976 (q_H g (2 * w + k) f (p + 1) d')) ∧ (∀ t, f < t → t ≤ f + d' → s'.2 125 (289 * w + 17 * f + t) = e_I 1152921504606846976 (q_tabk g w f t (k + 1))) ∧ ∀ j, (∀ t, f < t → t ≤ f + d' → j ≠ 289 * w + 17 * f + t) → s'.2 125 j = st0 125 j) ∧ (18 - s'.1).toNat < (18 - (f + 1 + d)).toNat
      | .inr st => (∀ x, x ≠ 133 → x ≠ 125 → st x = st0 x) ∧ (∀ t, f < t → t ≤ g 168 2 → st 125 (289 * w + 17 * f + t) = e_I 1152921504606846976 (q_tabk g w f t (k + 1))) ∧ ∀ j, (∀ t, f < t → t ≤ g 168 2 → j ≠ 289 * w + 17 * f + t) → st 125 j = st0 125 j) := by
    intro first hd hfirst
    simp only [J_X0_fillSpans_110, q_g, q_b, q_let, q_ite, q_some, z32, z64, true_or, or_true, true_and, and_true]
    refine q_mono (s_X0_giveFrame hC2 hB hsa (f := f) (d := d) (first := first) (by omega) hfirst hN2 hK2 i4) ?_
    rintro st1 ⟨a1, a2⟩
    have hl : st1 (59 + 3 * (2 * w + k)) 2 = g 179 (2 * w + k) := by rw [a1 _ (by omega)]; exact (hC2.2.2.2.2.1.2.2 (2 * w + k) (by omega) (by omega)).1
    have e1 : st1 125 (289 * w + 17 * f + (f + 1 + d)) = e_I 1152921504606846976 (q_tabk g w f (f + 1 + d) k) := by
      rw [a1 125 (by decide), i6 _ (fun t a b => by omega)]; exact h0 _ (by omega) (by omega)
    have e2 := a2 (g 179 (2 * w + k) - 1).toNat (by omega)
    rw [show ((g 179 (2 * w + k) - 1).toNat : Int) = g 179 (2 * w + k) - 1 by omega, show (g 179 (2 * w + k) - 1).toNat + 1 = (g 179 (2 * w + k)).toNat by omega] at e2
    have b1 := q_tabk_bd hB (w := w) (f := f) (t := f + 1 + d) (by omega) (k := k) (by omega)
    have b2 := q_H_bd hB hsa (f := f) (k := (g 179 (2 * w + k)).toNat) (d := d + 1) (by omega)
    have c1 := e_I_bd (K := 1152921504606846976) b1 (by decide) (by decide)
    have c2 := e_I_bd (K := 1152921504606846976) b2 (by decide) (by decide)
    have hnew : e_min (q_tabk g w f (f + 1 + d) k) (q_H g (2 * w + k) f (g 179 (2 * w + k)).toNat (d + 1)) = q_tabk g w f (f + 1 + d) (k + 1) := by
      have := q_H_take (g := g) (w := w) (k := (k : Int)) (f := f) (t := f + 1 + d) (by omega)
      rw [show (f + 1 + (d : Int) - f).toNat = d + 1 by omega] at this
      rw [← this]; rfl
    rw [hl, e1, e2, e_min_N b1 b2 (by decide), hnew]
    refine ⟨by omega, by omega, by omega, by omega, ⟨d + 1, by omega, by omega, fun x x1 x2 => by rw [q_up_row x2, a1 x x1]; exact i3 x x1 x2, fun p hp => by rw [q_up_row (by decide)]; exact a2 p hp, fun t t1 t2 => ?_, fun j hj => ?_⟩, by omega⟩
    · rw [q_up_at]
      by_cases e : t = f + 1 + d
      · subst e; rw [if_pos rfl]
      · rw [if_neg (by omega), a1 125 (by decide)]; exact i5 t t1 (by omega)
    · rw [q_up_at, if_neg (hj _ (by omega) (by omega)), a1 125 (by decide)]
      exact i6 j (fun t t1 t2 => hj t t1 (by omega))
  simp only [J_X0_fillSpans_b68, q_g, q_b, q_let, q_ite, q_some, z32, z64, true_or, or_true, true_and, and_true]
  rw [show ((w * 17 + f) * 17) + (f + 1 + (d : Int)) = 289 * w + 17 * f + (f + 1 + d) by omega, show f + 1 + (d : Int) - 1 = f + d by omega]
  refine ⟨by omega, fun hx => ?_, fun hx => ⟨by omega, fun hd0 => ?_, fun hd0 => ?_⟩⟩
  · have e : g 168 2 = f + d := by omega
    rw [e] at *
    exact ⟨i3, i5, i6⟩
  · exact q_mono (w110 1 (by omega) (Or.inr ⟨rfl, by omega⟩)) (fun r hr => by cases r <;> exact hr)
  · exact q_mono (w110 0 (by omega) (Or.inl ⟨rfl, by omega⟩)) (fun r hr => by cases r <;> exact hr)
theorem s_X0_fillSpans {g st0 : z_St} (hC : q_C g st0) (hB : q_RB g) {w : Int} {k : Nat} (h : 0 ≤ w ∧ w < g 168 18 ∧ k < g 178 w)
    (hN : q_near g st0) (h0 : ∀ f t, 0 ≤ f → f < t → t ≤ g 168 2 → st0 125 (289 * w + 17 * f + t) = e_I 1152921504606846976 (q_tabk g w f t k)) :
    q_ok (J_X0_fillSpans w (59 + 3 * (2 * w + k)) (g 168 2) st0) (fun st => (∀ x, x ≠ 133 → x ≠ 125 → x ≠ 59 + 3 * (2 * w + k) + 2 → st x = st0 x) ∧ q_kind g (2 * w + k) st ∧ (∀ f t, 0 ≤ f → f < t → t ≤ g 168 2 → st 125 (289 * w + 17 * f + t) = e_I 1152921504606846976 (q_tabk g w f t (k + 1))) ∧ ∀ j, (∀ f t, 0 ≤ f → f < t → t ≤ g 168 2 → j ≠ 289 * w + 17 * f + t) → st 125 j = st0 125 j) := by
  have hf1 := hB.1.1
  have hw0 := hB.2.2.2.2.1
  have hw1 := hw0.1
  have hw2 := hw0.2.1 w (by omega) (by omega)
  have hsa := q_said_of hw0 (w := w) (k := k) (by omega)
  have hs2 := hsa.2.1
  simp only [J_X0_fillSpans, q_g, q_b, q_let, q_ite, q_some, z32, z64, true_or, or_true, true_and, and_true]
  refine q_mono (P := fun st => (∀ x, x ≠ 59 + 3 * (2 * w + k) + 2 → st x = st0 x) ∧ q_kind g (2 * w + k) st) ?_ ?_
  · refine q_loop (fun q => ∃ p : Nat, q.1 = (p : Int) ∧ p ≤ g 179 (2 * w + k) ∧ (∀ x, x ≠ 59 + 3 * (2 * w + k) + 2 → q.2 x = st0 x) ∧ ∀ p' : Int, 0 ≤ p' → p' < p → q.2 (59 + 3 * (2 * w + k) + 2) p' = g 180 (4 * (2 * w + k) + p') * 4 + q_form g (2 * w + k) p') (fun q => (5 - q.1).toNat) ⟨0, rfl, by omega, fun _ _ => rfl, fun p a b => by omega⟩ (by show (5 - (0 : Int)).toNat < _; decide) ?_
    rintro ⟨v, st⟩ ⟨p, i1, i2, i3, i4⟩
    dsimp only at i1 i2 i3 i4
    subst i1
    have hC2 : q_C g st := q_C_D hC (fun x a b c => i3 x (by omega))
    have hl := hC2.2.2.2.2.1.2.2 (2 * w + k) (by omega) (by omega)
    simp only [J_X0_fillSpans_b3, q_g, q_b, q_let, q_ite, q_some, z32, z64, true_or, or_true, true_and, and_true]
    rw [hl.1]
    refine ⟨by omega, fun hlt => ⟨by omega, ?_⟩, fun hge => ⟨i3, fun p' a b => i4 p' a (by omega)⟩⟩
    refine q_eq (s_X4_formAt hC2 hB hsa (by omega)) ?_
    rw [hl.2.2 p (by omega) (by omega)]
    refine ⟨by omega, ⟨p + 1, by omega, by omega, fun x hx => (q_up_row hx).trans (i3 x hx), fun p' a b => ?_⟩, by omega⟩
    rw [q_up_at]
    by_cases e : p' = p
    · subst e; rw [if_pos rfl]
    · rw [if_neg e]; exact i4 p' a (by omega)
  · rintro st1 ⟨a1, a2⟩
    refine q_loop (fun q => ∃ f : Nat, q.1 = (f : Int) ∧ f ≤ g 168 2 ∧ (∀ x, x ≠ 133 → x ≠ 125 → q.2 x = st1 x) ∧ (∀ f' t : Int, 0 ≤ f' → f' < f → f' < t → t ≤ g 168 2 → q.2 125 (289 * w + 17 * f' + t) = e_I 1152921504606846976 (q_tabk g w f' t (k + 1))) ∧ ∀ j, (∀ f' t : Int, 0 ≤ f' → f' < f → f' < t → t ≤ g 168 2 → j ≠ 289 * w + 17 * f' + t) → q.2 125 j = st1 125 j) (fun q => (17 - q.1).toNat) ⟨0, rfl, by omega, fun _ _ _ => rfl, fun f' t a b => by omega, fun _ _ => rfl⟩ (by show (17 - (0 : Int)).toNat < _; decide) ?_
    rintro ⟨v, st⟩ ⟨f, i1, i2, i3, i4, i5⟩
    dsimp only at i1 i2 i3 i4 i5
    subst i1
    simp only [J_X0_fillSpans_b45, q_g, q_b, q_let, q_ite, q_some, z32, z64, true_or, or_true, true_and, and_true]
    refine ⟨by omega, fun hlt => ?_, fun hge => ⟨fun x x1 x2 x3 => (i3 x x1 x2).trans (a1 x x3), q_kind_of a2 (i3 _ (by omega) (by omega)), fun f' t b c d => i4 f' t b (by omega) c d, fun j hj => ?_⟩⟩
    · refine q_mono (s_J7_fill (nn := 4) (x0 := 133) (x1 := 1152921504606846976) (by decide)) ?_
      rintro st2 ⟨b1, b2⟩
      have e0 : ∀ x, x ≠ 133 → x ≠ 125 → x ≠ 59 + 3 * (2 * w + k) + 2 → st2 x = st0 x := fun x x1 x2 x3 => (b1 x x1).trans ((i3 x x1 x2).trans (a1 x x3))
      have hC3 : q_C g st2 := q_C_D hC (fun x a b c => e0 x (by omega) (by omega) (by omega))
      have hN3 : q_near g st2 := q_near_of hN hB (fun x a b => e0 x (by omega) (by omega) (by omega))
      have hK3 : q_kind g (2 * w + k) st2 := q_kind_of a2 ((b1 _ (by omega)).trans (i3 _ (by omega) (by omega)))
      refine q_mono (s_fillSpans_68 hC3 hB (w := w) (f := (f : Int)) (k := k) (by omega) hN3 hK3 (fun p hp => by rw [b2 p, if_pos (by omega)]) (fun t t1 t2 => ?_)) ?_
      · rw [b1 125 (by decide), i5 _ (fun f' t' c1 c2 c3 c4 => by omega), a1 125 (by omega)]
        exact h0 f t (by omega) t1 t2
      · rintro st3 ⟨c1, c2, c3⟩
        refine ⟨⟨f + 1, by omega, by omega, fun x x1 x2 => by rw [c1 x x1 x2, b1 x x1]; exact i3 x x1 x2, fun f' t d1 d2 d3 d4 => ?_, fun j hj => ?_⟩, by omega⟩
        · by_cases e : f' = f
          · subst e; exact c2 t d3 d4
          · rw [c3 _ (fun t' e1 e2 => by omega), b1 125 (by decide)]; exact i4 f' t d1 (by omega) d3 d4
        · rw [c3 j (fun t' e1 e2 => hj f t' (by omega) (by omega) e1 e2), b1 125 (by decide)]
          exact i5 j (fun f' t d1 d2 d3 d4 => hj f' t d1 (by omega) d3 d4)
    · rw [i5 j (fun f' t d1 d2 d3 d4 => hj f' t d1 d3 d4), a1 125 (by omega)]
