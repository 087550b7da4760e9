-- THE REFERENCE'S ARCS: through, laysArcs
def q_ot (g : z_St) (w f t o : Nat) : Option Int := e_add (q_ld g o w f) (q_tr g (3 - o) w t)
theorem q_thr_eq {g : z_St} {w f t : Nat} : q_thr g w f t = e_add (e_mins (q_ot g w f t) 4) (q_tab g w f t) := rfl
theorem q_ot_0 {g : z_St} {w f t : Nat} (hf : 0 < f) : q_ot g w f t 0 = none := by
  unfold q_ot q_ld; rw [if_neg (by omega)]; rfl
theorem q_ld_f0 {g : z_St} {o w : Nat} : q_ld g (o + 1) w 0 = none := by
  rw [q_ld_succ]; exact e_mins_allnone (fun i _ => rfl)
theorem q_ot_f0 {g : z_St} {w t : Nat} : e_mins (q_ot g w 0 t) 4 = e_add (some (q_dear g 5 w)) (q_tr g 3 w t) := by
  have h : ∀ o, q_ot g w 0 t (o + 1) = none := fun o => by unfold q_ot; rw [q_ld_f0]; rfl
  show e_min (e_min (e_min (e_min none (q_ot g w 0 t 0)) (q_ot g w 0 t 1)) (q_ot g w 0 t 2)) (q_ot g w 0 t 3) = _
  rw [h 0, h 1, h 2, e_min_none, e_min_none, e_min_none]
  rfl
def q_otv (g : z_St) (w f t o v : Nat) : Option Int := e_add (e_add (q_bf g o v f) (q_tr g (3 - (o + 1)) w t)) (some (q_dear g v w))
theorem q_ot_s {g : z_St} {w f t o : Nat} : q_ot g w f t (1 + o) = e_mins (q_otv g w f t o) (g 168 18).toNat := by
  unfold q_ot
  rw [Nat.add_comm 1 o, q_ld_succ, e_mins_add]
  refine e_mins_congr fun v hv => ?_
  unfold q_otv
  rw [e_add_assoc, e_add_assoc, e_add_comm (a := some _)]
theorem s_X12_through {g st : z_St} (hS : q_same g st) (hB : q_RB g) (hT : q_tabOK g (fun _ _ => True) st) (h5 : q_beOK g (fun _ _ _ => True) st) (h6 : q_bhOK g (fun _ _ _ => True) st) {w f t : Nat} (hw : w < g 168 18) (hf : f < t) (ht : t ≤ g 168 2) :
    J_X12_through w f t st = some (e_I 1000000000000000000 (q_thr g w f t)) := by
  have hw1 := hB.2.2.2.2.1.1
  have hf1 := hB.1.1
  have e18 := hS.2 18 (by decide) (by decide)
  have hdw := q_dear_w hB hw hw
  have htb : e_bd 600000010000 (q_tab g w f t) := q_tab_bd hB (by omega)
  have htI := e_I_le (K := 1000000000000000000) htb (by decide) (by decide)
  have eT := (hT w f t (by omega) (by omega) (by omega) (by omega) (by omega) trivial).1
  have hthr := e_I_le (K := 1000000000000000000) (q_thr_bd hB hw (f := f) (t := t) (by omega) ht) (by decide) (by decide)
  -- behind the loop
  have w24 : ∀ (s0 : Int) (lx : Int), z_iter z_F (fun q9 : (Int × Int) => J_X12_through_b29 (w : Int) f t q9.1 q9.2 st) (s0, 1) = some lx → (0 ≤ lx ∧ lx ≤ 2000000000000000000) → (if lx + e_I 1000000000000000000 (q_tab g w f t) < 1000000000000000000 then lx + e_I 1000000000000000000 (q_tab g w f t) else 1000000000000000000) = e_I 1000000000000000000 (q_thr g w f t) → J_X12_through_24 (w : Int) f t s0 st = some (e_I 1000000000000000000 (q_thr g w f t)) := by
    intro s0 lx h1 h2 h3
    refine q_of ?_
    simp only [J_X12_through_24, J_X12_through_133, q_g, q_b, q_let, q_ite, q_some, z32, z64, true_or, or_true, true_and, and_true]
    refine q_eq h1 ?_
    refine q_eq (s_X12_tableOf (by omega)) ?_
    rw [eT]
    refine ⟨by omega, fun hlt => ?_, fun hge => ?_⟩
    · rw [if_pos hlt] at h3; exact h3
    · rw [if_neg hge] at h3; exact h3
  refine q_of ?_
  simp only [J_X12_through, q_g, q_b, q_let, q_ite, q_some, z32, z64, true_or, or_true, true_and, and_true]
  refine ⟨by omega, fun h0 => ?_, fun h0 => ?_⟩
  · have f0 : f = 0 := by omega
    subst f0
    refine q_eq (s_X12_dear hS hB.2.2.2.2.2.2 hB.2.2.2.2.2.1 (by omega)) ?_
    refine q_eq (s_X12_rest hB h6 (w := w) (t := t) (o := 3) hw ht (by decide)) ?_
    have b1 := q_tr_bd hB (o := 3) (by decide) hw ht
    have c1 := e_I_le (K := 1000000000000000000) b1 (by decide) (by decide)
    refine q_eq (w24 _ (q_dear g 5 w + e_I 1000000000000000000 (q_tr g 3 w t)) (q_fold (fun _ => q_dear g 5 w + e_I 1000000000000000000 (q_tr g 3 w t)) 1 0 (by decide) (fun k hk => by omega) ?_) (by omega) ?_) rfl
    · refine q_of ?_
      simp only [J_X12_through_b29, q_g, q_b, q_let, q_ite, q_some, z32, z64, true_or, or_true, true_and, and_true]
      exact ⟨by omega, fun h9 => absurd h9 (by decide), fun _ => ⟨by omega, fun h9 => absurd h9 (by decide), fun _ => trivial⟩⟩
    · rw [q_thr_eq, q_ot_f0]
      rcases e_I_cases (K := 1000000000000000000) (q_tr g 3 w t) with ⟨e, e'⟩ | ⟨x, e, e'⟩
      · rw [e', e]
        show _ = (1000000000000000000 : Int)
        rw [if_neg (by omega)]
      · have := b1 x e
        rcases e_I_cases (K := 1000000000000000000) (q_tab g w (0 : Nat) t) with ⟨k, k'⟩ | ⟨y, k, k'⟩
        · rw [e', k', e, k]
          show _ = (1000000000000000000 : Int)
          rw [if_neg (by omega)]
        · have := htb y k
          rw [e', k', e, k]
          show _ = q_dear g 5 w + x + y
          rw [if_pos (by omega)]
  · have hlx : z_iter z_F (fun q9 : (Int × Int) => J_X12_through_b29 (w : Int) f t q9.1 q9.2 st) (1000000000000000000, 1) = some (e_I 1000000000000000000 (e_mins (q_ot g w f t) 4)) := by
      rw [e_mins_shift (q_ot_0 (by omega))]
      refine q_mins none (fun k => q_ot g w f t (1 + k)) 1 3 (by decide) (fun o ho => ?_) (fun x => ?_)
      · refine q_of ?_
        simp only [J_X12_through_b29, q_g, q_b, q_let, q_ite, q_some, z32, z64, true_or, or_true, true_and, and_true]
        refine ⟨by omega, fun h9 => by omega, fun _ => ⟨by omega, fun _ => ?_, fun h9 => by omega⟩⟩
        refine q_eq (q_mins0 _ (q_otv g w f t o) (g 168 18).toNat (by omega) (fun v hv => ?_) (fun x => ?_)) (by rw [q_ot_s])
        · refine q_of ?_
          simp only [J_X12_through_b42, q_g, q_b, q_let, q_ite, q_some, z32, z64, true_or, or_true, true_and, and_true]
          rw [e18]
          refine ⟨by omega, fun _ => ?_, fun h9 => by omega⟩
          refine q_eq s_X12_row5 ?_
          refine ⟨by omega, ?_⟩
          refine q_eq (s_X12_dear hS hB.2.2.2.2.2.2 hB.2.2.2.2.2.1 (by omega)) ?_
          rw [show 3 - (1 + (o : Int)) = ((3 - (o + 1) : Nat) : Int) by omega]
          refine q_eq (s_X12_rest hB h6 (w := w) (t := t) (o := 3 - (o + 1)) hw ht (by omega)) ?_
          have e5 := h5 o f v (by omega) (by omega) (by omega) trivial
          rw [show 85 * (1 + (o : Int)) + 5 * f + v = 85 * ((o : Int) + 1) + 5 * f + v by omega, e5]
          have hv1 := q_bf_bd hB (o := o) (w := v) (f := f) (by omega) (by omega) (by omega)
          have hv2 := q_tr_bd hB (o := 3 - (o + 1)) (w := w) (t := t) (by omega) hw ht
          have hv3 := q_dear_w hB (v := v) (w := w) (by omega) hw
          have hov : ∀ o v, o < 3 → v < (g 168 18).toNat → e_bd 10000000000000 (q_otv g w f t o v) := fun o v ho hv => e_bd_le (by decide) (e_bd_add (e_bd_add (q_bf_bd hB (o := o) (w := v) (f := f) (by omega) (by omega) (by omega)) (q_tr_bd hB (o := 3 - (o + 1)) (w := w) (t := t) (by omega) hw ht)) (e_bd_some (q_dear_w hB (v := v) (w := w) (by omega) hw).1))
          have hv4 : e_bd 10000000000000 (e_min (e_min none (e_mins (fun k => q_ot g w f t (1 + k)) o)) (e_mins (q_otv g w f t o) v)) := e_bd_min (e_bd_mins fun i hi => by rw [q_ot_s]; exact e_bd_mins fun u hu => hov i u (by omega) hu) (e_bd_mins fun u hu => hov o u ho (by omega))
          have c1 := e_I_le (K := 1000000000000000000) hv1 (by decide) (by decide)
          have c2 := e_I_le (K := 1000000000000000000) hv2 (by decide) (by decide)
          have c4 := e_I_le (K := 1000000000000000000) hv4 (by decide) (by decide)
          refine q_eq (s_least (by omega)) ?_
          rw [show e_I 1000000000000000000 (q_bf g o v f) + q_dear g v w + e_I 1000000000000000000 (q_tr g (3 - (o + 1)) w t) = e_I 1000000000000000000 (q_bf g o v f) + e_I 1000000000000000000 (q_tr g (3 - (o + 1)) w t) + q_dear g v w by omega, e_acc3 hv4 hv1 hv2 hv3.1 (by decide) (by decide) (by decide) (by decide) (by decide)]
          rfl
        · refine q_of ?_
          simp only [J_X12_through_b42, q_g, q_b, q_let, q_ite, q_some, z32, z64, true_or, or_true, true_and, and_true]
          rw [e18]
          exact ⟨by omega, fun h9 => by omega, fun _ => trivial⟩
      · refine q_of ?_
        simp only [J_X12_through_b29, q_g, q_b, q_let, q_ite, q_some, z32, z64, true_or, or_true, true_and, and_true]
        exact ⟨by decide, fun _ => trivial, fun h9 => absurd (by decide) h9⟩
    have b1 : e_bd 8000000000000 (e_mins (q_ot g w f t) 4) := e_bd_mins fun o ho => e_bd_le (by omega) (e_bd_add (q_ld_bd hB hw (by omega)) (q_tr_bd hB (o := 3 - o) (by omega) hw ht))
    have c1 := e_I_le (K := 1000000000000000000) b1 (by decide) (by decide)
    refine q_eq (w24 _ _ hlx (by omega) ?_) rfl
    rw [q_thr_eq]
    rcases e_I_cases (K := 1000000000000000000) (e_mins (q_ot g w f t) 4) with ⟨e, e'⟩ | ⟨x, e, e'⟩
    · rw [e', e]
      show _ = (1000000000000000000 : Int)
      rw [if_neg (by omega)]
    · have := b1 x e
      rcases e_I_cases (K := 1000000000000000000) (q_tab g w f t) with ⟨k, k'⟩ | ⟨y, k, k'⟩
      · rw [e', k', e, k]
        show _ = (1000000000000000000 : Int)
        rw [if_neg (by omega)]
      · have := htb y k
        rw [e', k', e, k]
        show _ = x + y
        rw [if_pos (by omega)]
/-- the reference's arcs are laid -/
def q_slOK (g : z_St) (D : Nat → Nat → Nat → Prop) (st : z_St) : Prop := ∀ w f t : Nat, w < g 168 18 → f < t → t ≤ g 168 2 → D w f t → st 197 (289 * (w : Int) + 17 * f + t) = e_I 1000000000000000000 (q_sl g w f t)
theorem s_X12_laysArcs {g st0 : z_St} (hS : q_same g st0) (hB : q_RB g) : q_ok (J_X12_laysArcs st0) (fun r => (∀ x, (x < 168 ∨ (168 < x ∧ x < 183) ∨ x = 187 ∨ x = 191 ∨ 197 < x) → r.2 x = st0 x) ∧ (∀ j, j ≠ 31 → r.2 168 j = st0 168 j) ∧ q_first g (q_rows g) r.1 ∧ q_slOK g (fun _ _ _ => True) r.2) := by
  have hw1 := hB.2.2.2.2.1.1
  have hf1 := hB.1.1
  have hlen := q_len_le hB
  simp only [J_X12_laysArcs, q_g, q_b, q_let, q_ite, q_some, z32, z64, true_or, or_true, true_and, and_true]
  refine q_mono (s_X12_laysRows hS hB) ?_
  rintro ⟨b, st1⟩ ⟨a1, a2, a3, a4, a5⟩
  dsimp only at a1 a2 a3 a4 a5 ⊢
  have hS1 : q_same g st1 := ⟨fun x p q => (a1 x (by omega)).trans (hS.1 x p q), fun j p q => (a2 j (by omega)).trans (hS.2 j p q)⟩
  refine q_mono (s_X12_laysBefore hS1 hB a3) ?_
  rintro st2 ⟨b1, b2⟩
  have hS2 : q_same g st2 := q_same_of hS1 (fun x p q => b1 x (by omega))
  refine q_mono (s_X12_laysBehind hS2 hB (q_tabOK_of a3 (b1 183 (by decide)) (b1 184 (by decide)))) ?_
  rintro st3 ⟨c1, c2⟩
  have hS3 : q_same g st3 := q_same_of hS2 (fun x p q => c1 x (by omega))
  have hT3 : q_tabOK g (fun _ _ => True) st3 := q_tabOK_of a3 (by rw [c1 183 (by decide), b1 183 (by decide)]) (by rw [c1 184 (by decide), b1 184 (by decide)])
  have h53 : q_beOK g (fun _ _ _ => True) st3 := fun o t w p q r s => by rw [c1 195 (by decide)]; exact b2 o t w p q r s
  have hbw := q_bw_first a5
  have h189 : ∀ x, q_bw g = some x → (0 ≤ b ∧ b < 780) ∧ st3 189 b = x := fun x hx => by
    rcases hbw with ⟨_, h, _⟩ | ⟨k, n, y, rfl, k1, k2, k3, _⟩
    · rw [h] at hx; cases hx
    · have hk : k < q_len g := (List.getElem?_eq_some_iff.mp k1).1
      rw [k3] at hx; cases hx
      refine ⟨by omega, ?_⟩
      have hn : (q_rl (g 168 18).toNat 5556)[k]? = some n := k1
      rw [c1 189 (by decide), b1 189 (by decide), (a4.2 k n hn).2, ← q_wl_at k1, k2, e_I_some]
  refine q_mono (P := fun st => (∀ x, x ≠ 197 → st x = st3 x) ∧ q_slOK g (fun _ _ _ => True) st) ?_ (fun st h => ⟨fun x hx => by rw [h.1 x (by omega), c1 x (by omega), b1 x (by omega)]; exact a1 x (by omega), fun j hj => by rw [h.1 168 (by decide), c1 168 (by decide), b1 168 (by decide)]; exact a2 j hj, a5, h.2⟩)
  refine q_for0 (fun w st => (∀ x, x ≠ 197 → st x = st3 x) ∧ q_slOK g (fun w' _ _ => w' < w) st) (g 168 18).toNat (by omega) ⟨fun _ _ => rfl, fun w f t _ _ _ h => by omega⟩ ?_ ?_
  · rintro w st hw ⟨i1, i2⟩
    simp only [J_X12_laysArcs_b15, q_g, q_b, q_let, q_ite, q_some, z32, z64, true_or, or_true, true_and, and_true]
    rw [i1 168 (by decide), hS3.2 18 (by decide) (by decide)]
    refine ⟨by omega, fun _ => ?_, fun h9 => by omega⟩
    refine q_mono (P := fun st => (∀ x, x ≠ 197 → st x = st3 x) ∧ q_slOK g (fun w' _ _ => w' < w + 1) st) ?_ (fun st h => ⟨_, rfl, h⟩)
    refine q_for0 (fun f st => (∀ x, x ≠ 197 → st x = st3 x) ∧ q_slOK g (fun w' f' _ => w' < w ∨ (w' = w ∧ f' < f)) st) (g 168 2).toNat (by omega) ⟨i1, fun w' f t p q r s => i2 w' f t p q r (by omega)⟩ ?_ ?_
    · rintro f st hf ⟨i1, i2⟩
      simp only [J_X12_laysArcs_b25, q_g, q_b, q_let, q_ite, q_some, z32, z64, true_or, or_true, true_and, and_true]
      rw [i1 168 (by decide), hS3.2 2 (by decide) (by decide)]
      refine ⟨by omega, fun _ => ?_, fun h9 => by omega⟩
      refine q_mono (P := fun st => (∀ x, x ≠ 197 → st x = st3 x) ∧ q_slOK g (fun w' f' _ => w' < w ∨ (w' = w ∧ f' < f + 1)) st) ?_ (fun st h => ⟨_, rfl, h⟩)
      refine q_for (fun k st => (∀ x, x ≠ 197 → st x = st3 x) ∧ q_slOK g (fun w' f' t' => w' < w ∨ (w' = w ∧ (f' < f ∨ (f' = f ∧ t' < f + 1 + k)))) st) ((f : Int) + 1) ((g 168 2).toNat - f) (by omega) ⟨i1, fun w' f' t p q r s => i2 w' f' t p q r (by omega)⟩ ?_ ?_
      · rintro k st hk ⟨i1, i2⟩
        have hS4 : q_same g st := q_same_of hS3 (fun x p q => i1 x (by omega))
        have hT4 : q_tabOK g (fun _ _ => True) st := q_tabOK_of hT3 (i1 183 (by decide)) (i1 184 (by decide))
        have key := s_X12_through hS4 hB hT4 (fun o t w p q r s => by rw [i1 195 (by decide)]; exact h53 o t w p q r s) (fun m t v p q r s => by rw [i1 196 (by decide)]; exact c2 m t v p q r s) (w := w) (f := f) (t := f + 1 + k) (by omega) (by omega) (by omega)
        rw [show ((f + 1 + k : Nat) : Int) = (f : Int) + 1 + k by omega] at key
        simp only [J_X12_laysArcs_b38, J_X12_laysArcs_93, q_g, q_b, q_let, q_ite, q_some, z32, z64, true_or, or_true, true_and, and_true]
        rw [hS4.2 2 (by decide) (by decide)]
        refine ⟨by omega, fun h9 => by omega, fun _ => ?_⟩
        refine q_eq key ?_
        refine q_eq s_X12_span ?_
        have hb := q_thr_bd hB (w := w) (f := f) (t := f + 1 + k) (by omega) (by omega) (by omega)
        have hbI := e_I_le (K := 1000000000000000000) hb (by decide) (by decide)
        have fin : ∀ v : Int, v = e_I 1000000000000000000 (q_sl g w f (f + 1 + k)) → (0 ≤ 289 * (w : Int) + 17 * f + (f + 1 + k) ∧ 289 * (w : Int) + 17 * f + (f + 1 + k) < 1445) ∧ ∃ s', (Sum.inl ((f : Int) + 1 + k + 1, z_up st 197 (289 * (w : Int) + 17 * f + (f + 1 + k)) v) : (Int × z_St) ⊕ z_St) = .inl ((f : Int) + 1 + k + 1, s') ∧ (∀ x, x ≠ 197 → s' x = st3 x) ∧ q_slOK g (fun w' f' t' => w' < w ∨ (w' = w ∧ (f' < f ∨ (f' = f ∧ t' < f + 1 + (k + 1))))) s' := by
          intro v hv
          refine ⟨by omega, _, rfl, fun x hx => (q_up_row hx).trans (i1 x hx), fun w' f' t' p q r s => ?_⟩
          rw [q_up_at]
          by_cases e : w' = w ∧ f' = f ∧ t' = f + 1 + k
          · obtain ⟨rfl, rfl, rfl⟩ := e
            rw [if_pos (by omega)]; exact hv
          · rw [if_neg (by omega)]
            exact i2 w' f' t' p q r (by omega)
        refine ⟨by omega, fun hlt => ?_, fun hge => ?_⟩
        · obtain ⟨x, hx⟩ : ∃ x, q_thr g w f (f + 1 + k) = some x := by
            cases h : q_thr g w f (f + 1 + k) with
            | none => exact absurd h (hbI.2.2.mp hlt)
            | some x => exact ⟨x, rfl⟩
          obtain ⟨y, hy, hle⟩ := q_thr_row hB (w := w) (f := f) (t := f + 1 + k) (by omega) (by omega) (by omega) hx
          obtain ⟨z1, z2⟩ := h189 y hy
          rw [i1 189 (by decide), z2, hx, e_I_some]
          refine ⟨z1, fin _ ?_⟩
          unfold q_sl
          rw [hx, hy]; rfl
        · have hx : q_thr g w f (f + 1 + k) = none := by
            apply Classical.byContradiction
            intro h; exact hge (hbI.2.2.mpr h)
          refine fin _ ?_
          unfold q_sl
          rw [hx]; rfl
      · rintro st ⟨i1, i2⟩
        simp only [J_X12_laysArcs_b38, q_g, q_b, q_let, q_ite, q_some, z32, z64, true_or, or_true, true_and, and_true]
        rw [i1 168 (by decide), hS3.2 2 (by decide) (by decide)]
        refine ⟨by omega, fun _ => ⟨_, rfl, i1, fun w' f' t p q r s => i2 w' f' t p q r (by omega)⟩, fun h9 => by omega⟩
    · rintro st ⟨i1, i2⟩
      simp only [J_X12_laysArcs_b25, q_g, q_b, q_let, q_ite, q_some, z32, z64, true_or, or_true, true_and, and_true]
      rw [i1 168 (by decide), hS3.2 2 (by decide) (by decide)]
      refine ⟨by omega, fun h9 => by omega, fun _ => ⟨_, rfl, i1, fun w' f' t p q r s => i2 w' f' t p q r (by omega)⟩⟩
  · rintro st ⟨i1, i2⟩
    simp only [J_X12_laysArcs_b15, q_g, q_b, q_let, q_ite, q_some, z32, z64, true_or, or_true, true_and, and_true]
    rw [i1 168 (by decide), hS3.2 18 (by decide) (by decide)]
    refine ⟨by omega, fun h9 => by omega, fun _ => ⟨_, rfl, i1, fun w' f' t p q r s => i2 w' f' t p q r (by omega)⟩⟩
