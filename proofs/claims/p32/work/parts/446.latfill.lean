-- THE CLASS'S LATTICE: fill
def q_slC (g : z_St) (D : Nat → Nat → Nat → Prop) (st : z_St) : Prop := ∀ w f t : Nat, w < g 168 18 → f < t → t ≤ g 168 2 → D w f t → st 145 (289 * (w : Int) + 17 * f + t) = e_I 1152921504606846976 (q_sl g w f t)
def q_LC (g st : z_St) : Prop := q_hd g st ∧ q_slC g (fun _ _ _ => True) st
theorem s_latfill_34 {g st : z_St} (hB : q_RB g) (hT : q_TC g st) (hd : q_hd g st) {o w f : Nat} {v4 : Int} (ho : o < 4) (hw : w < g 168 18) (hf : f ≤ g 168 2) (h : q_ltOK g (fun o' _ _ => o' < o) st) :
    q_ok (J_X3_fill_b34 v4 o w f st) (fun r => ∃ s', r = .inl ((f : Int) + 1, s') ∧ (∀ x, x ≠ 146 → x ≠ 147 → s' x = st x) ∧ (∀ j, j ≠ ((o : Int) * 5 + w) * 17 + f → s' 146 j = st 146 j ∧ s' 147 j = st 147 j) ∧ s' 146 (((o : Int) * 5 + w) * 17 + f) = e_I 1152921504606846976 (q_ld g o w f) ∧ s' 147 (((o : Int) * 5 + w) * 17 + f) = e_I 1152921504606846976 (q_tr g o w f)) := by
  have hw1 := hB.2.2.2.2.1.1
  have hf1 := hB.1.1
  simp only [J_X3_fill_b34, q_g, q_b, q_let, q_ite, q_some, z32, z64, true_or, or_true, true_and, and_true]
  rw [hd.2]
  refine ⟨by omega, fun h9 => by omega, fun _ => ?_⟩
  refine q_eq s_X3_index ?_
  refine q_eq (s_X3_leadOf hB hT hd ho hw hf h) ?_
  refine ⟨by omega, ?_⟩
  refine q_eq s_X3_index ?_
  have hT2 : q_TC g (z_up st 146 (((o : Int) * 5 + w) * 17 + f) (e_I 1152921504606846976 (q_ld g o w f))) := q_TC_of hT hB (fun x a b => by unfold q_isT at a; rw [q_up_row (by omega)])
  refine q_eq (s_X3_trailOf hB hT2 (by unfold q_hd; rw [q_up_row (by decide)]; exact hd) ho hw hf (fun v k h1 hv hk => ?_)) ?_
  · rw [q_up_row (by decide)]
    have := (h (o - 1) v k (by omega) hv hk (by omega)).2
    rw [show ((o - 1 : Nat) : Int) = (o : Int) - 1 by omega] at this
    exact this
  refine ⟨by omega, _, rfl, fun x a b => by rw [q_up_row b, q_up_row a], fun j hj => ⟨?_, ?_⟩, ?_, ?_⟩
  · rw [q_up_row (by decide), q_up_at, if_neg hj]
  · rw [q_up_at, if_neg hj, q_up_row (by decide)]
  · rw [q_up_row (by decide), z_up_at]
  · rw [z_up_at]
theorem s_latfill_13 {g st0 : z_St} (hB : q_RB g) (hT : q_TC g st0) (hd : q_hd g st0) {v4 : Int} : q_ok (z_iter z_F (fun q9 : (Int × z_St) => J_X3_fill_b13 v4 q9.1 q9.2) (0, st0)) (fun st => (∀ x, x ≠ 146 → x ≠ 147 → st x = st0 x) ∧ q_ltOK g (fun _ _ _ => True) st) := by
  have hw1 := hB.2.2.2.2.1.1
  have hf1 := hB.1.1
  refine q_for0 (fun o st => (∀ x, x ≠ 146 → x ≠ 147 → st x = st0 x) ∧ q_ltOK g (fun o' _ _ => o' < o) st) 4 (by decide) ⟨fun _ _ _ => rfl, fun o t w _ _ _ h => by omega⟩ ?_ ?_
  · rintro o st ho ⟨i1, i2⟩
    simp only [J_X3_fill_b13, q_g, q_b, q_let, q_ite, q_some, z32, z64, true_or, or_true, true_and, and_true]
    refine ⟨by omega, fun _ => ?_, fun h9 => by omega⟩
    refine q_mono (P := fun st1 => (∀ x, x ≠ 146 → x ≠ 147 → st1 x = st0 x) ∧ q_ltOK g (fun o' _ _ => o' < o + 1) st1) ?_ (fun st1 h1 => ⟨_, rfl, h1⟩)
    refine q_for0 (fun w st => (∀ x, x ≠ 146 → x ≠ 147 → st x = st0 x) ∧ q_ltOK g (fun o' w' _ => o' < o ∨ (o' = o ∧ w' < w)) st) (g 168 18).toNat (by omega) ⟨i1, fun o' t w a b c d => i2 o' t w a b c (by omega)⟩ ?_ ?_
    · rintro w st hw ⟨i1, i2⟩
      simp only [J_X3_fill_b22, q_g, q_b, q_let, q_ite, q_some, z32, z64, true_or, or_true, true_and, and_true]
      rw [i1 144 (by decide) (by decide), hd.1]
      refine ⟨by omega, fun _ => ?_, fun h9 => by omega⟩
      refine q_mono (P := fun st1 => (∀ x, x ≠ 146 → x ≠ 147 → st1 x = st0 x) ∧ q_ltOK g (fun o' w' _ => o' < o ∨ (o' = o ∧ w' < w + 1)) st1) ?_ (fun st1 h1 => ⟨_, rfl, h1⟩)
      refine q_for0 (fun f st => (∀ x, x ≠ 146 → x ≠ 147 → st x = st0 x) ∧ q_ltOK g (fun o' w' f' => o' < o ∨ (o' = o ∧ (w' < w ∨ (w' = w ∧ f' < f)))) st) ((g 168 2).toNat + 1) (by omega) ⟨i1, fun o' t w a b c d => i2 o' t w a b c (by omega)⟩ ?_ ?_
      · rintro f st hf ⟨i1, i2⟩
        have hT1 : q_TC g st := q_TC_of hT hB (fun x a b => by unfold q_isT at a; exact i1 x (by omega) (by omega))
        refine q_mono (s_latfill_34 hB hT1 (by unfold q_hd; rw [i1 144 (by decide) (by decide)]; exact hd) (o := o) (w := w) (f := f) ho (by omega) (by omega) (fun o' w' f' a b c d => i2 o' w' f' a b c (Or.inl d))) ?_
        rintro r ⟨s', rfl, k1, k2, k3, k4⟩
        refine ⟨s', rfl, fun x a b => (k1 x a b).trans (i1 x a b), fun o' w' f' a b c d => ?_⟩
        by_cases e : o' = o ∧ w' = w ∧ f' = f
        · obtain ⟨rfl, rfl, rfl⟩ := e
          exact ⟨k3, k4⟩
        · have := k2 (((o' : Int) * 5 + w') * 17 + f') (by omega)
          rw [this.1, this.2]
          exact i2 o' w' f' a b c (by omega)
      · rintro st ⟨i1, i2⟩
        simp only [J_X3_fill_b34, q_g, q_b, q_let, q_ite, q_some, z32, z64, true_or, or_true, true_and, and_true]
        rw [i1 144 (by decide) (by decide), hd.2]
        refine ⟨by omega, fun _ => ⟨_, rfl, i1, fun o' t' w' a b c d => i2 o' t' w' a b c (by omega)⟩, fun h9 => by omega⟩
    · rintro st ⟨i1, i2⟩
      simp only [J_X3_fill_b22, q_g, q_b, q_let, q_ite, q_some, z32, z64, true_or, or_true, true_and, and_true]
      rw [i1 144 (by decide) (by decide), hd.1]
      refine ⟨by omega, fun h9 => by omega, fun _ => ⟨_, rfl, i1, fun o' t' w' a b c d => i2 o' t' w' a b c (by omega)⟩⟩
  · rintro st ⟨i1, i2⟩
    simp only [J_X3_fill_b13, q_g, q_b, q_let, q_ite, q_some, z32, z64, true_or, or_true, true_and, and_true]
    refine ⟨by decide, fun h9 => absurd h9 (by decide), fun _ => ⟨_, rfl, i1, fun o' t' w' a b c d => i2 o' t' w' a b c (by omega)⟩⟩
theorem s_X3_fill {g st0 : z_St} (hB : q_RB g) (hT : q_TC g st0) : q_ok (J_X3_fill (g 168 18) (g 168 2) (e_I 1152921504606846976 (q_bw g)) st0) (fun st => (∀ x, (x < 144 ∨ 147 < x) → st x = st0 x) ∧ q_LC g st ∧ st 144 5 = 1) := by
  have hw1 := hB.2.2.2.2.1.1
  have hf1 := hB.1.1
  simp only [J_X3_fill, q_g, q_b, q_let, q_ite, q_some, z32, z64, true_or, or_true, true_and, and_true]
  have hT1 : q_TC g (z_up (z_up st0 144 3 (g 168 18)) 144 4 (g 168 2)) := q_TC_of hT hB (fun x a b => by unfold q_isT at a; rw [q_up_row (by omega), q_up_row (by omega)])
  have hd1 : q_hd g (z_up (z_up st0 144 3 (g 168 18)) 144 4 (g 168 2)) := by
    unfold q_hd
    rw [z_up_n (by decide), z_up_at, z_up_at]; exact ⟨rfl, rfl⟩
  refine q_mono (s_latfill_13 hB hT1 hd1) ?_
  rintro st1 ⟨a1, a2⟩
  have a0 : ∀ x, (x < 144 ∨ 147 < x) → st1 x = st0 x := fun x hx => by rw [a1 x (by omega) (by omega), q_up_row (by omega), q_up_row (by omega)]
  have hd2 : q_hd g st1 := by unfold q_hd; rw [a1 144 (by decide) (by decide)]; exact hd1
  have hT2 : q_TC g st1 := q_TC_of hT1 hB (fun x a b => by unfold q_isT at a; exact a1 x (by omega) (by omega))
  refine q_mono (P := fun st => (∀ x, x ≠ 145 → st x = st1 x) ∧ q_slC g (fun _ _ _ => True) st) ?_ ?_
  · refine q_for0 (fun w st => (∀ x, x ≠ 145 → st x = st1 x) ∧ q_slC g (fun w' _ _ => w' < w) st) (g 168 18).toNat (by omega) ⟨fun _ _ => rfl, fun w f t _ _ _ h => by omega⟩ ?_ ?_
    · rintro w st hw ⟨i1, i2⟩
      simp only [J_X3_fill_b114, q_g, q_b, q_let, q_ite, q_some, z32, z64, true_or, or_true, true_and, and_true]
      rw [i1 144 (by decide), hd2.1]
      refine ⟨by omega, fun _ => ?_, fun h9 => by omega⟩
      refine q_mono (P := fun st => (∀ x, x ≠ 145 → st x = st1 x) ∧ q_slC g (fun w' _ _ => w' < w + 1) st) ?_ (fun st h => ⟨_, rfl, h⟩)
      refine q_for0 (fun f st => (∀ x, x ≠ 145 → st x = st1 x) ∧ q_slC g (fun w' f' _ => w' < w ∨ (w' = w ∧ f' < f)) st) (g 168 2).toNat (by omega) ⟨i1, fun w' f t p q r s => i2 w' f t p q r (by omega)⟩ ?_ ?_
      · rintro f st hf ⟨i1, i2⟩
        simp only [J_X3_fill_b126, q_g, q_b, q_let, q_ite, q_some, z32, z64, true_or, or_true, true_and, and_true]
        rw [i1 144 (by decide), hd2.2]
        refine ⟨by omega, fun _ => ?_, fun h9 => by omega⟩
        refine q_mono (P := fun st => (∀ x, x ≠ 145 → st x = st1 x) ∧ q_slC g (fun w' f' _ => w' < w ∨ (w' = w ∧ f' < f + 1)) st) ?_ (fun st h => ⟨_, rfl, h⟩)
        refine q_for (fun k st => (∀ x, x ≠ 145 → st x = st1 x) ∧ q_slC g (fun w' f' t' => w' < w ∨ (w' = w ∧ (f' < f ∨ (f' = f ∧ t' < f + 1 + k)))) st) ((f : Int) + 1) ((g 168 2).toNat - f) (by omega) ⟨i1, fun w' f' t p q r s => i2 w' f' t p q r (by omega)⟩ ?_ ?_
        · rintro k st hk ⟨i1, i2⟩
          have hd4 : q_hd g st := by unfold q_hd; rw [i1 144 (by decide)]; exact hd2
          have hT4 : q_TC g st := q_TC_of hT2 hB (fun x a b => by unfold q_isT at a; exact i1 x (by omega))
          have key := s_X3_leastThrough (st := st) hB (fun o w f p q r s => by rw [i1 146 (by decide), i1 147 (by decide)]; exact a2 o w f p q r s) (w := w) (f := f) (t := f + 1 + k) (by omega) (by omega) (by omega)
          rw [show ((f + 1 + k : Nat) : Int) = (f : Int) + 1 + k by omega] at key
          simp only [J_X3_fill_b141, J_X3_fill_206, q_g, q_b, q_let, q_ite, q_some, z32, z64, true_or, or_true, true_and, and_true]
          rw [hd4.2]
          refine ⟨by omega, fun h9 => by omega, fun _ => ?_⟩
          refine q_eq key ?_
          refine q_eq (s_X0_span (by omega)) ?_
          refine q_eq s_X3_arcAt ?_
          have e2 := hT4.2.2.1 w f ((f : Int) + 1 + k) (by omega) (by omega) (by omega) (by omega) (by omega)
          rw [e2]
          have hb := q_thr_bd hB (w := w) (f := f) (t := f + 1 + k) (by omega) (by omega) (by omega)
          have b1 : e_bd 8000000000000 (e_mins (q_ot g w f (f + 1 + k)) 4) := e_bd_mins fun o ho => e_bd_le (by omega) (e_bd_add (q_ld_bd hB (o := o) (w := w) (f := f) (by omega) (by omega)) (q_tr_bd hB (o := 3 - o) (w := w) (t := f + 1 + k) (by omega) (by omega) (by omega)))
          have b2 : e_bd 600000010000 (q_tab g w f ((f : Int) + 1 + k)) := q_tab_bd hB (by omega)
          have c1 := e_I_le (K := 1152921504606846976) b1 (by decide) (by decide)
          have c2 := e_I_le (K := 1152921504606846976) b2 (by decide) (by decide)
          have hthr : q_thr g w f (f + 1 + k) = e_add (e_mins (q_ot g w f (f + 1 + k)) 4) (q_tab g w f ((f : Int) + 1 + k)) := by
            rw [q_thr_eq, show ((f + 1 + k : Nat) : Int) = (f : Int) + 1 + k by omega]
          have fin : ∀ v : Int, v = e_I 1152921504606846976 (q_sl g w f (f + 1 + k)) → (0 ≤ 289 * (w : Int) + 17 * f + (f + 1 + k) ∧ 289 * (w : Int) + 17 * f + (f + 1 + k) < 1445) ∧ ∃ s', (Sum.inl ((f : Int) + 1 + k + 1, z_up st 145 (289 * (w : Int) + 17 * f + (f + 1 + k)) v) : (Int × z_St) ⊕ z_St) = .inl ((f : Int) + 1 + k + 1, s') ∧ (∀ x, x ≠ 145 → s' x = st1 x) ∧ q_slC g (fun w' f' t' => w' < w ∨ (w' = w ∧ (f' < f ∨ (f' = f ∧ t' < f + 1 + (k + 1))))) s' := by
            intro v hv
            refine ⟨by omega, _, rfl, fun x hx => (q_up_row hx).trans (i1 x hx), fun w' f' t' p q r s => ?_⟩
            rw [q_up_at]
            by_cases e : w' = w ∧ f' = f ∧ t' = f + 1 + k
            · obtain ⟨rfl, rfl, rfl⟩ := e
              rw [if_pos (by omega)]; exact hv
            · rw [if_neg (by omega)]
              exact i2 w' f' t' p q r (by omega)
          have none_case : q_thr g w f (f + 1 + k) = none → (1152921504606846976 : Int) = e_I 1152921504606846976 (q_sl g w f (f + 1 + k)) := fun hx => by
            unfold q_sl; rw [hx]; rfl
          rcases e_I_cases (K := 1152921504606846976) (e_mins (q_ot g w f (f + 1 + k)) 4) with ⟨e, e'⟩ | ⟨x, e, e'⟩
          · rw [e'] at c1 ⊢
            rw [e] at hthr
            exact ⟨by omega, fun h9 => by omega, fun _ => fin _ (none_case hthr)⟩
          · have hx := b1 x e
            rcases e_I_cases (K := 1152921504606846976) (q_tab g w f ((f : Int) + 1 + k)) with ⟨k9, k'⟩ | ⟨y, k9, k'⟩
            · rw [e', k'] at *
              rw [e, k9] at hthr
              exact ⟨by omega, fun h9 => by omega, fun _ => fin _ (none_case hthr)⟩
            · have hy := b2 y k9
              rw [e', k'] at *
              rw [e, k9] at hthr
              refine ⟨by omega, fun _ => fin _ ?_, fun h9 => by omega⟩
              have hthr2 : q_thr g w f (f + 1 + k) = some (x + y) := hthr
              obtain ⟨z, hz, hle⟩ := q_thr_row hB (w := w) (f := f) (t := f + 1 + k) (by omega) (by omega) (by omega) hthr2
              unfold q_sl
              rw [hthr2, hz]; rfl
        · rintro st ⟨i1, i2⟩
          simp only [J_X3_fill_b141, q_g, q_b, q_let, q_ite, q_some, z32, z64, true_or, or_true, true_and, and_true]
          rw [i1 144 (by decide), hd2.2]
          refine ⟨by omega, fun _ => ⟨_, rfl, i1, fun w' f' t p q r s => i2 w' f' t p q r (by omega)⟩, fun h9 => by omega⟩
      · rintro st ⟨i1, i2⟩
        simp only [J_X3_fill_b126, q_g, q_b, q_let, q_ite, q_some, z32, z64, true_or, or_true, true_and, and_true]
        rw [i1 144 (by decide), hd2.2]
        refine ⟨by omega, fun h9 => by omega, fun _ => ⟨_, rfl, i1, fun w' f' t p q r s => i2 w' f' t p q r (by omega)⟩⟩
    · rintro st ⟨i1, i2⟩
      simp only [J_X3_fill_b114, q_g, q_b, q_let, q_ite, q_some, z32, z64, true_or, or_true, true_and, and_true]
      rw [i1 144 (by decide), hd2.1]
      refine ⟨by omega, fun h9 => by omega, fun _ => ⟨_, rfl, i1, fun w' f' t p q r s => i2 w' f' t p q r (by omega)⟩⟩
  · rintro st2 ⟨b1, b2⟩
    refine ⟨fun x hx => by rw [q_up_row (by omega), b1 x (by omega)]; exact a0 x hx, ⟨?_, fun w f t p q r s => by rw [q_up_row (by decide)]; exact b2 w f t p q r s⟩, by rw [z_up_at]⟩
    unfold q_hd
    rw [z_up_n (by decide), z_up_n (by decide), b1 144 (by decide)]; exact hd2
