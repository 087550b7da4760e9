-- THE REFERENCE'S ARCS: before, behind, rest, through
theorem e_mins_allnone {f : Nat → Option Int} : ∀ {n : Nat}, (∀ i, i < n → f i = none) → e_mins f n = none := by
  intro n
  induction n with
  | zero => intro _; rfl
  | succ n ih => intro h; show e_min (e_mins f n) (f n) = none; rw [ih fun i hi => h i (by omega), h n (by omega)]; rfl
theorem q_bf_0 {g : z_St} {w t : Nat} : q_bf g 0 w t = if t = 0 then none else e_add (q_tab g w 0 t) (some (q_dear g 5 w)) := by
  unfold q_bf
  rw [e_mins_0 (fun i a b => by
    show e_add (if i = 0 then _ else none) _ = none
    rw [if_neg (by omega)]; rfl)]
  by_cases e : t = 0
  · rw [if_pos e, if_pos e]
  · rw [if_neg e, if_neg e, e_add_comm]; rfl
def q_bfv (g : z_St) (o w t k v : Nat) : Option Int := e_add (e_add (q_bf g o v (1 + k)) (q_tab g w ((1 + k : Nat) : Int) t)) (some (q_dear g v w))
def q_bfk (g : z_St) (o w t k : Nat) : Option Int := e_mins (q_bfv g o w t k) (g 168 18).toNat
theorem q_bf_s {g : z_St} {o w t : Nat} : q_bf g (o + 1) w t = e_mins (q_bfk g o w t) (t - 1) := by
  show e_mins (fun c => e_add (q_ld g (o + 1) w c) (q_tab g w c t)) t = _
  rw [e_mins_shift (by
    rw [q_ld_succ, e_mins_allnone (f := fun v => e_add (q_bf g o v 0) (some (q_dear g v w))) (fun i _ => rfl)]; rfl)]
  refine e_mins_congr fun k hk => ?_
  rw [q_ld_succ, e_mins_add]
  unfold q_bfk
  refine e_mins_congr fun v hv => ?_
  unfold q_bfv
  rw [e_add_assoc, e_add_assoc, e_add_comm (a := some _)]
/-- the first n counts of before are laid -/
def q_beOK (g : z_St) (D : Nat → Nat → Nat → Prop) (st : z_St) : Prop := ∀ o t w : Nat, o < 4 → t ≤ g 168 2 → w < g 168 18 → D o t w → st 195 (85 * ((o : Int) + 1) + 5 * t + w) = e_I 1000000000000000000 (q_bf g o w t)
theorem s_before_19 {g st : z_St} (hS : q_same g st) (hB : q_RB g) (hT : q_tabOK g (fun _ _ => True) st) {o t w : Nat} (ho : o < 4) (ht : t ≤ g 168 2) (hw : w < g 168 18) (h : q_beOK g (fun o' _ _ => o' < o) st) :
    J_X12_laysBefore_b19 ((o : Int) + 1) t w st = some (.inl ((w : Int) + 1, z_up st 195 (85 * ((o : Int) + 1) + 5 * t + w) (e_I 1000000000000000000 (q_bf g o w t)))) := by
  have hw1 := hB.2.2.2.2.1.1
  have hf1 := hB.1.1
  have e18 := hS.2 18 (by decide) (by decide)
  have hbf := q_bf_bd hB (o := o) (by omega) hw ht
  have hbI := e_I_le (K := 1000000000000000000) hbf (by decide) (by decide)
  have hdw := q_dear_w hB hw hw
  have hX : ∀ v t' : Nat, 0 < t' → t' ≤ g 168 2 → v < g 168 18 → ∀ x : Nat, x < t' → st 184 (289 * v + 17 * x + t') = e_I 1000000000000000000 (q_tab g v x t') := fun v t' a b c x d => (hT v x t' (by omega) (by omega) (by omega) (by omega) (by omega) trivial).1
  have w165 : J_X12_laysBefore_165 ((o : Int) + 1) t w (e_I 1000000000000000000 (q_bf g o w t)) (85 * ((o : Int) + 1) + 5 * t + w) st = some (.inl ((w : Int) + 1, z_up st 195 (85 * ((o : Int) + 1) + 5 * t + w) (e_I 1000000000000000000 (q_bf g o w t)))) := by
    refine q_of ?_
    simp only [J_X12_laysBefore_165, q_g, q_b, q_let, q_ite, q_some, z32, z64, true_or, or_true, true_and, and_true]
    omega
  have w53 : (o = 0 → t = 0) → q_ok (J_X12_laysBefore_53 ((o : Int) + 1) t w st) (fun v => v = .inl ((w : Int) + 1, z_up st 195 (85 * ((o : Int) + 1) + 5 * t + w) (e_I 1000000000000000000 (q_bf g o w t)))) := by
    intro h0
    simp only [J_X12_laysBefore_53, J_X12_laysBefore_56, q_g, q_b, q_let, q_ite, q_some, z32, z64, true_or, or_true, true_and, and_true]
    refine q_mono (P := fun v => v = e_I 1000000000000000000 (q_bf g o w t)) ?_ ?_
    · cases o with
      | zero =>
        have := h0 rfl
        subst this
        refine q_eq (q_fold (fun _ => 1000000000000000000) 1 0 (by decide) (fun k hk => by omega) ?_) ?_
        · refine q_of ?_
          simp only [J_X12_laysBefore_b61, q_g, q_b, q_let, q_ite, q_some, z32, z64, true_or, or_true, true_and, and_true]
          exact ⟨by omega, fun h9 => absurd h9 (by decide), fun _ => trivial⟩
        · rw [q_bf_0, if_pos rfl]; rfl
      | succ o =>
        rw [q_bf_s]
        have hM : ∀ k : Nat, k ≤ t - 1 → e_bd 10000000000000 (e_mins (q_bfk g o w t) k) := fun k hk => e_bd_mins fun i hi => e_bd_mins fun v hv => e_bd_le (by decide) (e_bd_add (e_bd_add (q_bf_bd hB (o := o) (w := v) (f := 1 + i) (by omega) (by omega) (by omega)) (q_tab_bd hB (by omega))) (e_bd_some (q_dear_w hB (v := v) (by omega) hw).1))
        refine q_eq (q_mins none (q_bfk g o w t) 1 (t - 1) (by omega) (fun k hk => ?_) (fun x => ?_)) ?_
        · refine q_of ?_
          simp only [J_X12_laysBefore_b61, q_g, q_b, q_let, q_ite, q_some, z32, z64, true_or, or_true, true_and, and_true]
          refine ⟨by omega, fun _ => ⟨by omega, fun _ => ?_, fun h9 => absurd (show (1 : Int) < ((o + 1 : Nat) : Int) + 1 by omega) h9⟩, fun h9 => absurd (show 1 + (k : Int) < t by omega) h9⟩
          refine q_eq (q_mins0 _ (q_bfv g o w t k) (g 168 18).toNat (by omega) (fun v hv => ?_) (fun x => ?_)) rfl
          · refine q_of ?_
            simp only [J_X12_laysBefore_b75, q_g, q_b, q_let, q_ite, q_some, z32, z64, true_or, or_true, true_and, and_true]
            rw [e18]
            refine ⟨by omega, fun _ => ?_, fun h9 => absurd (show (v : Int) < g 168 18 by omega) h9⟩
            refine q_eq s_X12_row5 ?_
            refine ⟨by omega, ?_⟩
            refine q_eq (s_X12_tableOf (by omega)) ?_
            refine q_eq (s_X12_dear hS hB.2.2.2.2.2.2 hB.2.2.2.2.2.1 (by omega)) ?_
            have e1 := hX w t (by omega) ht hw (1 + k) (by omega)
            have e2 := h o (1 + k) v (by omega) (by omega) (by omega) (by omega)
            have hv1 := q_bf_bd hB (o := o) (w := v) (f := 1 + k) (by omega) (by omega) (by omega)
            have hv2 : e_bd 600000010000 (q_tab g w ((1 + k : Nat) : Int) t) := q_tab_bd hB (by omega)
            have hv3 := q_dear_w hB (v := v) (by omega) hw
            have hv4 : e_bd 10000000000000 (e_min (e_min none (e_mins (q_bfk g o w t) k)) (e_mins (q_bfv g o w t k) v)) := e_bd_min (hM k (by omega)) (e_bd_mins fun u hu => e_bd_le (by decide) (e_bd_add (e_bd_add (q_bf_bd hB (o := o) (w := u) (f := 1 + k) (by omega) (by omega) (by omega)) hv2) (e_bd_some (q_dear_w hB (v := u) (by omega) hw).1)))
            have c1 := e_I_le (K := 1000000000000000000) hv1 (by decide) (by decide)
            have c2 := e_I_le (K := 1000000000000000000) hv2 (by decide) (by decide)
            have c4 := e_I_le (K := 1000000000000000000) hv4 (by decide) (by decide)
            rw [show 85 * (((o + 1 : Nat) : Int) + 1 - 1) + 5 * (1 + (k : Int)) + v = 85 * ((o : Int) + 1) + 5 * ((1 + k : Nat) : Int) + v by omega, e2, show 289 * (w : Int) + 17 * (1 + (k : Int)) + t = 289 * w + 17 * ((1 + k : Nat) : Int) + t by omega, e1]
            refine q_eq (s_least (by omega)) ?_
            rw [e_acc3 hv4 hv1 hv2 hv3.1 (by decide) (by decide) (by decide) (by decide) (by decide)]
            rfl
          · refine q_of ?_
            simp only [J_X12_laysBefore_b75, q_g, q_b, q_let, q_ite, q_some, z32, z64, true_or, or_true, true_and, and_true]
            rw [e18]
            exact ⟨by omega, fun h9 => by omega, fun _ => trivial⟩
        · refine q_of ?_
          simp only [J_X12_laysBefore_b61, q_g, q_b, q_let, q_ite, q_some, z32, z64, true_or, or_true, true_and, and_true]
          exact ⟨by omega, fun h9 => by omega, fun _ => trivial⟩
        · show e_I _ (e_min none _) = _
          rfl
    · rintro r rfl
      refine q_eq s_X12_row5 ?_
      refine ⟨by omega, fun hlt => q_eq w165 rfl, fun hge => ?_⟩
      have h9 : e_I 1000000000000000000 (q_bf g o w t) = 1000000000000000000 := by omega
      rw [h9] at w165 ⊢
      exact q_eq w165 rfl
  refine q_of ?_
  simp only [J_X12_laysBefore_b19, q_g, q_b, q_let, q_ite, q_some, z32, z64, true_or, or_true, true_and, and_true]
  rw [e18]
  refine ⟨by omega, fun _ => ⟨by omega, fun h1 => ⟨by omega, fun h2 => ?_, fun h2 => ?_⟩, fun h1 => ?_⟩, fun h9 => absurd (show (w : Int) < g 168 18 by omega) h9⟩
  · have o0 : o = 0 := by omega
    subst o0
    refine q_eq (s_X12_tableOf (by omega)) ?_
    refine q_eq (s_X12_dear hS hB.2.2.2.2.2.2 hB.2.2.2.2.2.1 (by omega)) ?_
    have e := hX w t (by omega) ht hw 0 (by omega)
    rw [show ((0 : Nat) : Int) = 0 from rfl] at e
    have htb : e_bd 600000010000 (q_tab g w 0 t) := q_tab_bd hB (by omega)
    have htI := e_I_le (K := 1000000000000000000) htb (by decide) (by decide)
    have hsum := e_addc_N (K := 1000000000000000000) (c := q_dear g 5 w) htb (by decide)
    have hq : q_bf g 0 w t = e_add (q_tab g w 0 t) (some (q_dear g 5 w)) := by rw [q_bf_0, if_neg (by omega)]
    rw [← hq] at hsum
    rw [e]
    simp only [J_X12_laysBefore_56, q_g, q_b, q_let, q_ite, q_some, z32, z64, true_or, or_true, true_and, and_true]
    refine q_eq (q_fold (fun _ => e_I 1000000000000000000 (q_tab g w 0 t) + q_dear g 5 w) 1 0 (by decide) (fun k hk => by omega) ?_) ?_
    · refine q_of ?_
      simp only [J_X12_laysBefore_b61, q_g, q_b, q_let, q_ite, q_some, z32, z64, true_or, or_true, true_and, and_true]
      exact ⟨by omega, fun _ => ⟨by omega, fun h9 => absurd h9 (by decide), fun _ => trivial⟩, fun _ => trivial⟩
    · refine q_eq s_X12_row5 ?_
      refine ⟨by omega, fun hlt => q_eq ?_ rfl, fun hge => q_eq ?_ rfl⟩
      · rw [if_pos (by omega)] at hsum
        rw [hsum] at w165 ⊢
        exact w165
      · have h9 : e_I 1000000000000000000 (q_bf g 0 w t) = 1000000000000000000 := by omega
        rw [h9] at w165 ⊢
        exact w165
  · exact w53 (fun _ => by omega)
  · exact w53 (fun h9 => by omega)
theorem q_tabOK_of {g st st' : z_St} (h : q_tabOK g (fun _ _ => True) st) (h3 : st' 183 = st 183) (h4 : st' 184 = st 184) : q_tabOK g (fun _ _ => True) st' := fun w f t a b c d e k9 => by
  rw [h3, h4]; exact h w f t a b c d e k9
theorem s_X12_laysBefore {g st0 : z_St} (hS : q_same g st0) (hB : q_RB g) (hT : q_tabOK g (fun _ _ => True) st0) : q_ok (J_X12_laysBefore st0) (fun st => (∀ x, x ≠ 195 → st x = st0 x) ∧ q_beOK g (fun _ _ _ => True) st) := by
  have hw1 := hB.2.2.2.2.1.1
  have hf1 := hB.1.1
  simp only [J_X12_laysBefore, q_g, q_b, q_let, q_ite, q_some, z32, z64, true_or, or_true, true_and, and_true]
  refine q_for (fun o st => (∀ x, x ≠ 195 → st x = st0 x) ∧ q_beOK g (fun o' _ _ => o' < o) st) 1 4 (by decide) ⟨fun _ _ => rfl, fun o t w _ _ _ h => by omega⟩ ?_ ?_
  · rintro o st ho ⟨i1, i2⟩
    simp only [J_X12_laysBefore_b2, q_g, q_b, q_let, q_ite, q_some, z32, z64, true_or, or_true, true_and, and_true]
    refine ⟨by omega, fun h9 => by omega, fun _ => ?_⟩
    refine q_mono (P := fun st1 => (∀ x, x ≠ 195 → st1 x = st0 x) ∧ q_beOK g (fun o' _ _ => o' < o + 1) st1) ?_ (fun st1 h1 => ⟨_, rfl, h1⟩)
    refine q_for0 (fun t st => (∀ x, x ≠ 195 → st x = st0 x) ∧ q_beOK g (fun o' t' _ => o' < o ∨ (o' = o ∧ t' < t)) st) ((g 168 2).toNat + 1) (by omega) ⟨i1, fun o' t w a b c d => i2 o' t w a b c (by omega)⟩ ?_ ?_
    · rintro t st ht ⟨i1, i2⟩
      have hS1 : q_same g st := q_same_of hS (fun x a b => i1 x (by omega))
      simp only [J_X12_laysBefore_b9, q_g, q_b, q_let, q_ite, q_some, z32, z64, true_or, or_true, true_and, and_true]
      rw [hS1.2 2 (by decide) (by decide)]
      refine ⟨by omega, fun h9 => by omega, fun _ => ?_⟩
      refine q_mono (P := fun st1 => (∀ x, x ≠ 195 → st1 x = st0 x) ∧ q_beOK g (fun o' t' _ => o' < o ∨ (o' = o ∧ t' < t + 1)) st1) ?_ (fun st1 h1 => ⟨_, rfl, h1⟩)
      refine q_for0 (fun w st => (∀ x, x ≠ 195 → st x = st0 x) ∧ q_beOK g (fun o' t' w' => o' < o ∨ (o' = o ∧ (t' < t ∨ (t' = t ∧ w' < w)))) st) (g 168 18).toNat (by omega) ⟨i1, fun o' t w a b c d => i2 o' t w a b c (by omega)⟩ ?_ ?_
      · rintro w st hw ⟨i1, i2⟩
        have hS1 : q_same g st := q_same_of hS (fun x a b => i1 x (by omega))
        have key := s_before_19 hS1 hB (q_tabOK_of hT (i1 183 (by decide)) (i1 184 (by decide))) (o := o) (t := t) (w := w) ho (by omega) (by omega) (fun o' t' w' a b c d => i2 o' t' w' a b c (Or.inl d))
        rw [show 1 + (o : Int) = o + 1 by omega]
        refine q_eq key ⟨_, rfl, fun x hx => (q_up_row hx).trans (i1 x hx), fun o' t' w' a b c d => ?_⟩
        rw [q_up_at]
        by_cases e : o' = o ∧ t' = t ∧ w' = w
        · obtain ⟨rfl, rfl, rfl⟩ := e
          rw [if_pos rfl]
        · rw [if_neg (by omega)]
          exact i2 o' t' w' a b c (by omega)
      · rintro st ⟨i1, i2⟩
        have hS1 : q_same g st := q_same_of hS (fun x a b => i1 x (by omega))
        simp only [J_X12_laysBefore_b19, q_g, q_b, q_let, q_ite, q_some, z32, z64, true_or, or_true, true_and, and_true]
        rw [hS1.2 18 (by decide) (by decide)]
        refine ⟨by omega, fun h9 => by omega, fun _ => ⟨_, rfl, i1, fun o' t' w' a b c d => i2 o' t' w' a b c (by omega)⟩⟩
    · rintro st ⟨i1, i2⟩
      have hS1 : q_same g st := q_same_of hS (fun x a b => i1 x (by omega))
      simp only [J_X12_laysBefore_b9, q_g, q_b, q_let, q_ite, q_some, z32, z64, true_or, or_true, true_and, and_true]
      rw [hS1.2 2 (by decide) (by decide)]
      refine ⟨by omega, fun _ => ⟨_, rfl, i1, fun o' t' w' a b c d => i2 o' t' w' a b c (by omega)⟩, fun h9 => by omega⟩
  · rintro st ⟨i1, i2⟩
    simp only [J_X12_laysBefore_b2, q_g, q_b, q_let, q_ite, q_some, z32, z64, true_or, or_true, true_and, and_true]
    refine ⟨by decide, fun _ => ⟨_, rfl, i1, fun o' t' w' a b c d => i2 o' t' w' a b c (by omega)⟩, fun h9 => absurd (by decide) h9⟩
